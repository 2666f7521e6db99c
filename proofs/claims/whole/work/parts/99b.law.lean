/-! the law: its code, its calls, its loop -/
set_option maxRecDepth 100000 in
theorem jl_0 : decode code 0 = .ok (.new 7, 3) := by decide +kernel
set_option maxRecDepth 100000 in
theorem jl_3 : decode code 3 = .ok (.dup, 1) := by decide +kernel
set_option maxRecDepth 100000 in
theorem jl_4 : decode code 4 = .ok (.invokespecial 9, 3) := by decide +kernel
set_option maxRecDepth 100000 in
theorem jl_7 : decode code 7 = .ok (.astore_n 1, 1) := by decide +kernel
set_option maxRecDepth 100000 in
theorem jl_8 : decode code 8 = .ok (.new 10, 3) := by decide +kernel
set_option maxRecDepth 100000 in
theorem jl_11 : decode code 11 = .ok (.dup, 1) := by decide +kernel
set_option maxRecDepth 100000 in
theorem jl_12 : decode code 12 = .ok (.invokespecial 12, 3) := by decide +kernel
set_option maxRecDepth 100000 in
theorem jl_15 : decode code 15 = .ok (.astore_n 2, 1) := by decide +kernel
set_option maxRecDepth 100000 in
theorem jl_16 : decode code 16 = .ok (.iconst 0, 1) := by decide +kernel
set_option maxRecDepth 100000 in
theorem jl_17 : decode code 17 = .ok (.istore_n 3, 1) := by decide +kernel
set_option maxRecDepth 100000 in
theorem jl_18 : decode code 18 = .ok (.iload_n 3, 1) := by decide +kernel
set_option maxRecDepth 100000 in
theorem jl_19 : decode code 19 = .ok (.aload_n 0, 1) := by decide +kernel
set_option maxRecDepth 100000 in
theorem jl_20 : decode code 20 = .ok (.arraylength, 1) := by decide +kernel
set_option maxRecDepth 100000 in
theorem jl_21 : decode code 21 = .ok (.iconst 3, 1) := by decide +kernel
set_option maxRecDepth 100000 in
theorem jl_22 : decode code 22 = .ok (.isub, 1) := by decide +kernel
set_option maxRecDepth 100000 in
theorem jl_23 : decode code 23 = .ok (.if_icmp .gt 741, 3) := by decide +kernel
set_option maxRecDepth 100000 in
theorem jl_26 : decode code 26 = .ok (.aload_n 0, 1) := by decide +kernel
set_option maxRecDepth 100000 in
theorem jl_27 : decode code 27 = .ok (.iload_n 3, 1) := by decide +kernel
set_option maxRecDepth 100000 in
theorem jl_28 : decode code 28 = .ok (.iaload, 1) := by decide +kernel
set_option maxRecDepth 100000 in
theorem jl_29 : decode code 29 = .ok (.bipush 31, 2) := by decide +kernel
set_option maxRecDepth 100000 in
theorem jl_31 : decode code 31 = .ok (.iand, 1) := by decide +kernel
set_option maxRecDepth 100000 in
theorem jl_32 : decode code 32 = .ok (.tableswitch 726 0 25 #[120, 153, 186, 199, 212, 235, 248, 261, 274, 287, 300, 313, 336, 359, 392, 425, 438, 471, 484, 507, 540, 573, 596, 629, 662, 685], 120) := by decide +kernel
set_option maxRecDepth 100000 in
theorem jl_152 : decode code 152 = .ok (.aload_n 1, 1) := by decide +kernel
set_option maxRecDepth 100000 in
theorem jl_153 : decode code 153 = .ok (.aload_n 0, 1) := by decide +kernel
set_option maxRecDepth 100000 in
theorem jl_154 : decode code 154 = .ok (.iload_n 3, 1) := by decide +kernel
set_option maxRecDepth 100000 in
theorem jl_155 : decode code 155 = .ok (.iconst 1, 1) := by decide +kernel
set_option maxRecDepth 100000 in
theorem jl_156 : decode code 156 = .ok (.iadd, 1) := by decide +kernel
set_option maxRecDepth 100000 in
theorem jl_157 : decode code 157 = .ok (.iaload, 1) := by decide +kernel
set_option maxRecDepth 100000 in
theorem jl_158 : decode code 158 = .ok (.aload_n 0, 1) := by decide +kernel
set_option maxRecDepth 100000 in
theorem jl_159 : decode code 159 = .ok (.iload_n 3, 1) := by decide +kernel
set_option maxRecDepth 100000 in
theorem jl_160 : decode code 160 = .ok (.iconst 2, 1) := by decide +kernel
set_option maxRecDepth 100000 in
theorem jl_161 : decode code 161 = .ok (.iadd, 1) := by decide +kernel
set_option maxRecDepth 100000 in
theorem jl_162 : decode code 162 = .ok (.iaload, 1) := by decide +kernel
set_option maxRecDepth 100000 in
theorem jl_163 : decode code 163 = .ok (.invokevirtual 13, 3) := by decide +kernel
set_option maxRecDepth 100000 in
theorem jl_166 : decode code 166 = .ok (.aload_n 2, 1) := by decide +kernel
set_option maxRecDepth 100000 in
theorem jl_167 : decode code 167 = .ok (.aload_n 0, 1) := by decide +kernel
set_option maxRecDepth 100000 in
theorem jl_168 : decode code 168 = .ok (.iload_n 3, 1) := by decide +kernel
set_option maxRecDepth 100000 in
theorem jl_169 : decode code 169 = .ok (.iconst 1, 1) := by decide +kernel
set_option maxRecDepth 100000 in
theorem jl_170 : decode code 170 = .ok (.iadd, 1) := by decide +kernel
set_option maxRecDepth 100000 in
theorem jl_171 : decode code 171 = .ok (.iaload, 1) := by decide +kernel
set_option maxRecDepth 100000 in
theorem jl_172 : decode code 172 = .ok (.aload_n 0, 1) := by decide +kernel
set_option maxRecDepth 100000 in
theorem jl_173 : decode code 173 = .ok (.iload_n 3, 1) := by decide +kernel
set_option maxRecDepth 100000 in
theorem jl_174 : decode code 174 = .ok (.iconst 2, 1) := by decide +kernel
set_option maxRecDepth 100000 in
theorem jl_175 : decode code 175 = .ok (.iadd, 1) := by decide +kernel
set_option maxRecDepth 100000 in
theorem jl_176 : decode code 176 = .ok (.iaload, 1) := by decide +kernel
set_option maxRecDepth 100000 in
theorem jl_177 : decode code 177 = .ok (.invokevirtual 17, 3) := by decide +kernel
set_option maxRecDepth 100000 in
theorem jl_180 : decode code 180 = .ok (.if_icmp .eq 578, 3) := by decide +kernel
set_option maxRecDepth 100000 in
theorem jl_183 : decode code 183 = .ok (.iconst 0, 1) := by decide +kernel
set_option maxRecDepth 100000 in
theorem jl_184 : decode code 184 = .ok (.ireturn, 1) := by decide +kernel
set_option maxRecDepth 100000 in
theorem jl_185 : decode code 185 = .ok (.aload_n 1, 1) := by decide +kernel
set_option maxRecDepth 100000 in
theorem jl_186 : decode code 186 = .ok (.aload_n 0, 1) := by decide +kernel
set_option maxRecDepth 100000 in
theorem jl_187 : decode code 187 = .ok (.iload_n 3, 1) := by decide +kernel
set_option maxRecDepth 100000 in
theorem jl_188 : decode code 188 = .ok (.iconst 1, 1) := by decide +kernel
set_option maxRecDepth 100000 in
theorem jl_189 : decode code 189 = .ok (.iadd, 1) := by decide +kernel
set_option maxRecDepth 100000 in
theorem jl_190 : decode code 190 = .ok (.iaload, 1) := by decide +kernel
set_option maxRecDepth 100000 in
theorem jl_191 : decode code 191 = .ok (.aload_n 0, 1) := by decide +kernel
set_option maxRecDepth 100000 in
theorem jl_192 : decode code 192 = .ok (.iload_n 3, 1) := by decide +kernel
set_option maxRecDepth 100000 in
theorem jl_193 : decode code 193 = .ok (.iconst 2, 1) := by decide +kernel
set_option maxRecDepth 100000 in
theorem jl_194 : decode code 194 = .ok (.iadd, 1) := by decide +kernel
set_option maxRecDepth 100000 in
theorem jl_195 : decode code 195 = .ok (.iaload, 1) := by decide +kernel
set_option maxRecDepth 100000 in
theorem jl_196 : decode code 196 = .ok (.invokevirtual 18, 3) := by decide +kernel
set_option maxRecDepth 100000 in
theorem jl_199 : decode code 199 = .ok (.aload_n 2, 1) := by decide +kernel
set_option maxRecDepth 100000 in
theorem jl_200 : decode code 200 = .ok (.aload_n 0, 1) := by decide +kernel
set_option maxRecDepth 100000 in
theorem jl_201 : decode code 201 = .ok (.iload_n 3, 1) := by decide +kernel
set_option maxRecDepth 100000 in
theorem jl_202 : decode code 202 = .ok (.iconst 1, 1) := by decide +kernel
set_option maxRecDepth 100000 in
theorem jl_203 : decode code 203 = .ok (.iadd, 1) := by decide +kernel
set_option maxRecDepth 100000 in
theorem jl_204 : decode code 204 = .ok (.iaload, 1) := by decide +kernel
set_option maxRecDepth 100000 in
theorem jl_205 : decode code 205 = .ok (.aload_n 0, 1) := by decide +kernel
set_option maxRecDepth 100000 in
theorem jl_206 : decode code 206 = .ok (.iload_n 3, 1) := by decide +kernel
set_option maxRecDepth 100000 in
theorem jl_207 : decode code 207 = .ok (.iconst 2, 1) := by decide +kernel
set_option maxRecDepth 100000 in
theorem jl_208 : decode code 208 = .ok (.iadd, 1) := by decide +kernel
set_option maxRecDepth 100000 in
theorem jl_209 : decode code 209 = .ok (.iaload, 1) := by decide +kernel
set_option maxRecDepth 100000 in
theorem jl_210 : decode code 210 = .ok (.invokevirtual 21, 3) := by decide +kernel
set_option maxRecDepth 100000 in
theorem jl_213 : decode code 213 = .ok (.if_icmp .eq 545, 3) := by decide +kernel
set_option maxRecDepth 100000 in
theorem jl_216 : decode code 216 = .ok (.iconst 0, 1) := by decide +kernel
set_option maxRecDepth 100000 in
theorem jl_217 : decode code 217 = .ok (.ireturn, 1) := by decide +kernel
set_option maxRecDepth 100000 in
theorem jl_218 : decode code 218 = .ok (.aload_n 1, 1) := by decide +kernel
set_option maxRecDepth 100000 in
theorem jl_219 : decode code 219 = .ok (.invokevirtual 22, 3) := by decide +kernel
set_option maxRecDepth 100000 in
theorem jl_222 : decode code 222 = .ok (.aload_n 2, 1) := by decide +kernel
set_option maxRecDepth 100000 in
theorem jl_223 : decode code 223 = .ok (.invokevirtual 26, 3) := by decide +kernel
set_option maxRecDepth 100000 in
theorem jl_226 : decode code 226 = .ok (.if_icmp .eq 532, 3) := by decide +kernel
set_option maxRecDepth 100000 in
theorem jl_229 : decode code 229 = .ok (.iconst 0, 1) := by decide +kernel
set_option maxRecDepth 100000 in
theorem jl_230 : decode code 230 = .ok (.ireturn, 1) := by decide +kernel
set_option maxRecDepth 100000 in
theorem jl_231 : decode code 231 = .ok (.aload_n 1, 1) := by decide +kernel
set_option maxRecDepth 100000 in
theorem jl_232 : decode code 232 = .ok (.invokevirtual 27, 3) := by decide +kernel
set_option maxRecDepth 100000 in
theorem jl_235 : decode code 235 = .ok (.aload_n 2, 1) := by decide +kernel
set_option maxRecDepth 100000 in
theorem jl_236 : decode code 236 = .ok (.invokevirtual 30, 3) := by decide +kernel
set_option maxRecDepth 100000 in
theorem jl_239 : decode code 239 = .ok (.if_icmp .eq 519, 3) := by decide +kernel
set_option maxRecDepth 100000 in
theorem jl_242 : decode code 242 = .ok (.iconst 0, 1) := by decide +kernel
set_option maxRecDepth 100000 in
theorem jl_243 : decode code 243 = .ok (.ireturn, 1) := by decide +kernel
set_option maxRecDepth 100000 in
theorem jl_244 : decode code 244 = .ok (.aload_n 1, 1) := by decide +kernel
set_option maxRecDepth 100000 in
theorem jl_245 : decode code 245 = .ok (.aload_n 0, 1) := by decide +kernel
set_option maxRecDepth 100000 in
theorem jl_246 : decode code 246 = .ok (.iload_n 3, 1) := by decide +kernel
set_option maxRecDepth 100000 in
theorem jl_247 : decode code 247 = .ok (.iconst 1, 1) := by decide +kernel
set_option maxRecDepth 100000 in
theorem jl_248 : decode code 248 = .ok (.iadd, 1) := by decide +kernel
set_option maxRecDepth 100000 in
theorem jl_249 : decode code 249 = .ok (.iaload, 1) := by decide +kernel
set_option maxRecDepth 100000 in
theorem jl_250 : decode code 250 = .ok (.invokevirtual 31, 3) := by decide +kernel
set_option maxRecDepth 100000 in
theorem jl_253 : decode code 253 = .ok (.aload_n 2, 1) := by decide +kernel
set_option maxRecDepth 100000 in
theorem jl_254 : decode code 254 = .ok (.aload_n 0, 1) := by decide +kernel
set_option maxRecDepth 100000 in
theorem jl_255 : decode code 255 = .ok (.iload_n 3, 1) := by decide +kernel
set_option maxRecDepth 100000 in
theorem jl_256 : decode code 256 = .ok (.iconst 1, 1) := by decide +kernel
set_option maxRecDepth 100000 in
theorem jl_257 : decode code 257 = .ok (.iadd, 1) := by decide +kernel
set_option maxRecDepth 100000 in
theorem jl_258 : decode code 258 = .ok (.iaload, 1) := by decide +kernel
set_option maxRecDepth 100000 in
theorem jl_259 : decode code 259 = .ok (.invokevirtual 35, 3) := by decide +kernel
set_option maxRecDepth 100000 in
theorem jl_262 : decode code 262 = .ok (.if_icmp .eq 496, 3) := by decide +kernel
set_option maxRecDepth 100000 in
theorem jl_265 : decode code 265 = .ok (.iconst 0, 1) := by decide +kernel
set_option maxRecDepth 100000 in
theorem jl_266 : decode code 266 = .ok (.ireturn, 1) := by decide +kernel
set_option maxRecDepth 100000 in
theorem jl_267 : decode code 267 = .ok (.aload_n 1, 1) := by decide +kernel
set_option maxRecDepth 100000 in
theorem jl_268 : decode code 268 = .ok (.invokevirtual 36, 3) := by decide +kernel
set_option maxRecDepth 100000 in
theorem jl_271 : decode code 271 = .ok (.aload_n 2, 1) := by decide +kernel
set_option maxRecDepth 100000 in
theorem jl_272 : decode code 272 = .ok (.invokevirtual 39, 3) := by decide +kernel
set_option maxRecDepth 100000 in
theorem jl_275 : decode code 275 = .ok (.if_icmp .eq 483, 3) := by decide +kernel
set_option maxRecDepth 100000 in
theorem jl_278 : decode code 278 = .ok (.iconst 0, 1) := by decide +kernel
set_option maxRecDepth 100000 in
theorem jl_279 : decode code 279 = .ok (.ireturn, 1) := by decide +kernel
set_option maxRecDepth 100000 in
theorem jl_280 : decode code 280 = .ok (.aload_n 1, 1) := by decide +kernel
set_option maxRecDepth 100000 in
theorem jl_281 : decode code 281 = .ok (.invokevirtual 40, 3) := by decide +kernel
set_option maxRecDepth 100000 in
theorem jl_284 : decode code 284 = .ok (.aload_n 2, 1) := by decide +kernel
set_option maxRecDepth 100000 in
theorem jl_285 : decode code 285 = .ok (.invokevirtual 43, 3) := by decide +kernel
set_option maxRecDepth 100000 in
theorem jl_288 : decode code 288 = .ok (.if_icmp .eq 470, 3) := by decide +kernel
set_option maxRecDepth 100000 in
theorem jl_291 : decode code 291 = .ok (.iconst 0, 1) := by decide +kernel
set_option maxRecDepth 100000 in
theorem jl_292 : decode code 292 = .ok (.ireturn, 1) := by decide +kernel
set_option maxRecDepth 100000 in
theorem jl_293 : decode code 293 = .ok (.aload_n 1, 1) := by decide +kernel
set_option maxRecDepth 100000 in
theorem jl_294 : decode code 294 = .ok (.invokevirtual 44, 3) := by decide +kernel
set_option maxRecDepth 100000 in
theorem jl_297 : decode code 297 = .ok (.aload_n 2, 1) := by decide +kernel
set_option maxRecDepth 100000 in
theorem jl_298 : decode code 298 = .ok (.invokevirtual 47, 3) := by decide +kernel
set_option maxRecDepth 100000 in
theorem jl_301 : decode code 301 = .ok (.if_icmp .eq 457, 3) := by decide +kernel
set_option maxRecDepth 100000 in
theorem jl_304 : decode code 304 = .ok (.iconst 0, 1) := by decide +kernel
set_option maxRecDepth 100000 in
theorem jl_305 : decode code 305 = .ok (.ireturn, 1) := by decide +kernel
set_option maxRecDepth 100000 in
theorem jl_306 : decode code 306 = .ok (.aload_n 1, 1) := by decide +kernel
set_option maxRecDepth 100000 in
theorem jl_307 : decode code 307 = .ok (.invokevirtual 48, 3) := by decide +kernel
set_option maxRecDepth 100000 in
theorem jl_310 : decode code 310 = .ok (.aload_n 2, 1) := by decide +kernel
set_option maxRecDepth 100000 in
theorem jl_311 : decode code 311 = .ok (.invokevirtual 51, 3) := by decide +kernel
set_option maxRecDepth 100000 in
theorem jl_314 : decode code 314 = .ok (.if_icmp .eq 444, 3) := by decide +kernel
set_option maxRecDepth 100000 in
theorem jl_317 : decode code 317 = .ok (.iconst 0, 1) := by decide +kernel
set_option maxRecDepth 100000 in
theorem jl_318 : decode code 318 = .ok (.ireturn, 1) := by decide +kernel
set_option maxRecDepth 100000 in
theorem jl_319 : decode code 319 = .ok (.aload_n 1, 1) := by decide +kernel
set_option maxRecDepth 100000 in
theorem jl_320 : decode code 320 = .ok (.invokevirtual 52, 3) := by decide +kernel
set_option maxRecDepth 100000 in
theorem jl_323 : decode code 323 = .ok (.aload_n 2, 1) := by decide +kernel
set_option maxRecDepth 100000 in
theorem jl_324 : decode code 324 = .ok (.invokevirtual 55, 3) := by decide +kernel
set_option maxRecDepth 100000 in
theorem jl_327 : decode code 327 = .ok (.if_icmp .eq 431, 3) := by decide +kernel
set_option maxRecDepth 100000 in
theorem jl_330 : decode code 330 = .ok (.iconst 0, 1) := by decide +kernel
set_option maxRecDepth 100000 in
theorem jl_331 : decode code 331 = .ok (.ireturn, 1) := by decide +kernel
set_option maxRecDepth 100000 in
theorem jl_332 : decode code 332 = .ok (.aload_n 1, 1) := by decide +kernel
set_option maxRecDepth 100000 in
theorem jl_333 : decode code 333 = .ok (.invokevirtual 56, 3) := by decide +kernel
set_option maxRecDepth 100000 in
theorem jl_336 : decode code 336 = .ok (.aload_n 2, 1) := by decide +kernel
set_option maxRecDepth 100000 in
theorem jl_337 : decode code 337 = .ok (.invokevirtual 59, 3) := by decide +kernel
set_option maxRecDepth 100000 in
theorem jl_340 : decode code 340 = .ok (.if_icmp .eq 418, 3) := by decide +kernel
set_option maxRecDepth 100000 in
theorem jl_343 : decode code 343 = .ok (.iconst 0, 1) := by decide +kernel
set_option maxRecDepth 100000 in
theorem jl_344 : decode code 344 = .ok (.ireturn, 1) := by decide +kernel
set_option maxRecDepth 100000 in
theorem jl_345 : decode code 345 = .ok (.aload_n 1, 1) := by decide +kernel
set_option maxRecDepth 100000 in
theorem jl_346 : decode code 346 = .ok (.aload_n 0, 1) := by decide +kernel
set_option maxRecDepth 100000 in
theorem jl_347 : decode code 347 = .ok (.iload_n 3, 1) := by decide +kernel
set_option maxRecDepth 100000 in
theorem jl_348 : decode code 348 = .ok (.iconst 1, 1) := by decide +kernel
set_option maxRecDepth 100000 in
theorem jl_349 : decode code 349 = .ok (.iadd, 1) := by decide +kernel
set_option maxRecDepth 100000 in
theorem jl_350 : decode code 350 = .ok (.iaload, 1) := by decide +kernel
set_option maxRecDepth 100000 in
theorem jl_351 : decode code 351 = .ok (.invokevirtual 60, 3) := by decide +kernel
set_option maxRecDepth 100000 in
theorem jl_354 : decode code 354 = .ok (.aload_n 2, 1) := by decide +kernel
set_option maxRecDepth 100000 in
theorem jl_355 : decode code 355 = .ok (.aload_n 0, 1) := by decide +kernel
set_option maxRecDepth 100000 in
theorem jl_356 : decode code 356 = .ok (.iload_n 3, 1) := by decide +kernel
set_option maxRecDepth 100000 in
theorem jl_357 : decode code 357 = .ok (.iconst 1, 1) := by decide +kernel
set_option maxRecDepth 100000 in
theorem jl_358 : decode code 358 = .ok (.iadd, 1) := by decide +kernel
set_option maxRecDepth 100000 in
theorem jl_359 : decode code 359 = .ok (.iaload, 1) := by decide +kernel
set_option maxRecDepth 100000 in
theorem jl_360 : decode code 360 = .ok (.invokevirtual 63, 3) := by decide +kernel
set_option maxRecDepth 100000 in
theorem jl_363 : decode code 363 = .ok (.if_icmp .eq 395, 3) := by decide +kernel
set_option maxRecDepth 100000 in
theorem jl_366 : decode code 366 = .ok (.iconst 0, 1) := by decide +kernel
set_option maxRecDepth 100000 in
theorem jl_367 : decode code 367 = .ok (.ireturn, 1) := by decide +kernel
set_option maxRecDepth 100000 in
theorem jl_368 : decode code 368 = .ok (.aload_n 1, 1) := by decide +kernel
set_option maxRecDepth 100000 in
theorem jl_369 : decode code 369 = .ok (.aload_n 0, 1) := by decide +kernel
set_option maxRecDepth 100000 in
theorem jl_370 : decode code 370 = .ok (.iload_n 3, 1) := by decide +kernel
set_option maxRecDepth 100000 in
theorem jl_371 : decode code 371 = .ok (.iconst 1, 1) := by decide +kernel
set_option maxRecDepth 100000 in
theorem jl_372 : decode code 372 = .ok (.iadd, 1) := by decide +kernel
set_option maxRecDepth 100000 in
theorem jl_373 : decode code 373 = .ok (.iaload, 1) := by decide +kernel
set_option maxRecDepth 100000 in
theorem jl_374 : decode code 374 = .ok (.invokevirtual 64, 3) := by decide +kernel
set_option maxRecDepth 100000 in
theorem jl_377 : decode code 377 = .ok (.aload_n 2, 1) := by decide +kernel
set_option maxRecDepth 100000 in
theorem jl_378 : decode code 378 = .ok (.aload_n 0, 1) := by decide +kernel
set_option maxRecDepth 100000 in
theorem jl_379 : decode code 379 = .ok (.iload_n 3, 1) := by decide +kernel
set_option maxRecDepth 100000 in
theorem jl_380 : decode code 380 = .ok (.iconst 1, 1) := by decide +kernel
set_option maxRecDepth 100000 in
theorem jl_381 : decode code 381 = .ok (.iadd, 1) := by decide +kernel
set_option maxRecDepth 100000 in
theorem jl_382 : decode code 382 = .ok (.iaload, 1) := by decide +kernel
set_option maxRecDepth 100000 in
theorem jl_383 : decode code 383 = .ok (.invokevirtual 67, 3) := by decide +kernel
set_option maxRecDepth 100000 in
theorem jl_386 : decode code 386 = .ok (.if_icmp .eq 372, 3) := by decide +kernel
set_option maxRecDepth 100000 in
theorem jl_389 : decode code 389 = .ok (.iconst 0, 1) := by decide +kernel
set_option maxRecDepth 100000 in
theorem jl_390 : decode code 390 = .ok (.ireturn, 1) := by decide +kernel
set_option maxRecDepth 100000 in
theorem jl_391 : decode code 391 = .ok (.aload_n 1, 1) := by decide +kernel
set_option maxRecDepth 100000 in
theorem jl_392 : decode code 392 = .ok (.aload_n 0, 1) := by decide +kernel
set_option maxRecDepth 100000 in
theorem jl_393 : decode code 393 = .ok (.iload_n 3, 1) := by decide +kernel
set_option maxRecDepth 100000 in
theorem jl_394 : decode code 394 = .ok (.iconst 1, 1) := by decide +kernel
set_option maxRecDepth 100000 in
theorem jl_395 : decode code 395 = .ok (.iadd, 1) := by decide +kernel
set_option maxRecDepth 100000 in
theorem jl_396 : decode code 396 = .ok (.iaload, 1) := by decide +kernel
set_option maxRecDepth 100000 in
theorem jl_397 : decode code 397 = .ok (.aload_n 0, 1) := by decide +kernel
set_option maxRecDepth 100000 in
theorem jl_398 : decode code 398 = .ok (.iload_n 3, 1) := by decide +kernel
set_option maxRecDepth 100000 in
theorem jl_399 : decode code 399 = .ok (.iconst 2, 1) := by decide +kernel
set_option maxRecDepth 100000 in
theorem jl_400 : decode code 400 = .ok (.iadd, 1) := by decide +kernel
set_option maxRecDepth 100000 in
theorem jl_401 : decode code 401 = .ok (.iaload, 1) := by decide +kernel
set_option maxRecDepth 100000 in
theorem jl_402 : decode code 402 = .ok (.invokevirtual 68, 3) := by decide +kernel
set_option maxRecDepth 100000 in
theorem jl_405 : decode code 405 = .ok (.aload_n 2, 1) := by decide +kernel
set_option maxRecDepth 100000 in
theorem jl_406 : decode code 406 = .ok (.aload_n 0, 1) := by decide +kernel
set_option maxRecDepth 100000 in
theorem jl_407 : decode code 407 = .ok (.iload_n 3, 1) := by decide +kernel
set_option maxRecDepth 100000 in
theorem jl_408 : decode code 408 = .ok (.iconst 1, 1) := by decide +kernel
set_option maxRecDepth 100000 in
theorem jl_409 : decode code 409 = .ok (.iadd, 1) := by decide +kernel
set_option maxRecDepth 100000 in
theorem jl_410 : decode code 410 = .ok (.iaload, 1) := by decide +kernel
set_option maxRecDepth 100000 in
theorem jl_411 : decode code 411 = .ok (.aload_n 0, 1) := by decide +kernel
set_option maxRecDepth 100000 in
theorem jl_412 : decode code 412 = .ok (.iload_n 3, 1) := by decide +kernel
set_option maxRecDepth 100000 in
theorem jl_413 : decode code 413 = .ok (.iconst 2, 1) := by decide +kernel
set_option maxRecDepth 100000 in
theorem jl_414 : decode code 414 = .ok (.iadd, 1) := by decide +kernel
set_option maxRecDepth 100000 in
theorem jl_415 : decode code 415 = .ok (.iaload, 1) := by decide +kernel
set_option maxRecDepth 100000 in
theorem jl_416 : decode code 416 = .ok (.invokevirtual 71, 3) := by decide +kernel
set_option maxRecDepth 100000 in
theorem jl_419 : decode code 419 = .ok (.if_icmp .eq 339, 3) := by decide +kernel
set_option maxRecDepth 100000 in
theorem jl_422 : decode code 422 = .ok (.iconst 0, 1) := by decide +kernel
set_option maxRecDepth 100000 in
theorem jl_423 : decode code 423 = .ok (.ireturn, 1) := by decide +kernel
set_option maxRecDepth 100000 in
theorem jl_424 : decode code 424 = .ok (.aload_n 1, 1) := by decide +kernel
set_option maxRecDepth 100000 in
theorem jl_425 : decode code 425 = .ok (.aload_n 0, 1) := by decide +kernel
set_option maxRecDepth 100000 in
theorem jl_426 : decode code 426 = .ok (.iload_n 3, 1) := by decide +kernel
set_option maxRecDepth 100000 in
theorem jl_427 : decode code 427 = .ok (.iconst 1, 1) := by decide +kernel
set_option maxRecDepth 100000 in
theorem jl_428 : decode code 428 = .ok (.iadd, 1) := by decide +kernel
set_option maxRecDepth 100000 in
theorem jl_429 : decode code 429 = .ok (.iaload, 1) := by decide +kernel
set_option maxRecDepth 100000 in
theorem jl_430 : decode code 430 = .ok (.aload_n 0, 1) := by decide +kernel
set_option maxRecDepth 100000 in
theorem jl_431 : decode code 431 = .ok (.iload_n 3, 1) := by decide +kernel
set_option maxRecDepth 100000 in
theorem jl_432 : decode code 432 = .ok (.iconst 2, 1) := by decide +kernel
set_option maxRecDepth 100000 in
theorem jl_433 : decode code 433 = .ok (.iadd, 1) := by decide +kernel
set_option maxRecDepth 100000 in
theorem jl_434 : decode code 434 = .ok (.iaload, 1) := by decide +kernel
set_option maxRecDepth 100000 in
theorem jl_435 : decode code 435 = .ok (.invokevirtual 72, 3) := by decide +kernel
set_option maxRecDepth 100000 in
theorem jl_438 : decode code 438 = .ok (.aload_n 2, 1) := by decide +kernel
set_option maxRecDepth 100000 in
theorem jl_439 : decode code 439 = .ok (.aload_n 0, 1) := by decide +kernel
set_option maxRecDepth 100000 in
theorem jl_440 : decode code 440 = .ok (.iload_n 3, 1) := by decide +kernel
set_option maxRecDepth 100000 in
theorem jl_441 : decode code 441 = .ok (.iconst 1, 1) := by decide +kernel
set_option maxRecDepth 100000 in
theorem jl_442 : decode code 442 = .ok (.iadd, 1) := by decide +kernel
set_option maxRecDepth 100000 in
theorem jl_443 : decode code 443 = .ok (.iaload, 1) := by decide +kernel
set_option maxRecDepth 100000 in
theorem jl_444 : decode code 444 = .ok (.aload_n 0, 1) := by decide +kernel
set_option maxRecDepth 100000 in
theorem jl_445 : decode code 445 = .ok (.iload_n 3, 1) := by decide +kernel
set_option maxRecDepth 100000 in
theorem jl_446 : decode code 446 = .ok (.iconst 2, 1) := by decide +kernel
set_option maxRecDepth 100000 in
theorem jl_447 : decode code 447 = .ok (.iadd, 1) := by decide +kernel
set_option maxRecDepth 100000 in
theorem jl_448 : decode code 448 = .ok (.iaload, 1) := by decide +kernel
set_option maxRecDepth 100000 in
theorem jl_449 : decode code 449 = .ok (.invokevirtual 75, 3) := by decide +kernel
set_option maxRecDepth 100000 in
theorem jl_452 : decode code 452 = .ok (.if_icmp .eq 306, 3) := by decide +kernel
set_option maxRecDepth 100000 in
theorem jl_455 : decode code 455 = .ok (.iconst 0, 1) := by decide +kernel
set_option maxRecDepth 100000 in
theorem jl_456 : decode code 456 = .ok (.ireturn, 1) := by decide +kernel
set_option maxRecDepth 100000 in
theorem jl_457 : decode code 457 = .ok (.aload_n 1, 1) := by decide +kernel
set_option maxRecDepth 100000 in
theorem jl_458 : decode code 458 = .ok (.invokevirtual 76, 3) := by decide +kernel
set_option maxRecDepth 100000 in
theorem jl_461 : decode code 461 = .ok (.aload_n 2, 1) := by decide +kernel
set_option maxRecDepth 100000 in
theorem jl_462 : decode code 462 = .ok (.invokevirtual 79, 3) := by decide +kernel
set_option maxRecDepth 100000 in
theorem jl_465 : decode code 465 = .ok (.if_icmp .eq 293, 3) := by decide +kernel
set_option maxRecDepth 100000 in
theorem jl_468 : decode code 468 = .ok (.iconst 0, 1) := by decide +kernel
set_option maxRecDepth 100000 in
theorem jl_469 : decode code 469 = .ok (.ireturn, 1) := by decide +kernel
set_option maxRecDepth 100000 in
theorem jl_470 : decode code 470 = .ok (.aload_n 1, 1) := by decide +kernel
set_option maxRecDepth 100000 in
theorem jl_471 : decode code 471 = .ok (.aload_n 0, 1) := by decide +kernel
set_option maxRecDepth 100000 in
theorem jl_472 : decode code 472 = .ok (.iload_n 3, 1) := by decide +kernel
set_option maxRecDepth 100000 in
theorem jl_473 : decode code 473 = .ok (.iconst 1, 1) := by decide +kernel
set_option maxRecDepth 100000 in
theorem jl_474 : decode code 474 = .ok (.iadd, 1) := by decide +kernel
set_option maxRecDepth 100000 in
theorem jl_475 : decode code 475 = .ok (.iaload, 1) := by decide +kernel
set_option maxRecDepth 100000 in
theorem jl_476 : decode code 476 = .ok (.aload_n 0, 1) := by decide +kernel
set_option maxRecDepth 100000 in
theorem jl_477 : decode code 477 = .ok (.iload_n 3, 1) := by decide +kernel
set_option maxRecDepth 100000 in
theorem jl_478 : decode code 478 = .ok (.iconst 2, 1) := by decide +kernel
set_option maxRecDepth 100000 in
theorem jl_479 : decode code 479 = .ok (.iadd, 1) := by decide +kernel
set_option maxRecDepth 100000 in
theorem jl_480 : decode code 480 = .ok (.iaload, 1) := by decide +kernel
set_option maxRecDepth 100000 in
theorem jl_481 : decode code 481 = .ok (.invokevirtual 80, 3) := by decide +kernel
set_option maxRecDepth 100000 in
theorem jl_484 : decode code 484 = .ok (.aload_n 2, 1) := by decide +kernel
set_option maxRecDepth 100000 in
theorem jl_485 : decode code 485 = .ok (.aload_n 0, 1) := by decide +kernel
set_option maxRecDepth 100000 in
theorem jl_486 : decode code 486 = .ok (.iload_n 3, 1) := by decide +kernel
set_option maxRecDepth 100000 in
theorem jl_487 : decode code 487 = .ok (.iconst 1, 1) := by decide +kernel
set_option maxRecDepth 100000 in
theorem jl_488 : decode code 488 = .ok (.iadd, 1) := by decide +kernel
set_option maxRecDepth 100000 in
theorem jl_489 : decode code 489 = .ok (.iaload, 1) := by decide +kernel
set_option maxRecDepth 100000 in
theorem jl_490 : decode code 490 = .ok (.aload_n 0, 1) := by decide +kernel
set_option maxRecDepth 100000 in
theorem jl_491 : decode code 491 = .ok (.iload_n 3, 1) := by decide +kernel
set_option maxRecDepth 100000 in
theorem jl_492 : decode code 492 = .ok (.iconst 2, 1) := by decide +kernel
set_option maxRecDepth 100000 in
theorem jl_493 : decode code 493 = .ok (.iadd, 1) := by decide +kernel
set_option maxRecDepth 100000 in
theorem jl_494 : decode code 494 = .ok (.iaload, 1) := by decide +kernel
set_option maxRecDepth 100000 in
theorem jl_495 : decode code 495 = .ok (.invokevirtual 83, 3) := by decide +kernel
set_option maxRecDepth 100000 in
theorem jl_498 : decode code 498 = .ok (.if_icmp .eq 260, 3) := by decide +kernel
set_option maxRecDepth 100000 in
theorem jl_501 : decode code 501 = .ok (.iconst 0, 1) := by decide +kernel
set_option maxRecDepth 100000 in
theorem jl_502 : decode code 502 = .ok (.ireturn, 1) := by decide +kernel
set_option maxRecDepth 100000 in
theorem jl_503 : decode code 503 = .ok (.aload_n 1, 1) := by decide +kernel
set_option maxRecDepth 100000 in
theorem jl_504 : decode code 504 = .ok (.invokevirtual 84, 3) := by decide +kernel
set_option maxRecDepth 100000 in
theorem jl_507 : decode code 507 = .ok (.aload_n 2, 1) := by decide +kernel
set_option maxRecDepth 100000 in
theorem jl_508 : decode code 508 = .ok (.invokevirtual 87, 3) := by decide +kernel
set_option maxRecDepth 100000 in
theorem jl_511 : decode code 511 = .ok (.if_icmp .eq 247, 3) := by decide +kernel
set_option maxRecDepth 100000 in
theorem jl_514 : decode code 514 = .ok (.iconst 0, 1) := by decide +kernel
set_option maxRecDepth 100000 in
theorem jl_515 : decode code 515 = .ok (.ireturn, 1) := by decide +kernel
set_option maxRecDepth 100000 in
theorem jl_516 : decode code 516 = .ok (.aload_n 1, 1) := by decide +kernel
set_option maxRecDepth 100000 in
theorem jl_517 : decode code 517 = .ok (.aload_n 0, 1) := by decide +kernel
set_option maxRecDepth 100000 in
theorem jl_518 : decode code 518 = .ok (.iload_n 3, 1) := by decide +kernel
set_option maxRecDepth 100000 in
theorem jl_519 : decode code 519 = .ok (.iconst 1, 1) := by decide +kernel
set_option maxRecDepth 100000 in
theorem jl_520 : decode code 520 = .ok (.iadd, 1) := by decide +kernel
set_option maxRecDepth 100000 in
theorem jl_521 : decode code 521 = .ok (.iaload, 1) := by decide +kernel
set_option maxRecDepth 100000 in
theorem jl_522 : decode code 522 = .ok (.invokevirtual 88, 3) := by decide +kernel
set_option maxRecDepth 100000 in
theorem jl_525 : decode code 525 = .ok (.aload_n 2, 1) := by decide +kernel
set_option maxRecDepth 100000 in
theorem jl_526 : decode code 526 = .ok (.aload_n 0, 1) := by decide +kernel
set_option maxRecDepth 100000 in
theorem jl_527 : decode code 527 = .ok (.iload_n 3, 1) := by decide +kernel
set_option maxRecDepth 100000 in
theorem jl_528 : decode code 528 = .ok (.iconst 1, 1) := by decide +kernel
set_option maxRecDepth 100000 in
theorem jl_529 : decode code 529 = .ok (.iadd, 1) := by decide +kernel
set_option maxRecDepth 100000 in
theorem jl_530 : decode code 530 = .ok (.iaload, 1) := by decide +kernel
set_option maxRecDepth 100000 in
theorem jl_531 : decode code 531 = .ok (.invokevirtual 91, 3) := by decide +kernel
set_option maxRecDepth 100000 in
theorem jl_534 : decode code 534 = .ok (.if_icmp .eq 224, 3) := by decide +kernel
set_option maxRecDepth 100000 in
theorem jl_537 : decode code 537 = .ok (.iconst 0, 1) := by decide +kernel
set_option maxRecDepth 100000 in
theorem jl_538 : decode code 538 = .ok (.ireturn, 1) := by decide +kernel
set_option maxRecDepth 100000 in
theorem jl_539 : decode code 539 = .ok (.aload_n 1, 1) := by decide +kernel
set_option maxRecDepth 100000 in
theorem jl_540 : decode code 540 = .ok (.aload_n 0, 1) := by decide +kernel
set_option maxRecDepth 100000 in
theorem jl_541 : decode code 541 = .ok (.iload_n 3, 1) := by decide +kernel
set_option maxRecDepth 100000 in
theorem jl_542 : decode code 542 = .ok (.iconst 1, 1) := by decide +kernel
set_option maxRecDepth 100000 in
theorem jl_543 : decode code 543 = .ok (.iadd, 1) := by decide +kernel
set_option maxRecDepth 100000 in
theorem jl_544 : decode code 544 = .ok (.iaload, 1) := by decide +kernel
set_option maxRecDepth 100000 in
theorem jl_545 : decode code 545 = .ok (.aload_n 0, 1) := by decide +kernel
set_option maxRecDepth 100000 in
theorem jl_546 : decode code 546 = .ok (.iload_n 3, 1) := by decide +kernel
set_option maxRecDepth 100000 in
theorem jl_547 : decode code 547 = .ok (.iconst 2, 1) := by decide +kernel
set_option maxRecDepth 100000 in
theorem jl_548 : decode code 548 = .ok (.iadd, 1) := by decide +kernel
set_option maxRecDepth 100000 in
theorem jl_549 : decode code 549 = .ok (.iaload, 1) := by decide +kernel
set_option maxRecDepth 100000 in
theorem jl_550 : decode code 550 = .ok (.invokevirtual 92, 3) := by decide +kernel
set_option maxRecDepth 100000 in
theorem jl_553 : decode code 553 = .ok (.aload_n 2, 1) := by decide +kernel
set_option maxRecDepth 100000 in
theorem jl_554 : decode code 554 = .ok (.aload_n 0, 1) := by decide +kernel
set_option maxRecDepth 100000 in
theorem jl_555 : decode code 555 = .ok (.iload_n 3, 1) := by decide +kernel
set_option maxRecDepth 100000 in
theorem jl_556 : decode code 556 = .ok (.iconst 1, 1) := by decide +kernel
set_option maxRecDepth 100000 in
theorem jl_557 : decode code 557 = .ok (.iadd, 1) := by decide +kernel
set_option maxRecDepth 100000 in
theorem jl_558 : decode code 558 = .ok (.iaload, 1) := by decide +kernel
set_option maxRecDepth 100000 in
theorem jl_559 : decode code 559 = .ok (.aload_n 0, 1) := by decide +kernel
set_option maxRecDepth 100000 in
theorem jl_560 : decode code 560 = .ok (.iload_n 3, 1) := by decide +kernel
set_option maxRecDepth 100000 in
theorem jl_561 : decode code 561 = .ok (.iconst 2, 1) := by decide +kernel
set_option maxRecDepth 100000 in
theorem jl_562 : decode code 562 = .ok (.iadd, 1) := by decide +kernel
set_option maxRecDepth 100000 in
theorem jl_563 : decode code 563 = .ok (.iaload, 1) := by decide +kernel
set_option maxRecDepth 100000 in
theorem jl_564 : decode code 564 = .ok (.invokevirtual 95, 3) := by decide +kernel
set_option maxRecDepth 100000 in
theorem jl_567 : decode code 567 = .ok (.if_icmp .eq 191, 3) := by decide +kernel
set_option maxRecDepth 100000 in
theorem jl_570 : decode code 570 = .ok (.iconst 0, 1) := by decide +kernel
set_option maxRecDepth 100000 in
theorem jl_571 : decode code 571 = .ok (.ireturn, 1) := by decide +kernel
set_option maxRecDepth 100000 in
theorem jl_572 : decode code 572 = .ok (.aload_n 1, 1) := by decide +kernel
set_option maxRecDepth 100000 in
theorem jl_573 : decode code 573 = .ok (.aload_n 0, 1) := by decide +kernel
set_option maxRecDepth 100000 in
theorem jl_574 : decode code 574 = .ok (.iload_n 3, 1) := by decide +kernel
set_option maxRecDepth 100000 in
theorem jl_575 : decode code 575 = .ok (.iconst 1, 1) := by decide +kernel
set_option maxRecDepth 100000 in
theorem jl_576 : decode code 576 = .ok (.iadd, 1) := by decide +kernel
set_option maxRecDepth 100000 in
theorem jl_577 : decode code 577 = .ok (.iaload, 1) := by decide +kernel
set_option maxRecDepth 100000 in
theorem jl_578 : decode code 578 = .ok (.aload_n 0, 1) := by decide +kernel
set_option maxRecDepth 100000 in
theorem jl_579 : decode code 579 = .ok (.iload_n 3, 1) := by decide +kernel
set_option maxRecDepth 100000 in
theorem jl_580 : decode code 580 = .ok (.iconst 2, 1) := by decide +kernel
set_option maxRecDepth 100000 in
theorem jl_581 : decode code 581 = .ok (.iadd, 1) := by decide +kernel
set_option maxRecDepth 100000 in
theorem jl_582 : decode code 582 = .ok (.iaload, 1) := by decide +kernel
set_option maxRecDepth 100000 in
theorem jl_583 : decode code 583 = .ok (.invokevirtual 96, 3) := by decide +kernel
set_option maxRecDepth 100000 in
theorem jl_586 : decode code 586 = .ok (.aload_n 2, 1) := by decide +kernel
set_option maxRecDepth 100000 in
theorem jl_587 : decode code 587 = .ok (.aload_n 0, 1) := by decide +kernel
set_option maxRecDepth 100000 in
theorem jl_588 : decode code 588 = .ok (.iload_n 3, 1) := by decide +kernel
set_option maxRecDepth 100000 in
theorem jl_589 : decode code 589 = .ok (.iconst 1, 1) := by decide +kernel
set_option maxRecDepth 100000 in
theorem jl_590 : decode code 590 = .ok (.iadd, 1) := by decide +kernel
set_option maxRecDepth 100000 in
theorem jl_591 : decode code 591 = .ok (.iaload, 1) := by decide +kernel
set_option maxRecDepth 100000 in
theorem jl_592 : decode code 592 = .ok (.aload_n 0, 1) := by decide +kernel
set_option maxRecDepth 100000 in
theorem jl_593 : decode code 593 = .ok (.iload_n 3, 1) := by decide +kernel
set_option maxRecDepth 100000 in
theorem jl_594 : decode code 594 = .ok (.iconst 2, 1) := by decide +kernel
set_option maxRecDepth 100000 in
theorem jl_595 : decode code 595 = .ok (.iadd, 1) := by decide +kernel
set_option maxRecDepth 100000 in
theorem jl_596 : decode code 596 = .ok (.iaload, 1) := by decide +kernel
set_option maxRecDepth 100000 in
theorem jl_597 : decode code 597 = .ok (.invokevirtual 99, 3) := by decide +kernel
set_option maxRecDepth 100000 in
theorem jl_600 : decode code 600 = .ok (.if_icmp .eq 158, 3) := by decide +kernel
set_option maxRecDepth 100000 in
theorem jl_603 : decode code 603 = .ok (.iconst 0, 1) := by decide +kernel
set_option maxRecDepth 100000 in
theorem jl_604 : decode code 604 = .ok (.ireturn, 1) := by decide +kernel
set_option maxRecDepth 100000 in
theorem jl_605 : decode code 605 = .ok (.aload_n 1, 1) := by decide +kernel
set_option maxRecDepth 100000 in
theorem jl_606 : decode code 606 = .ok (.aload_n 0, 1) := by decide +kernel
set_option maxRecDepth 100000 in
theorem jl_607 : decode code 607 = .ok (.iload_n 3, 1) := by decide +kernel
set_option maxRecDepth 100000 in
theorem jl_608 : decode code 608 = .ok (.iconst 1, 1) := by decide +kernel
set_option maxRecDepth 100000 in
theorem jl_609 : decode code 609 = .ok (.iadd, 1) := by decide +kernel
set_option maxRecDepth 100000 in
theorem jl_610 : decode code 610 = .ok (.iaload, 1) := by decide +kernel
set_option maxRecDepth 100000 in
theorem jl_611 : decode code 611 = .ok (.invokevirtual 100, 3) := by decide +kernel
set_option maxRecDepth 100000 in
theorem jl_614 : decode code 614 = .ok (.aload_n 2, 1) := by decide +kernel
set_option maxRecDepth 100000 in
theorem jl_615 : decode code 615 = .ok (.aload_n 0, 1) := by decide +kernel
set_option maxRecDepth 100000 in
theorem jl_616 : decode code 616 = .ok (.iload_n 3, 1) := by decide +kernel
set_option maxRecDepth 100000 in
theorem jl_617 : decode code 617 = .ok (.iconst 1, 1) := by decide +kernel
set_option maxRecDepth 100000 in
theorem jl_618 : decode code 618 = .ok (.iadd, 1) := by decide +kernel
set_option maxRecDepth 100000 in
theorem jl_619 : decode code 619 = .ok (.iaload, 1) := by decide +kernel
set_option maxRecDepth 100000 in
theorem jl_620 : decode code 620 = .ok (.invokevirtual 103, 3) := by decide +kernel
set_option maxRecDepth 100000 in
theorem jl_623 : decode code 623 = .ok (.if_icmp .eq 135, 3) := by decide +kernel
set_option maxRecDepth 100000 in
theorem jl_626 : decode code 626 = .ok (.iconst 0, 1) := by decide +kernel
set_option maxRecDepth 100000 in
theorem jl_627 : decode code 627 = .ok (.ireturn, 1) := by decide +kernel
set_option maxRecDepth 100000 in
theorem jl_628 : decode code 628 = .ok (.aload_n 1, 1) := by decide +kernel
set_option maxRecDepth 100000 in
theorem jl_629 : decode code 629 = .ok (.aload_n 0, 1) := by decide +kernel
set_option maxRecDepth 100000 in
theorem jl_630 : decode code 630 = .ok (.iload_n 3, 1) := by decide +kernel
set_option maxRecDepth 100000 in
theorem jl_631 : decode code 631 = .ok (.iconst 1, 1) := by decide +kernel
set_option maxRecDepth 100000 in
theorem jl_632 : decode code 632 = .ok (.iadd, 1) := by decide +kernel
set_option maxRecDepth 100000 in
theorem jl_633 : decode code 633 = .ok (.iaload, 1) := by decide +kernel
set_option maxRecDepth 100000 in
theorem jl_634 : decode code 634 = .ok (.aload_n 0, 1) := by decide +kernel
set_option maxRecDepth 100000 in
theorem jl_635 : decode code 635 = .ok (.iload_n 3, 1) := by decide +kernel
set_option maxRecDepth 100000 in
theorem jl_636 : decode code 636 = .ok (.iconst 2, 1) := by decide +kernel
set_option maxRecDepth 100000 in
theorem jl_637 : decode code 637 = .ok (.iadd, 1) := by decide +kernel
set_option maxRecDepth 100000 in
theorem jl_638 : decode code 638 = .ok (.iaload, 1) := by decide +kernel
set_option maxRecDepth 100000 in
theorem jl_639 : decode code 639 = .ok (.invokevirtual 104, 3) := by decide +kernel
set_option maxRecDepth 100000 in
theorem jl_642 : decode code 642 = .ok (.aload_n 2, 1) := by decide +kernel
set_option maxRecDepth 100000 in
theorem jl_643 : decode code 643 = .ok (.aload_n 0, 1) := by decide +kernel
set_option maxRecDepth 100000 in
theorem jl_644 : decode code 644 = .ok (.iload_n 3, 1) := by decide +kernel
set_option maxRecDepth 100000 in
theorem jl_645 : decode code 645 = .ok (.iconst 1, 1) := by decide +kernel
set_option maxRecDepth 100000 in
theorem jl_646 : decode code 646 = .ok (.iadd, 1) := by decide +kernel
set_option maxRecDepth 100000 in
theorem jl_647 : decode code 647 = .ok (.iaload, 1) := by decide +kernel
set_option maxRecDepth 100000 in
theorem jl_648 : decode code 648 = .ok (.aload_n 0, 1) := by decide +kernel
set_option maxRecDepth 100000 in
theorem jl_649 : decode code 649 = .ok (.iload_n 3, 1) := by decide +kernel
set_option maxRecDepth 100000 in
theorem jl_650 : decode code 650 = .ok (.iconst 2, 1) := by decide +kernel
set_option maxRecDepth 100000 in
theorem jl_651 : decode code 651 = .ok (.iadd, 1) := by decide +kernel
set_option maxRecDepth 100000 in
theorem jl_652 : decode code 652 = .ok (.iaload, 1) := by decide +kernel
set_option maxRecDepth 100000 in
theorem jl_653 : decode code 653 = .ok (.invokevirtual 107, 3) := by decide +kernel
set_option maxRecDepth 100000 in
theorem jl_656 : decode code 656 = .ok (.if_icmp .eq 102, 3) := by decide +kernel
set_option maxRecDepth 100000 in
theorem jl_659 : decode code 659 = .ok (.iconst 0, 1) := by decide +kernel
set_option maxRecDepth 100000 in
theorem jl_660 : decode code 660 = .ok (.ireturn, 1) := by decide +kernel
set_option maxRecDepth 100000 in
theorem jl_661 : decode code 661 = .ok (.aload_n 1, 1) := by decide +kernel
set_option maxRecDepth 100000 in
theorem jl_662 : decode code 662 = .ok (.aload_n 0, 1) := by decide +kernel
set_option maxRecDepth 100000 in
theorem jl_663 : decode code 663 = .ok (.iload_n 3, 1) := by decide +kernel
set_option maxRecDepth 100000 in
theorem jl_664 : decode code 664 = .ok (.iconst 1, 1) := by decide +kernel
set_option maxRecDepth 100000 in
theorem jl_665 : decode code 665 = .ok (.iadd, 1) := by decide +kernel
set_option maxRecDepth 100000 in
theorem jl_666 : decode code 666 = .ok (.iaload, 1) := by decide +kernel
set_option maxRecDepth 100000 in
theorem jl_667 : decode code 667 = .ok (.aload_n 0, 1) := by decide +kernel
set_option maxRecDepth 100000 in
theorem jl_668 : decode code 668 = .ok (.iload_n 3, 1) := by decide +kernel
set_option maxRecDepth 100000 in
theorem jl_669 : decode code 669 = .ok (.iconst 2, 1) := by decide +kernel
set_option maxRecDepth 100000 in
theorem jl_670 : decode code 670 = .ok (.iadd, 1) := by decide +kernel
set_option maxRecDepth 100000 in
theorem jl_671 : decode code 671 = .ok (.iaload, 1) := by decide +kernel
set_option maxRecDepth 100000 in
theorem jl_672 : decode code 672 = .ok (.invokevirtual 108, 3) := by decide +kernel
set_option maxRecDepth 100000 in
theorem jl_675 : decode code 675 = .ok (.aload_n 2, 1) := by decide +kernel
set_option maxRecDepth 100000 in
theorem jl_676 : decode code 676 = .ok (.aload_n 0, 1) := by decide +kernel
set_option maxRecDepth 100000 in
theorem jl_677 : decode code 677 = .ok (.iload_n 3, 1) := by decide +kernel
set_option maxRecDepth 100000 in
theorem jl_678 : decode code 678 = .ok (.iconst 1, 1) := by decide +kernel
set_option maxRecDepth 100000 in
theorem jl_679 : decode code 679 = .ok (.iadd, 1) := by decide +kernel
set_option maxRecDepth 100000 in
theorem jl_680 : decode code 680 = .ok (.iaload, 1) := by decide +kernel
set_option maxRecDepth 100000 in
theorem jl_681 : decode code 681 = .ok (.aload_n 0, 1) := by decide +kernel
set_option maxRecDepth 100000 in
theorem jl_682 : decode code 682 = .ok (.iload_n 3, 1) := by decide +kernel
set_option maxRecDepth 100000 in
theorem jl_683 : decode code 683 = .ok (.iconst 2, 1) := by decide +kernel
set_option maxRecDepth 100000 in
theorem jl_684 : decode code 684 = .ok (.iadd, 1) := by decide +kernel
set_option maxRecDepth 100000 in
theorem jl_685 : decode code 685 = .ok (.iaload, 1) := by decide +kernel
set_option maxRecDepth 100000 in
theorem jl_686 : decode code 686 = .ok (.invokevirtual 111, 3) := by decide +kernel
set_option maxRecDepth 100000 in
theorem jl_689 : decode code 689 = .ok (.if_icmp .eq 69, 3) := by decide +kernel
set_option maxRecDepth 100000 in
theorem jl_692 : decode code 692 = .ok (.iconst 0, 1) := by decide +kernel
set_option maxRecDepth 100000 in
theorem jl_693 : decode code 693 = .ok (.ireturn, 1) := by decide +kernel
set_option maxRecDepth 100000 in
theorem jl_694 : decode code 694 = .ok (.aload_n 1, 1) := by decide +kernel
set_option maxRecDepth 100000 in
theorem jl_695 : decode code 695 = .ok (.aload_n 0, 1) := by decide +kernel
set_option maxRecDepth 100000 in
theorem jl_696 : decode code 696 = .ok (.iload_n 3, 1) := by decide +kernel
set_option maxRecDepth 100000 in
theorem jl_697 : decode code 697 = .ok (.iconst 1, 1) := by decide +kernel
set_option maxRecDepth 100000 in
theorem jl_698 : decode code 698 = .ok (.iadd, 1) := by decide +kernel
set_option maxRecDepth 100000 in
theorem jl_699 : decode code 699 = .ok (.iaload, 1) := by decide +kernel
set_option maxRecDepth 100000 in
theorem jl_700 : decode code 700 = .ok (.invokevirtual 112, 3) := by decide +kernel
set_option maxRecDepth 100000 in
theorem jl_703 : decode code 703 = .ok (.aload_n 2, 1) := by decide +kernel
set_option maxRecDepth 100000 in
theorem jl_704 : decode code 704 = .ok (.aload_n 0, 1) := by decide +kernel
set_option maxRecDepth 100000 in
theorem jl_705 : decode code 705 = .ok (.iload_n 3, 1) := by decide +kernel
set_option maxRecDepth 100000 in
theorem jl_706 : decode code 706 = .ok (.iconst 1, 1) := by decide +kernel
set_option maxRecDepth 100000 in
theorem jl_707 : decode code 707 = .ok (.iadd, 1) := by decide +kernel
set_option maxRecDepth 100000 in
theorem jl_708 : decode code 708 = .ok (.iaload, 1) := by decide +kernel
set_option maxRecDepth 100000 in
theorem jl_709 : decode code 709 = .ok (.invokevirtual 115, 3) := by decide +kernel
set_option maxRecDepth 100000 in
theorem jl_712 : decode code 712 = .ok (.if_icmp .eq 46, 3) := by decide +kernel
set_option maxRecDepth 100000 in
theorem jl_715 : decode code 715 = .ok (.iconst 0, 1) := by decide +kernel
set_option maxRecDepth 100000 in
theorem jl_716 : decode code 716 = .ok (.ireturn, 1) := by decide +kernel
set_option maxRecDepth 100000 in
theorem jl_717 : decode code 717 = .ok (.aload_n 1, 1) := by decide +kernel
set_option maxRecDepth 100000 in
theorem jl_718 : decode code 718 = .ok (.invokevirtual 116, 3) := by decide +kernel
set_option maxRecDepth 100000 in
theorem jl_721 : decode code 721 = .ok (.dstore 4, 2) := by decide +kernel
set_option maxRecDepth 100000 in
theorem jl_723 : decode code 723 = .ok (.aload_n 2, 1) := by decide +kernel
set_option maxRecDepth 100000 in
theorem jl_724 : decode code 724 = .ok (.invokevirtual 120, 3) := by decide +kernel
set_option maxRecDepth 100000 in
theorem jl_727 : decode code 727 = .ok (.dstore 6, 2) := by decide +kernel
set_option maxRecDepth 100000 in
theorem jl_729 : decode code 729 = .ok (.dload 4, 2) := by decide +kernel
set_option maxRecDepth 100000 in
theorem jl_731 : decode code 731 = .ok (.dload 6, 2) := by decide +kernel
set_option maxRecDepth 100000 in
theorem jl_733 : decode code 733 = .ok (.dcmp .l, 1) := by decide +kernel
set_option maxRecDepth 100000 in
theorem jl_734 : decode code 734 = .ok (.ifCond .eq 21, 3) := by decide +kernel
set_option maxRecDepth 100000 in
theorem jl_737 : decode code 737 = .ok (.dload 4, 2) := by decide +kernel
set_option maxRecDepth 100000 in
theorem jl_739 : decode code 739 = .ok (.dload 4, 2) := by decide +kernel
set_option maxRecDepth 100000 in
theorem jl_741 : decode code 741 = .ok (.dcmp .l, 1) := by decide +kernel
set_option maxRecDepth 100000 in
theorem jl_742 : decode code 742 = .ok (.ifCond .eq 11, 3) := by decide +kernel
set_option maxRecDepth 100000 in
theorem jl_745 : decode code 745 = .ok (.dload 6, 2) := by decide +kernel
set_option maxRecDepth 100000 in
theorem jl_747 : decode code 747 = .ok (.dload 6, 2) := by decide +kernel
set_option maxRecDepth 100000 in
theorem jl_749 : decode code 749 = .ok (.dcmp .l, 1) := by decide +kernel
set_option maxRecDepth 100000 in
theorem jl_750 : decode code 750 = .ok (.ifCond .ne 5, 3) := by decide +kernel
set_option maxRecDepth 100000 in
theorem jl_753 : decode code 753 = .ok (.iconst 0, 1) := by decide +kernel
set_option maxRecDepth 100000 in
theorem jl_754 : decode code 754 = .ok (.ireturn, 1) := by decide +kernel
set_option maxRecDepth 100000 in
theorem jl_755 : decode code 755 = .ok (.goto 3, 3) := by decide +kernel
set_option maxRecDepth 100000 in
theorem jl_758 : decode code 758 = .ok (.iinc 3 3, 3) := by decide +kernel
set_option maxRecDepth 100000 in
theorem jl_761 : decode code 761 = .ok (.goto (-743), 3) := by decide +kernel
set_option maxRecDepth 100000 in
theorem jl_764 : decode code 764 = .ok (.iconst 1, 1) := by decide +kernel
set_option maxRecDepth 100000 in
theorem jl_765 : decode code 765 = .ok (.ireturn, 1) := by decide +kernel
theorem p_dens2 {w : xW} (h : wJ w) : ∃ d : UInt64, Op.cmpValue (FP.dcmp d d) .l = 0 ∧ xC MX7_density [.ref 0] w (some (.double d)) w ∧ xC MX8_density [.ref 45] w (some (.double d)) w := by
  obtain ⟨A, hc, hm⟩ := h
  have key : ∀ n, n ≤ 45 → Op.cmpValue (FP.dcmp (FP.ddiv (FP.i2d (nI n)) 4627448617123184640) (FP.ddiv (FP.i2d (nI n)) 4627448617123184640)) .l = 0 := by decide +kernel
  exact ⟨qDens A, key _ (ec_45 _), C_dens hc, M_dens hm⟩
section
variable {D : va_G} {cI cJ : ClassId} {ad adV : Nat → Nat}
variable {p : Program} {l : Launch} {e : Env} {s : State} {m : MethodId} {args : Array Value} {below : List Frame} {meth : Method} {c : Code} {Q : State → Prop}
/-- what stays over the law's run -/
def lwX (D : va_G) (cI cJ : ClassId) (ad adV : Nat → Nat) (s : State) : Prop := va_K D vwCl [(cI, .int), (cJ, .long)] s ∧ (∀ q, xA ad q → s.heap.size ≤ q) ∧ xinj ad ∧ ∀ (U : State) (locs : List Loc), s.WarmedH U.vm → va_S (fun q : Nat => s.heap.size ≤ q) s.heap U.heap locs → xG D cI cJ ad adV U
theorem lcall_W {R : Room} {cells slots pc : Nat} {ls : Array Slot} {st0 rest : List Value} {r2 : Option Value} {w2 : xW} {a : Array Value} {H : Heap} {locs : List Loc} {A0 : Nat → Prop} (hA : ∀ q, xA ad q → A0 q) (hr : va_Run p l e R s m args below meth c H locs cells slots 0 0 (F0 m pc ls st0) rest (xQo D cI cJ ad r2 w2 a) (xA ad)) (hS : va_S A0 s.heap H locs)
    (kk : ∀ (H1 : Heap) (locs1 : List Loc), va_P D vwCl (xws cI cJ ad w2) H1 → va_S A0 s.heap H1 locs1 → W p l e R s m args below meth c H1 locs1 cells slots Q (F0 m (pc + 3) ls ((r2.map (xcv ad)).toList ++ rest))) : W p l e R s m args below meth c H locs cells slots Q (F0 m pc ls st0) := by
  intro T hT X
  obtain ⟨v, st₀, t, T', L, h0, X', hL, e1, e2, ⟨hv, hp, hz, hk⟩, st⟩ := hr T hT X
  cases hv
  rw [h0] at hz hk
  obtain ⟨t2, a1, b1⟩ := kk T'.heap (locs ++ L) (by rw [e1]; exact hp) ⟨Nat.le_trans hS.1 (by rw [e1]; exact hz), fun q h1 h2 => by rw [e1, hk q (Nat.lt_of_lt_of_le h1 hS.1) (fun z => h2 (hA q z))]; exact hS.2.1 q h1 h2, fun q hq => by
      rcases List.mem_append.mp hq with h | h
      · exact hS.2.2 q h
      · exact hA _ (hL q h)⟩ T' rfl X'
  exact ⟨t2, st t2 a1, b1⟩
theorem lcall {M2 : xMI} {a index pc : Nat} {As0 rest : List Value} {r2 : Option Value} {w w2 : xW} {H : Heap} {locs : List Loc} {ls : Array Slot} {ks : List (Option (Option Nat))} {TT : u_T} {N : Nat} (S : CallFix p m c code 8 s args xTB R_law) (X : lwX D cI cJ ad adV s) (hM2 : xmOK M2) (hrun : xC M2 (.ref a :: As0) w r2 w2) (hcell : xshp a = some (.inr (.inr (xm_c M2, ks)))) (hcls : vwCl[xm_c M2]? = some (xcls (xm_c M2), TT, N)) (hlen : (xarg (.ref a :: As0)).length ≤ xm_n M2) (hn : As0.length = xm_a M2)
    (hw : Cond.methodLink R_law index (xm_y M2) ∈ xTB ∧ Cond.instanceMethod (xm_y M2) ∈ xTB ∧ Cond.selects (xm_y M2).cls (xm_y M2) (xm_y M2) ∈ xTB) (hR : xm_f M2 + 1 ≤ room_1.frames ∧ 8 + (xm_n M2 + 11) + xm_l M2 ≤ room_1.locals) (hls : ls.size = 8) (hsum : (rest.map fun v => v.category).sum ≤ 8) (hdg : decode code pc = .ok (.invokevirtual index, 3)) (hP : va_P D vwCl (xws cI cJ ad w) H) (hS : va_S (fun q : Nat => s.heap.size ≤ q) s.heap H locs)
    (kk : ∀ (H1 : Heap) (locs1 : List Loc), va_P D vwCl (xws cI cJ ad w2) H1 → va_S (fun q : Nat => s.heap.size ≤ q) s.heap H1 locs1 → W p l e room_1 s m args below meth c H1 locs1 66 2176 Q (F0 m (pc + 3) ls ((r2.map (xcv ad)).toList ++ rest))) : W p l e room_1 s m args below meth c H locs 66 2176 Q (F0 m pc ls ((As0.map (xcv ad)).reverse ++ .ref (ad a) :: rest)) := by
  obtain ⟨w1, w2', w3⟩ := hw
  obtain ⟨hK, hA, hi, hG⟩ := X
  have hT := S.2.2.2.2
  have met := xC_met (D := D) (cI := cI) (cJ := cJ) (ad := ad) (adV := adV) (l := l) hi hM2 hlen hrun
  have he := (xws_get (cI := cI) (cJ := cJ) (ad := ad) (w := w) (xshp_lt hcell)).trans (by rw [xcell_O hcell])
  have hrec := va_recv hK hP hcls he
  have fin : va_Run p l e room_1 s m args below meth c H locs 66 2176 0 0 (F0 m pc ls ((As0.map (xcv ad)).reverse ++ .ref (ad a) :: rest)) rest (xQo D cI cJ ad r2 w2 ((Value.ref (ad a) :: As0.map (xcv ad)).toArray)) (xA ad) :=
    va_runV (n := xm_a M2) (own := R_law) (C := xcls (xm_c M2)) (index := index) S met ⟨callB_of (xm_a M2) hT (jGood hM2.2.2.2.1) rfl rfl rfl (hT _ hM2.2.2.2.2.1) (hT _ w1) hM2.2.2.1 hR, hT _ w2', by have := hT _ w3; rw [hM2.2.2.2.2.2] at this; exact this⟩ ⟨xPc_blind, hrec, fun U hU hW => ⟨rfl, by rw [hU]; exact hP, hG U locs hW (by rw [hU]; exact hS)⟩⟩ rfl (by rw [List.length_map]; exact hn) hls rfl (lv_room hsum) hdg ⟨Nat.le_refl _, Nat.le_refl _⟩
  exact lcall_W hA fin hS kk
abbrev lwL (b : Nat) (ad : Nat → Nat) (i : Nat) : List (Nat × Value) := [(0, .ref b), (1, .ref (ad 0)), (2, .ref (ad 45)), (3, .int (nI i))]
/-- from place pc on, wherever class and reference agree -/
def lwGo (D : va_G) (cI cJ : ClassId) (ad : Nat → Nat) (p : Program) (l : Launch) (e : Env) (s : State) (m : MethodId) (below : List Frame) (meth : Method) (c : Code) (b i pc : Nat) : Prop := ∀ (w : xW) (H : Heap) (locs : List Loc) (ls : Array Slot), wJ w → va_P D vwCl (xws cI cJ ad w) H → va_S (fun q : Nat => s.heap.size ≤ q) s.heap H locs → lv_has ls 8 (lwL b ad i) → W p l e room_1 s m #[Value.ref b] below meth c H locs 66 2176 (lw_Z below #[Value.ref b] s) (F0 m pc ls [])
variable {b L i : Nat} {xs : Nat → Int32}
set_option maxRecDepth 100000 in
theorem law_add (C0 : lw_At p s m meth c b L xs) (X : lwX D cI cJ ad adV s) (hi : i + 3 ≤ L) (hL : L ≤ 1536) (next : lwGo D cI cJ ad p l e s m below meth c b i 758) : lwGo D cI cJ ad p l e s m below meth c b i 152 := by
  obtain ⟨hx, hb, hr, hml, hown, hts, hX, hbl, hlocks, hgv⟩ := id C0
  have hbA : ¬ (fun q : Nat => s.heap.size ≤ q) b := Nat.not_le.mpr hbl
  have S : CallFix p m c code 8 s #[Value.ref b] xTB R_law := ⟨hx, hb, hml, hown, fun w hw => hts w ((List.mem_filter.mp hw).1)⟩
  intro w H locs ls hJ hP hS hl
  have h1 : vp_in (nI i + 1) L := by rw [← nI_succ]; exact vp_in_nI (by omega) (by omega)
  have h2 : vp_in (nI i + 2) L := by rw [show (2 : Int32) = nI 2 from rfl, jI_add]; exact vp_in_nI (by omega) (by omega)
  obtain ⟨v, w1, w2, c1, c2, hJ2⟩ := p_add (x := xs (nI i + 1).toNatClampNeg) (y := xs (nI i + 2).toNatClampNeg) w hJ
  refine lv_aload_n hx hb jl_152 rfl (lv_at hl 1 rfl) ?_
  refine lv_aload_n hx hb jl_153 rfl (lv_at hl 0 rfl) ?_
  refine lv_iload_n hx hb jl_154 rfl (lv_at hl 3 rfl) ?_
  refine lv_iconst (v := 1) hx hb jl_155 (by decide) ?_
  refine lv_iadd hx hb jl_156 ?_
  refine va_sld hx hb hX hbl hbA hS h1 jl_157 ?_
  refine lv_aload_n hx hb jl_158 rfl (lv_at hl 0 rfl) ?_
  refine lv_iload_n hx hb jl_159 rfl (lv_at hl 3 rfl) ?_
  refine lv_iconst (v := 2) hx hb jl_160 (by decide) ?_
  refine lv_iadd hx hb jl_161 ?_
  refine va_sld hx hb hX hbl hbA hS h2 jl_162 ?_
  refine lcall (M2 := MX7_add) (a := 0) (As0 := [.int (xs (nI i + 1).toNatClampNeg), .int (xs (nI i + 2).toNatClampNeg)]) (rest := []) (index := 13) S X mkX7_add c1 rfl rfl (Nat.le_of_ble_eq_true rfl) rfl ⟨xtb 320 (by decide +kernel) (by decide +kernel), xtb 321 (by decide +kernel) (by decide +kernel), xtb 322 (by decide +kernel) (by decide +kernel)⟩ ⟨Nat.le_of_ble_eq_true rfl, Nat.le_of_ble_eq_true rfl⟩ hl.1 (Nat.le_of_ble_eq_true rfl) jl_163 hP hS (fun H locs hP hS => ?_)
  refine lv_aload_n hx hb jl_166 rfl (lv_at hl 2 rfl) ?_
  refine lv_aload_n hx hb jl_167 rfl (lv_at hl 0 rfl) ?_
  refine lv_iload_n hx hb jl_168 rfl (lv_at hl 3 rfl) ?_
  refine lv_iconst (v := 1) hx hb jl_169 (by decide) ?_
  refine lv_iadd hx hb jl_170 ?_
  refine va_sld hx hb hX hbl hbA hS h1 jl_171 ?_
  refine lv_aload_n hx hb jl_172 rfl (lv_at hl 0 rfl) ?_
  refine lv_iload_n hx hb jl_173 rfl (lv_at hl 3 rfl) ?_
  refine lv_iconst (v := 2) hx hb jl_174 (by decide) ?_
  refine lv_iadd hx hb jl_175 ?_
  refine va_sld hx hb hX hbl hbA hS h2 jl_176 ?_
  refine lcall (M2 := MX8_add) (a := 45) (As0 := [.int (xs (nI i + 1).toNatClampNeg), .int (xs (nI i + 2).toNatClampNeg)]) (rest := [.int v]) (index := 17) S X mkX8_add c2 rfl rfl (Nat.le_of_ble_eq_true rfl) rfl ⟨xtb 976 (by decide +kernel) (by decide +kernel), xtb 977 (by decide +kernel) (by decide +kernel), xtb 978 (by decide +kernel) (by decide +kernel)⟩ ⟨Nat.le_of_ble_eq_true rfl, Nat.le_of_ble_eq_true rfl⟩ hl.1 (Nat.le_of_ble_eq_true rfl) jl_177 hP hS (fun H locs hP hS => ?_)
  exact lv_icmp_eq (tgt := 758) hx hb jl_180 (by decide) (fun _ => next w2 H locs ls hJ2 hP hS hl) (fun z => absurd rfl z)
set_option maxRecDepth 100000 in
theorem law_drop (C0 : lw_At p s m meth c b L xs) (X : lwX D cI cJ ad adV s) (hi : i + 3 ≤ L) (hL : L ≤ 1536) (next : lwGo D cI cJ ad p l e s m below meth c b i 758) : lwGo D cI cJ ad p l e s m below meth c b i 185 := by
  obtain ⟨hx, hb, hr, hml, hown, hts, hX, hbl, hlocks, hgv⟩ := id C0
  have hbA : ¬ (fun q : Nat => s.heap.size ≤ q) b := Nat.not_le.mpr hbl
  have S : CallFix p m c code 8 s #[Value.ref b] xTB R_law := ⟨hx, hb, hml, hown, fun w hw => hts w ((List.mem_filter.mp hw).1)⟩
  intro w H locs ls hJ hP hS hl
  have h1 : vp_in (nI i + 1) L := by rw [← nI_succ]; exact vp_in_nI (by omega) (by omega)
  have h2 : vp_in (nI i + 2) L := by rw [show (2 : Int32) = nI 2 from rfl, jI_add]; exact vp_in_nI (by omega) (by omega)
  obtain ⟨v, w1, w2, c1, c2, hJ2⟩ := p_drop (x := xs (nI i + 1).toNatClampNeg) (y := xs (nI i + 2).toNatClampNeg) w hJ
  refine lv_aload_n hx hb jl_185 rfl (lv_at hl 1 rfl) ?_
  refine lv_aload_n hx hb jl_186 rfl (lv_at hl 0 rfl) ?_
  refine lv_iload_n hx hb jl_187 rfl (lv_at hl 3 rfl) ?_
  refine lv_iconst (v := 1) hx hb jl_188 (by decide) ?_
  refine lv_iadd hx hb jl_189 ?_
  refine va_sld hx hb hX hbl hbA hS h1 jl_190 ?_
  refine lv_aload_n hx hb jl_191 rfl (lv_at hl 0 rfl) ?_
  refine lv_iload_n hx hb jl_192 rfl (lv_at hl 3 rfl) ?_
  refine lv_iconst (v := 2) hx hb jl_193 (by decide) ?_
  refine lv_iadd hx hb jl_194 ?_
  refine va_sld hx hb hX hbl hbA hS h2 jl_195 ?_
  refine lcall (M2 := MX7_drop) (a := 0) (As0 := [.int (xs (nI i + 1).toNatClampNeg), .int (xs (nI i + 2).toNatClampNeg)]) (rest := []) (index := 18) S X mkX7_drop c1 rfl rfl (Nat.le_of_ble_eq_true rfl) rfl ⟨xtb 375 (by decide +kernel) (by decide +kernel), xtb 376 (by decide +kernel) (by decide +kernel), xtb 377 (by decide +kernel) (by decide +kernel)⟩ ⟨Nat.le_of_ble_eq_true rfl, Nat.le_of_ble_eq_true rfl⟩ hl.1 (Nat.le_of_ble_eq_true rfl) jl_196 hP hS (fun H locs hP hS => ?_)
  refine lv_aload_n hx hb jl_199 rfl (lv_at hl 2 rfl) ?_
  refine lv_aload_n hx hb jl_200 rfl (lv_at hl 0 rfl) ?_
  refine lv_iload_n hx hb jl_201 rfl (lv_at hl 3 rfl) ?_
  refine lv_iconst (v := 1) hx hb jl_202 (by decide) ?_
  refine lv_iadd hx hb jl_203 ?_
  refine va_sld hx hb hX hbl hbA hS h1 jl_204 ?_
  refine lv_aload_n hx hb jl_205 rfl (lv_at hl 0 rfl) ?_
  refine lv_iload_n hx hb jl_206 rfl (lv_at hl 3 rfl) ?_
  refine lv_iconst (v := 2) hx hb jl_207 (by decide) ?_
  refine lv_iadd hx hb jl_208 ?_
  refine va_sld hx hb hX hbl hbA hS h2 jl_209 ?_
  refine lcall (M2 := MX8_drop) (a := 45) (As0 := [.int (xs (nI i + 1).toNatClampNeg), .int (xs (nI i + 2).toNatClampNeg)]) (rest := [.int v]) (index := 21) S X mkX8_drop c2 rfl rfl (Nat.le_of_ble_eq_true rfl) rfl ⟨xtb 994 (by decide +kernel) (by decide +kernel), xtb 995 (by decide +kernel) (by decide +kernel), xtb 996 (by decide +kernel) (by decide +kernel)⟩ ⟨Nat.le_of_ble_eq_true rfl, Nat.le_of_ble_eq_true rfl⟩ hl.1 (Nat.le_of_ble_eq_true rfl) jl_210 hP hS (fun H locs hP hS => ?_)
  exact lv_icmp_eq (tgt := 758) hx hb jl_213 (by decide) (fun _ => next w2 H locs ls hJ2 hP hS hl) (fun z => absurd rfl z)
set_option maxRecDepth 100000 in
theorem law_clear (C0 : lw_At p s m meth c b L xs) (X : lwX D cI cJ ad adV s) (hi : i + 3 ≤ L) (hL : L ≤ 1536) (next : lwGo D cI cJ ad p l e s m below meth c b i 758) : lwGo D cI cJ ad p l e s m below meth c b i 218 := by
  obtain ⟨hx, hb, hr, hml, hown, hts, hX, hbl, hlocks, hgv⟩ := id C0
  have hbA : ¬ (fun q : Nat => s.heap.size ≤ q) b := Nat.not_le.mpr hbl
  have S : CallFix p m c code 8 s #[Value.ref b] xTB R_law := ⟨hx, hb, hml, hown, fun w hw => hts w ((List.mem_filter.mp hw).1)⟩
  intro w H locs ls hJ hP hS hl
  have h1 : vp_in (nI i + 1) L := by rw [← nI_succ]; exact vp_in_nI (by omega) (by omega)
  have h2 : vp_in (nI i + 2) L := by rw [show (2 : Int32) = nI 2 from rfl, jI_add]; exact vp_in_nI (by omega) (by omega)
  obtain ⟨v, w1, w2, c1, c2, hJ2⟩ := p_clear w hJ
  refine lv_aload_n hx hb jl_218 rfl (lv_at hl 1 rfl) ?_
  refine lcall (M2 := MX7_clear) (a := 0) (As0 := []) (rest := []) (index := 22) S X mkX7_clear c1 rfl rfl (Nat.le_of_ble_eq_true rfl) rfl ⟨xtb 379 (by decide +kernel) (by decide +kernel), xtb 380 (by decide +kernel) (by decide +kernel), xtb 381 (by decide +kernel) (by decide +kernel)⟩ ⟨Nat.le_of_ble_eq_true rfl, Nat.le_of_ble_eq_true rfl⟩ hl.1 (Nat.le_of_ble_eq_true rfl) jl_219 hP hS (fun H locs hP hS => ?_)
  refine lv_aload_n hx hb jl_222 rfl (lv_at hl 2 rfl) ?_
  refine lcall (M2 := MX8_clear) (a := 45) (As0 := []) (rest := [.int v]) (index := 26) S X mkX8_clear c2 rfl rfl (Nat.le_of_ble_eq_true rfl) rfl ⟨xtb 998 (by decide +kernel) (by decide +kernel), xtb 999 (by decide +kernel) (by decide +kernel), xtb 1000 (by decide +kernel) (by decide +kernel)⟩ ⟨Nat.le_of_ble_eq_true rfl, Nat.le_of_ble_eq_true rfl⟩ hl.1 (Nat.le_of_ble_eq_true rfl) jl_223 hP hS (fun H locs hP hS => ?_)
  exact lv_icmp_eq (tgt := 758) hx hb jl_226 (by decide) (fun _ => next w2 H locs ls hJ2 hP hS hl) (fun z => absurd rfl z)
set_option maxRecDepth 100000 in
theorem law_comp (C0 : lw_At p s m meth c b L xs) (X : lwX D cI cJ ad adV s) (hi : i + 3 ≤ L) (hL : L ≤ 1536) (next : lwGo D cI cJ ad p l e s m below meth c b i 758) : lwGo D cI cJ ad p l e s m below meth c b i 231 := by
  obtain ⟨hx, hb, hr, hml, hown, hts, hX, hbl, hlocks, hgv⟩ := id C0
  have hbA : ¬ (fun q : Nat => s.heap.size ≤ q) b := Nat.not_le.mpr hbl
  have S : CallFix p m c code 8 s #[Value.ref b] xTB R_law := ⟨hx, hb, hml, hown, fun w hw => hts w ((List.mem_filter.mp hw).1)⟩
  intro w H locs ls hJ hP hS hl
  have h1 : vp_in (nI i + 1) L := by rw [← nI_succ]; exact vp_in_nI (by omega) (by omega)
  have h2 : vp_in (nI i + 2) L := by rw [show (2 : Int32) = nI 2 from rfl, jI_add]; exact vp_in_nI (by omega) (by omega)
  obtain ⟨v, w1, w2, c1, c2, hJ2⟩ := p_comp w hJ
  refine lv_aload_n hx hb jl_231 rfl (lv_at hl 1 rfl) ?_
  refine lcall (M2 := MX7_complete) (a := 0) (As0 := []) (rest := []) (index := 27) S X mkX7_complete c1 rfl rfl (Nat.le_of_ble_eq_true rfl) rfl ⟨xtb 388 (by decide +kernel) (by decide +kernel), xtb 389 (by decide +kernel) (by decide +kernel), xtb 390 (by decide +kernel) (by decide +kernel)⟩ ⟨Nat.le_of_ble_eq_true rfl, Nat.le_of_ble_eq_true rfl⟩ hl.1 (Nat.le_of_ble_eq_true rfl) jl_232 hP hS (fun H locs hP hS => ?_)
  refine lv_aload_n hx hb jl_235 rfl (lv_at hl 2 rfl) ?_
  refine lcall (M2 := MX8_complete) (a := 45) (As0 := []) (rest := [.int v]) (index := 30) S X mkX8_complete c2 rfl rfl (Nat.le_of_ble_eq_true rfl) rfl ⟨xtb 1002 (by decide +kernel) (by decide +kernel), xtb 1003 (by decide +kernel) (by decide +kernel), xtb 1004 (by decide +kernel) (by decide +kernel)⟩ ⟨Nat.le_of_ble_eq_true rfl, Nat.le_of_ble_eq_true rfl⟩ hl.1 (Nat.le_of_ble_eq_true rfl) jl_236 hP hS (fun H locs hP hS => ?_)
  exact lv_icmp_eq (tgt := 758) hx hb jl_239 (by decide) (fun _ => next w2 H locs ls hJ2 hP hS hl) (fun z => absurd rfl z)
set_option maxRecDepth 100000 in
theorem law_app (C0 : lw_At p s m meth c b L xs) (X : lwX D cI cJ ad adV s) (hi : i + 3 ≤ L) (hL : L ≤ 1536) (next : lwGo D cI cJ ad p l e s m below meth c b i 758) : lwGo D cI cJ ad p l e s m below meth c b i 244 := by
  obtain ⟨hx, hb, hr, hml, hown, hts, hX, hbl, hlocks, hgv⟩ := id C0
  have hbA : ¬ (fun q : Nat => s.heap.size ≤ q) b := Nat.not_le.mpr hbl
  have S : CallFix p m c code 8 s #[Value.ref b] xTB R_law := ⟨hx, hb, hml, hown, fun w hw => hts w ((List.mem_filter.mp hw).1)⟩
  intro w H locs ls hJ hP hS hl
  have h1 : vp_in (nI i + 1) L := by rw [← nI_succ]; exact vp_in_nI (by omega) (by omega)
  have h2 : vp_in (nI i + 2) L := by rw [show (2 : Int32) = nI 2 from rfl, jI_add]; exact vp_in_nI (by omega) (by omega)
  obtain ⟨v, w1, w2, c1, c2, hJ2⟩ := p_app (x := xs (nI i + 1).toNatClampNeg) w hJ
  refine lv_aload_n hx hb jl_244 rfl (lv_at hl 1 rfl) ?_
  refine lv_aload_n hx hb jl_245 rfl (lv_at hl 0 rfl) ?_
  refine lv_iload_n hx hb jl_246 rfl (lv_at hl 3 rfl) ?_
  refine lv_iconst (v := 1) hx hb jl_247 (by decide) ?_
  refine lv_iadd hx hb jl_248 ?_
  refine va_sld hx hb hX hbl hbA hS h1 jl_249 ?_
  refine lcall (M2 := MX7_append) (a := 0) (As0 := [.int (xs (nI i + 1).toNatClampNeg)]) (rest := []) (index := 31) S X mkX7_append c1 rfl rfl (Nat.le_of_ble_eq_true rfl) rfl ⟨xtb 507 (by decide +kernel) (by decide +kernel), xtb 508 (by decide +kernel) (by decide +kernel), xtb 509 (by decide +kernel) (by decide +kernel)⟩ ⟨Nat.le_of_ble_eq_true rfl, Nat.le_of_ble_eq_true rfl⟩ hl.1 (Nat.le_of_ble_eq_true rfl) jl_250 hP hS (fun H locs hP hS => ?_)
  refine lv_aload_n hx hb jl_253 rfl (lv_at hl 2 rfl) ?_
  refine lv_aload_n hx hb jl_254 rfl (lv_at hl 0 rfl) ?_
  refine lv_iload_n hx hb jl_255 rfl (lv_at hl 3 rfl) ?_
  refine lv_iconst (v := 1) hx hb jl_256 (by decide) ?_
  refine lv_iadd hx hb jl_257 ?_
  refine va_sld hx hb hX hbl hbA hS h1 jl_258 ?_
  refine lcall (M2 := MX8_append) (a := 45) (As0 := [.int (xs (nI i + 1).toNatClampNeg)]) (rest := [.int v]) (index := 35) S X mkX8_append c2 rfl rfl (Nat.le_of_ble_eq_true rfl) rfl ⟨xtb 1124 (by decide +kernel) (by decide +kernel), xtb 1125 (by decide +kernel) (by decide +kernel), xtb 1126 (by decide +kernel) (by decide +kernel)⟩ ⟨Nat.le_of_ble_eq_true rfl, Nat.le_of_ble_eq_true rfl⟩ hl.1 (Nat.le_of_ble_eq_true rfl) jl_259 hP hS (fun H locs hP hS => ?_)
  exact lv_icmp_eq (tgt := 758) hx hb jl_262 (by decide) (fun _ => next w2 H locs ls hJ2 hP hS hl) (fun z => absurd rfl z)
set_option maxRecDepth 100000 in
theorem law_ct (C0 : lw_At p s m meth c b L xs) (X : lwX D cI cJ ad adV s) (hi : i + 3 ≤ L) (hL : L ≤ 1536) (next : lwGo D cI cJ ad p l e s m below meth c b i 758) : lwGo D cI cJ ad p l e s m below meth c b i 267 := by
  obtain ⟨hx, hb, hr, hml, hown, hts, hX, hbl, hlocks, hgv⟩ := id C0
  have hbA : ¬ (fun q : Nat => s.heap.size ≤ q) b := Nat.not_le.mpr hbl
  have S : CallFix p m c code 8 s #[Value.ref b] xTB R_law := ⟨hx, hb, hml, hown, fun w hw => hts w ((List.mem_filter.mp hw).1)⟩
  intro w H locs ls hJ hP hS hl
  have h1 : vp_in (nI i + 1) L := by rw [← nI_succ]; exact vp_in_nI (by omega) (by omega)
  have h2 : vp_in (nI i + 2) L := by rw [show (2 : Int32) = nI 2 from rfl, jI_add]; exact vp_in_nI (by omega) (by omega)
  obtain ⟨v, w1, w2, c1, c2, hJ2⟩ := p_ct w hJ
  refine lv_aload_n hx hb jl_267 rfl (lv_at hl 1 rfl) ?_
  refine lcall (M2 := MX7_clearText) (a := 0) (As0 := []) (rest := []) (index := 36) S X mkX7_clearText c1 rfl rfl (Nat.le_of_ble_eq_true rfl) rfl ⟨xtb 520 (by decide +kernel) (by decide +kernel), xtb 521 (by decide +kernel) (by decide +kernel), xtb 522 (by decide +kernel) (by decide +kernel)⟩ ⟨Nat.le_of_ble_eq_true rfl, Nat.le_of_ble_eq_true rfl⟩ hl.1 (Nat.le_of_ble_eq_true rfl) jl_268 hP hS (fun H locs hP hS => ?_)
  refine lv_aload_n hx hb jl_271 rfl (lv_at hl 2 rfl) ?_
  refine lcall (M2 := MX8_clearText) (a := 45) (As0 := []) (rest := [.int v]) (index := 39) S X mkX8_clearText c2 rfl rfl (Nat.le_of_ble_eq_true rfl) rfl ⟨xtb 1128 (by decide +kernel) (by decide +kernel), xtb 1129 (by decide +kernel) (by decide +kernel), xtb 1130 (by decide +kernel) (by decide +kernel)⟩ ⟨Nat.le_of_ble_eq_true rfl, Nat.le_of_ble_eq_true rfl⟩ hl.1 (Nat.le_of_ble_eq_true rfl) jl_272 hP hS (fun H locs hP hS => ?_)
  exact lv_icmp_eq (tgt := 758) hx hb jl_275 (by decide) (fun _ => next w2 H locs ls hJ2 hP hS hl) (fun z => absurd rfl z)
set_option maxRecDepth 100000 in
theorem law_fault (C0 : lw_At p s m meth c b L xs) (X : lwX D cI cJ ad adV s) (hi : i + 3 ≤ L) (hL : L ≤ 1536) (next : lwGo D cI cJ ad p l e s m below meth c b i 758) : lwGo D cI cJ ad p l e s m below meth c b i 280 := by
  obtain ⟨hx, hb, hr, hml, hown, hts, hX, hbl, hlocks, hgv⟩ := id C0
  have hbA : ¬ (fun q : Nat => s.heap.size ≤ q) b := Nat.not_le.mpr hbl
  have S : CallFix p m c code 8 s #[Value.ref b] xTB R_law := ⟨hx, hb, hml, hown, fun w hw => hts w ((List.mem_filter.mp hw).1)⟩
  intro w H locs ls hJ hP hS hl
  have h1 : vp_in (nI i + 1) L := by rw [← nI_succ]; exact vp_in_nI (by omega) (by omega)
  have h2 : vp_in (nI i + 2) L := by rw [show (2 : Int32) = nI 2 from rfl, jI_add]; exact vp_in_nI (by omega) (by omega)
  obtain ⟨v, w1, w2, c1, c2, hJ2⟩ := p_fault w hJ
  refine lv_aload_n hx hb jl_280 rfl (lv_at hl 1 rfl) ?_
  refine lcall (M2 := MX7_fault) (a := 0) (As0 := []) (rest := []) (index := 40) S X mkX7_fault c1 rfl rfl (Nat.le_of_ble_eq_true rfl) rfl ⟨xtb 528 (by decide +kernel) (by decide +kernel), xtb 529 (by decide +kernel) (by decide +kernel), xtb 530 (by decide +kernel) (by decide +kernel)⟩ ⟨Nat.le_of_ble_eq_true rfl, Nat.le_of_ble_eq_true rfl⟩ hl.1 (Nat.le_of_ble_eq_true rfl) jl_281 hP hS (fun H locs hP hS => ?_)
  refine lv_aload_n hx hb jl_284 rfl (lv_at hl 2 rfl) ?_
  refine lcall (M2 := MX8_fault) (a := 45) (As0 := []) (rest := [.int v]) (index := 43) S X mkX8_fault c2 rfl rfl (Nat.le_of_ble_eq_true rfl) rfl ⟨xtb 1132 (by decide +kernel) (by decide +kernel), xtb 1133 (by decide +kernel) (by decide +kernel), xtb 1134 (by decide +kernel) (by decide +kernel)⟩ ⟨Nat.le_of_ble_eq_true rfl, Nat.le_of_ble_eq_true rfl⟩ hl.1 (Nat.le_of_ble_eq_true rfl) jl_285 hP hS (fun H locs hP hS => ?_)
  exact lv_icmp_eq (tgt := 758) hx hb jl_288 (by decide) (fun _ => next w2 H locs ls hJ2 hP hS hl) (fun z => absurd rfl z)
set_option maxRecDepth 100000 in
theorem law_run (C0 : lw_At p s m meth c b L xs) (X : lwX D cI cJ ad adV s) (hi : i + 3 ≤ L) (hL : L ≤ 1536) (next : lwGo D cI cJ ad p l e s m below meth c b i 758) : lwGo D cI cJ ad p l e s m below meth c b i 293 := by
  obtain ⟨hx, hb, hr, hml, hown, hts, hX, hbl, hlocks, hgv⟩ := id C0
  have hbA : ¬ (fun q : Nat => s.heap.size ≤ q) b := Nat.not_le.mpr hbl
  have S : CallFix p m c code 8 s #[Value.ref b] xTB R_law := ⟨hx, hb, hml, hown, fun w hw => hts w ((List.mem_filter.mp hw).1)⟩
  intro w H locs ls hJ hP hS hl
  have h1 : vp_in (nI i + 1) L := by rw [← nI_succ]; exact vp_in_nI (by omega) (by omega)
  have h2 : vp_in (nI i + 2) L := by rw [show (2 : Int32) = nI 2 from rfl, jI_add]; exact vp_in_nI (by omega) (by omega)
  obtain ⟨v, w1, w2, c1, c2, hJ2⟩ := p_run w hJ
  refine lv_aload_n hx hb jl_293 rfl (lv_at hl 1 rfl) ?_
  refine lcall (M2 := MX7_run) (a := 0) (As0 := []) (rest := []) (index := 44) S X mkX7_run c1 rfl rfl (Nat.le_of_ble_eq_true rfl) rfl ⟨xtb 606 (by decide +kernel) (by decide +kernel), xtb 607 (by decide +kernel) (by decide +kernel), xtb 608 (by decide +kernel) (by decide +kernel)⟩ ⟨Nat.le_of_ble_eq_true rfl, Nat.le_of_ble_eq_true rfl⟩ hl.1 (Nat.le_of_ble_eq_true rfl) jl_294 hP hS (fun H locs hP hS => ?_)
  refine lv_aload_n hx hb jl_297 rfl (lv_at hl 2 rfl) ?_
  refine lcall (M2 := MX8_run) (a := 45) (As0 := []) (rest := [.int v]) (index := 47) S X mkX8_run c2 rfl rfl (Nat.le_of_ble_eq_true rfl) rfl ⟨xtb 1156 (by decide +kernel) (by decide +kernel), xtb 1157 (by decide +kernel) (by decide +kernel), xtb 1158 (by decide +kernel) (by decide +kernel)⟩ ⟨Nat.le_of_ble_eq_true rfl, Nat.le_of_ble_eq_true rfl⟩ hl.1 (Nat.le_of_ble_eq_true rfl) jl_298 hP hS (fun H locs hP hS => ?_)
  exact lv_icmp_eq (tgt := 758) hx hb jl_301 (by decide) (fun _ => next w2 H locs ls hJ2 hP hS hl) (fun z => absurd rfl z)
set_option maxRecDepth 100000 in
theorem law_undo (C0 : lw_At p s m meth c b L xs) (X : lwX D cI cJ ad adV s) (hi : i + 3 ≤ L) (hL : L ≤ 1536) (next : lwGo D cI cJ ad p l e s m below meth c b i 758) : lwGo D cI cJ ad p l e s m below meth c b i 306 := by
  obtain ⟨hx, hb, hr, hml, hown, hts, hX, hbl, hlocks, hgv⟩ := id C0
  have hbA : ¬ (fun q : Nat => s.heap.size ≤ q) b := Nat.not_le.mpr hbl
  have S : CallFix p m c code 8 s #[Value.ref b] xTB R_law := ⟨hx, hb, hml, hown, fun w hw => hts w ((List.mem_filter.mp hw).1)⟩
  intro w H locs ls hJ hP hS hl
  have h1 : vp_in (nI i + 1) L := by rw [← nI_succ]; exact vp_in_nI (by omega) (by omega)
  have h2 : vp_in (nI i + 2) L := by rw [show (2 : Int32) = nI 2 from rfl, jI_add]; exact vp_in_nI (by omega) (by omega)
  obtain ⟨v, w1, w2, c1, c2, hJ2⟩ := p_undo w hJ
  refine lv_aload_n hx hb jl_306 rfl (lv_at hl 1 rfl) ?_
  refine lcall (M2 := MX7_undo) (a := 0) (As0 := []) (rest := []) (index := 48) S X mkX7_undo c1 rfl rfl (Nat.le_of_ble_eq_true rfl) rfl ⟨xtb 630 (by decide +kernel) (by decide +kernel), xtb 631 (by decide +kernel) (by decide +kernel), xtb 632 (by decide +kernel) (by decide +kernel)⟩ ⟨Nat.le_of_ble_eq_true rfl, Nat.le_of_ble_eq_true rfl⟩ hl.1 (Nat.le_of_ble_eq_true rfl) jl_307 hP hS (fun H locs hP hS => ?_)
  refine lv_aload_n hx hb jl_310 rfl (lv_at hl 2 rfl) ?_
  refine lcall (M2 := MX8_undo) (a := 45) (As0 := []) (rest := [.int v]) (index := 51) S X mkX8_undo c2 rfl rfl (Nat.le_of_ble_eq_true rfl) rfl ⟨xtb 953 (by decide +kernel) (by decide +kernel), xtb 954 (by decide +kernel) (by decide +kernel), xtb 955 (by decide +kernel) (by decide +kernel)⟩ ⟨Nat.le_of_ble_eq_true rfl, Nat.le_of_ble_eq_true rfl⟩ hl.1 (Nat.le_of_ble_eq_true rfl) jl_311 hP hS (fun H locs hP hS => ?_)
  exact lv_icmp_eq (tgt := 758) hx hb jl_314 (by decide) (fun _ => next w2 H locs ls hJ2 hP hS hl) (fun z => absurd rfl z)
set_option maxRecDepth 100000 in
theorem law_save (C0 : lw_At p s m meth c b L xs) (X : lwX D cI cJ ad adV s) (hi : i + 3 ≤ L) (hL : L ≤ 1536) (next : lwGo D cI cJ ad p l e s m below meth c b i 758) : lwGo D cI cJ ad p l e s m below meth c b i 319 := by
  obtain ⟨hx, hb, hr, hml, hown, hts, hX, hbl, hlocks, hgv⟩ := id C0
  have hbA : ¬ (fun q : Nat => s.heap.size ≤ q) b := Nat.not_le.mpr hbl
  have S : CallFix p m c code 8 s #[Value.ref b] xTB R_law := ⟨hx, hb, hml, hown, fun w hw => hts w ((List.mem_filter.mp hw).1)⟩
  intro w H locs ls hJ hP hS hl
  have h1 : vp_in (nI i + 1) L := by rw [← nI_succ]; exact vp_in_nI (by omega) (by omega)
  have h2 : vp_in (nI i + 2) L := by rw [show (2 : Int32) = nI 2 from rfl, jI_add]; exact vp_in_nI (by omega) (by omega)
  obtain ⟨v, w1, w2, c1, c2, hJ2⟩ := p_save w hJ
  refine lv_aload_n hx hb jl_319 rfl (lv_at hl 1 rfl) ?_
  refine lcall (M2 := MX7_save) (a := 0) (As0 := []) (rest := []) (index := 52) S X mkX7_save c1 rfl rfl (Nat.le_of_ble_eq_true rfl) rfl ⟨xtb 646 (by decide +kernel) (by decide +kernel), xtb 647 (by decide +kernel) (by decide +kernel), xtb 648 (by decide +kernel) (by decide +kernel)⟩ ⟨Nat.le_of_ble_eq_true rfl, Nat.le_of_ble_eq_true rfl⟩ hl.1 (Nat.le_of_ble_eq_true rfl) jl_320 hP hS (fun H locs hP hS => ?_)
  refine lv_aload_n hx hb jl_323 rfl (lv_at hl 2 rfl) ?_
  refine lcall (M2 := MX8_save) (a := 45) (As0 := []) (rest := [.int v]) (index := 55) S X mkX8_save c2 rfl rfl (Nat.le_of_ble_eq_true rfl) rfl ⟨xtb 957 (by decide +kernel) (by decide +kernel), xtb 958 (by decide +kernel) (by decide +kernel), xtb 959 (by decide +kernel) (by decide +kernel)⟩ ⟨Nat.le_of_ble_eq_true rfl, Nat.le_of_ble_eq_true rfl⟩ hl.1 (Nat.le_of_ble_eq_true rfl) jl_324 hP hS (fun H locs hP hS => ?_)
  exact lv_icmp_eq (tgt := 758) hx hb jl_327 (by decide) (fun _ => next w2 H locs ls hJ2 hP hS hl) (fun z => absurd rfl z)
set_option maxRecDepth 100000 in
theorem law_rest (C0 : lw_At p s m meth c b L xs) (X : lwX D cI cJ ad adV s) (hi : i + 3 ≤ L) (hL : L ≤ 1536) (next : lwGo D cI cJ ad p l e s m below meth c b i 758) : lwGo D cI cJ ad p l e s m below meth c b i 332 := by
  obtain ⟨hx, hb, hr, hml, hown, hts, hX, hbl, hlocks, hgv⟩ := id C0
  have hbA : ¬ (fun q : Nat => s.heap.size ≤ q) b := Nat.not_le.mpr hbl
  have S : CallFix p m c code 8 s #[Value.ref b] xTB R_law := ⟨hx, hb, hml, hown, fun w hw => hts w ((List.mem_filter.mp hw).1)⟩
  intro w H locs ls hJ hP hS hl
  have h1 : vp_in (nI i + 1) L := by rw [← nI_succ]; exact vp_in_nI (by omega) (by omega)
  have h2 : vp_in (nI i + 2) L := by rw [show (2 : Int32) = nI 2 from rfl, jI_add]; exact vp_in_nI (by omega) (by omega)
  obtain ⟨v, w1, w2, c1, c2, hJ2⟩ := p_rest w hJ
  refine lv_aload_n hx hb jl_332 rfl (lv_at hl 1 rfl) ?_
  refine lcall (M2 := MX7_restore) (a := 0) (As0 := []) (rest := []) (index := 56) S X mkX7_restore c1 rfl rfl (Nat.le_of_ble_eq_true rfl) rfl ⟨xtb 653 (by decide +kernel) (by decide +kernel), xtb 654 (by decide +kernel) (by decide +kernel), xtb 655 (by decide +kernel) (by decide +kernel)⟩ ⟨Nat.le_of_ble_eq_true rfl, Nat.le_of_ble_eq_true rfl⟩ hl.1 (Nat.le_of_ble_eq_true rfl) jl_333 hP hS (fun H locs hP hS => ?_)
  refine lv_aload_n hx hb jl_336 rfl (lv_at hl 2 rfl) ?_
  refine lcall (M2 := MX8_restore) (a := 45) (As0 := []) (rest := [.int v]) (index := 59) S X mkX8_restore c2 rfl rfl (Nat.le_of_ble_eq_true rfl) rfl ⟨xtb 968 (by decide +kernel) (by decide +kernel), xtb 969 (by decide +kernel) (by decide +kernel), xtb 970 (by decide +kernel) (by decide +kernel)⟩ ⟨Nat.le_of_ble_eq_true rfl, Nat.le_of_ble_eq_true rfl⟩ hl.1 (Nat.le_of_ble_eq_true rfl) jl_337 hP hS (fun H locs hP hS => ?_)
  exact lv_icmp_eq (tgt := 758) hx hb jl_340 (by decide) (fun _ => next w2 H locs ls hJ2 hP hS hl) (fun z => absurd rfl z)
set_option maxRecDepth 100000 in
theorem law_nb (C0 : lw_At p s m meth c b L xs) (X : lwX D cI cJ ad adV s) (hi : i + 3 ≤ L) (hL : L ≤ 1536) (next : lwGo D cI cJ ad p l e s m below meth c b i 758) : lwGo D cI cJ ad p l e s m below meth c b i 345 := by
  obtain ⟨hx, hb, hr, hml, hown, hts, hX, hbl, hlocks, hgv⟩ := id C0
  have hbA : ¬ (fun q : Nat => s.heap.size ≤ q) b := Nat.not_le.mpr hbl
  have S : CallFix p m c code 8 s #[Value.ref b] xTB R_law := ⟨hx, hb, hml, hown, fun w hw => hts w ((List.mem_filter.mp hw).1)⟩
  intro w H locs ls hJ hP hS hl
  have h1 : vp_in (nI i + 1) L := by rw [← nI_succ]; exact vp_in_nI (by omega) (by omega)
  have h2 : vp_in (nI i + 2) L := by rw [show (2 : Int32) = nI 2 from rfl, jI_add]; exact vp_in_nI (by omega) (by omega)
  obtain ⟨v, w1, w2, c1, c2, hJ2⟩ := p_nb (x := xs (nI i + 1).toNatClampNeg) w hJ
  refine lv_aload_n hx hb jl_345 rfl (lv_at hl 1 rfl) ?_
  refine lv_aload_n hx hb jl_346 rfl (lv_at hl 0 rfl) ?_
  refine lv_iload_n hx hb jl_347 rfl (lv_at hl 3 rfl) ?_
  refine lv_iconst (v := 1) hx hb jl_348 (by decide) ?_
  refine lv_iadd hx hb jl_349 ?_
  refine va_sld hx hb hX hbl hbA hS h1 jl_350 ?_
  refine lcall (M2 := MX7_neighbors) (a := 0) (As0 := [.int (xs (nI i + 1).toNatClampNeg)]) (rest := []) (index := 60) S X mkX7_neighbors c1 rfl rfl (Nat.le_of_ble_eq_true rfl) rfl ⟨xtb 657 (by decide +kernel) (by decide +kernel), xtb 658 (by decide +kernel) (by decide +kernel), xtb 659 (by decide +kernel) (by decide +kernel)⟩ ⟨Nat.le_of_ble_eq_true rfl, Nat.le_of_ble_eq_true rfl⟩ hl.1 (Nat.le_of_ble_eq_true rfl) jl_351 hP hS (fun H locs hP hS => ?_)
  refine lv_aload_n hx hb jl_354 rfl (lv_at hl 2 rfl) ?_
  refine lv_aload_n hx hb jl_355 rfl (lv_at hl 0 rfl) ?_
  refine lv_iload_n hx hb jl_356 rfl (lv_at hl 3 rfl) ?_
  refine lv_iconst (v := 1) hx hb jl_357 (by decide) ?_
  refine lv_iadd hx hb jl_358 ?_
  refine va_sld hx hb hX hbl hbA hS h1 jl_359 ?_
  refine lcall (M2 := MX8_neighbors) (a := 45) (As0 := [.int (xs (nI i + 1).toNatClampNeg)]) (rest := [.int v]) (index := 63) S X mkX8_neighbors c2 rfl rfl (Nat.le_of_ble_eq_true rfl) rfl ⟨xtb 1160 (by decide +kernel) (by decide +kernel), xtb 1161 (by decide +kernel) (by decide +kernel), xtb 1162 (by decide +kernel) (by decide +kernel)⟩ ⟨Nat.le_of_ble_eq_true rfl, Nat.le_of_ble_eq_true rfl⟩ hl.1 (Nat.le_of_ble_eq_true rfl) jl_360 hP hS (fun H locs hP hS => ?_)
  exact lv_icmp_eq (tgt := 758) hx hb jl_363 (by decide) (fun _ => next w2 H locs ls hJ2 hP hS hl) (fun z => absurd rfl z)
set_option maxRecDepth 100000 in
theorem law_count (C0 : lw_At p s m meth c b L xs) (X : lwX D cI cJ ad adV s) (hi : i + 3 ≤ L) (hL : L ≤ 1536) (next : lwGo D cI cJ ad p l e s m below meth c b i 758) : lwGo D cI cJ ad p l e s m below meth c b i 368 := by
  obtain ⟨hx, hb, hr, hml, hown, hts, hX, hbl, hlocks, hgv⟩ := id C0
  have hbA : ¬ (fun q : Nat => s.heap.size ≤ q) b := Nat.not_le.mpr hbl
  have S : CallFix p m c code 8 s #[Value.ref b] xTB R_law := ⟨hx, hb, hml, hown, fun w hw => hts w ((List.mem_filter.mp hw).1)⟩
  intro w H locs ls hJ hP hS hl
  have h1 : vp_in (nI i + 1) L := by rw [← nI_succ]; exact vp_in_nI (by omega) (by omega)
  have h2 : vp_in (nI i + 2) L := by rw [show (2 : Int32) = nI 2 from rfl, jI_add]; exact vp_in_nI (by omega) (by omega)
  obtain ⟨v, w1, w2, c1, c2, hJ2⟩ := p_count (x := xs (nI i + 1).toNatClampNeg) w hJ
  refine lv_aload_n hx hb jl_368 rfl (lv_at hl 1 rfl) ?_
  refine lv_aload_n hx hb jl_369 rfl (lv_at hl 0 rfl) ?_
  refine lv_iload_n hx hb jl_370 rfl (lv_at hl 3 rfl) ?_
  refine lv_iconst (v := 1) hx hb jl_371 (by decide) ?_
  refine lv_iadd hx hb jl_372 ?_
  refine va_sld hx hb hX hbl hbA hS h1 jl_373 ?_
  refine lcall (M2 := MX7_count) (a := 0) (As0 := [.int (xs (nI i + 1).toNatClampNeg)]) (rest := []) (index := 64) S X mkX7_count c1 rfl rfl (Nat.le_of_ble_eq_true rfl) rfl ⟨xtb 665 (by decide +kernel) (by decide +kernel), xtb 666 (by decide +kernel) (by decide +kernel), xtb 667 (by decide +kernel) (by decide +kernel)⟩ ⟨Nat.le_of_ble_eq_true rfl, Nat.le_of_ble_eq_true rfl⟩ hl.1 (Nat.le_of_ble_eq_true rfl) jl_374 hP hS (fun H locs hP hS => ?_)
  refine lv_aload_n hx hb jl_377 rfl (lv_at hl 2 rfl) ?_
  refine lv_aload_n hx hb jl_378 rfl (lv_at hl 0 rfl) ?_
  refine lv_iload_n hx hb jl_379 rfl (lv_at hl 3 rfl) ?_
  refine lv_iconst (v := 1) hx hb jl_380 (by decide) ?_
  refine lv_iadd hx hb jl_381 ?_
  refine va_sld hx hb hX hbl hbA hS h1 jl_382 ?_
  refine lcall (M2 := MX8_count) (a := 45) (As0 := [.int (xs (nI i + 1).toNatClampNeg)]) (rest := [.int v]) (index := 67) S X mkX8_count c2 rfl rfl (Nat.le_of_ble_eq_true rfl) rfl ⟨xtb 1164 (by decide +kernel) (by decide +kernel), xtb 1165 (by decide +kernel) (by decide +kernel), xtb 1166 (by decide +kernel) (by decide +kernel)⟩ ⟨Nat.le_of_ble_eq_true rfl, Nat.le_of_ble_eq_true rfl⟩ hl.1 (Nat.le_of_ble_eq_true rfl) jl_383 hP hS (fun H locs hP hS => ?_)
  exact lv_icmp_eq (tgt := 758) hx hb jl_386 (by decide) (fun _ => next w2 H locs ls hJ2 hP hS hl) (fun z => absurd rfl z)
set_option maxRecDepth 100000 in
theorem law_block (C0 : lw_At p s m meth c b L xs) (X : lwX D cI cJ ad adV s) (hi : i + 3 ≤ L) (hL : L ≤ 1536) (next : lwGo D cI cJ ad p l e s m below meth c b i 758) : lwGo D cI cJ ad p l e s m below meth c b i 391 := by
  obtain ⟨hx, hb, hr, hml, hown, hts, hX, hbl, hlocks, hgv⟩ := id C0
  have hbA : ¬ (fun q : Nat => s.heap.size ≤ q) b := Nat.not_le.mpr hbl
  have S : CallFix p m c code 8 s #[Value.ref b] xTB R_law := ⟨hx, hb, hml, hown, fun w hw => hts w ((List.mem_filter.mp hw).1)⟩
  intro w H locs ls hJ hP hS hl
  have h1 : vp_in (nI i + 1) L := by rw [← nI_succ]; exact vp_in_nI (by omega) (by omega)
  have h2 : vp_in (nI i + 2) L := by rw [show (2 : Int32) = nI 2 from rfl, jI_add]; exact vp_in_nI (by omega) (by omega)
  obtain ⟨v, w1, w2, c1, c2, hJ2⟩ := p_block (x := xs (nI i + 1).toNatClampNeg) (y := xs (nI i + 2).toNatClampNeg) w hJ
  refine lv_aload_n hx hb jl_391 rfl (lv_at hl 1 rfl) ?_
  refine lv_aload_n hx hb jl_392 rfl (lv_at hl 0 rfl) ?_
  refine lv_iload_n hx hb jl_393 rfl (lv_at hl 3 rfl) ?_
  refine lv_iconst (v := 1) hx hb jl_394 (by decide) ?_
  refine lv_iadd hx hb jl_395 ?_
  refine va_sld hx hb hX hbl hbA hS h1 jl_396 ?_
  refine lv_aload_n hx hb jl_397 rfl (lv_at hl 0 rfl) ?_
  refine lv_iload_n hx hb jl_398 rfl (lv_at hl 3 rfl) ?_
  refine lv_iconst (v := 2) hx hb jl_399 (by decide) ?_
  refine lv_iadd hx hb jl_400 ?_
  refine va_sld hx hb hX hbl hbA hS h2 jl_401 ?_
  refine lcall (M2 := MX7_block) (a := 0) (As0 := [.int (xs (nI i + 1).toNatClampNeg), .int (xs (nI i + 2).toNatClampNeg)]) (rest := []) (index := 68) S X mkX7_block c1 rfl rfl (Nat.le_of_ble_eq_true rfl) rfl ⟨xtb 686 (by decide +kernel) (by decide +kernel), xtb 687 (by decide +kernel) (by decide +kernel), xtb 688 (by decide +kernel) (by decide +kernel)⟩ ⟨Nat.le_of_ble_eq_true rfl, Nat.le_of_ble_eq_true rfl⟩ hl.1 (Nat.le_of_ble_eq_true rfl) jl_402 hP hS (fun H locs hP hS => ?_)
  refine lv_aload_n hx hb jl_405 rfl (lv_at hl 2 rfl) ?_
  refine lv_aload_n hx hb jl_406 rfl (lv_at hl 0 rfl) ?_
  refine lv_iload_n hx hb jl_407 rfl (lv_at hl 3 rfl) ?_
  refine lv_iconst (v := 1) hx hb jl_408 (by decide) ?_
  refine lv_iadd hx hb jl_409 ?_
  refine va_sld hx hb hX hbl hbA hS h1 jl_410 ?_
  refine lv_aload_n hx hb jl_411 rfl (lv_at hl 0 rfl) ?_
  refine lv_iload_n hx hb jl_412 rfl (lv_at hl 3 rfl) ?_
  refine lv_iconst (v := 2) hx hb jl_413 (by decide) ?_
  refine lv_iadd hx hb jl_414 ?_
  refine va_sld hx hb hX hbl hbA hS h2 jl_415 ?_
  refine lcall (M2 := MX8_block) (a := 45) (As0 := [.int (xs (nI i + 1).toNatClampNeg), .int (xs (nI i + 2).toNatClampNeg)]) (rest := [.int v]) (index := 71) S X mkX8_block c2 rfl rfl (Nat.le_of_ble_eq_true rfl) rfl ⟨xtb 1188 (by decide +kernel) (by decide +kernel), xtb 1189 (by decide +kernel) (by decide +kernel), xtb 1190 (by decide +kernel) (by decide +kernel)⟩ ⟨Nat.le_of_ble_eq_true rfl, Nat.le_of_ble_eq_true rfl⟩ hl.1 (Nat.le_of_ble_eq_true rfl) jl_416 hP hS (fun H locs hP hS => ?_)
  exact lv_icmp_eq (tgt := 758) hx hb jl_419 (by decide) (fun _ => next w2 H locs ls hJ2 hP hS hl) (fun z => absurd rfl z)
set_option maxRecDepth 100000 in
theorem law_info (C0 : lw_At p s m meth c b L xs) (X : lwX D cI cJ ad adV s) (hi : i + 3 ≤ L) (hL : L ≤ 1536) (next : lwGo D cI cJ ad p l e s m below meth c b i 758) : lwGo D cI cJ ad p l e s m below meth c b i 424 := by
  obtain ⟨hx, hb, hr, hml, hown, hts, hX, hbl, hlocks, hgv⟩ := id C0
  have hbA : ¬ (fun q : Nat => s.heap.size ≤ q) b := Nat.not_le.mpr hbl
  have S : CallFix p m c code 8 s #[Value.ref b] xTB R_law := ⟨hx, hb, hml, hown, fun w hw => hts w ((List.mem_filter.mp hw).1)⟩
  intro w H locs ls hJ hP hS hl
  have h1 : vp_in (nI i + 1) L := by rw [← nI_succ]; exact vp_in_nI (by omega) (by omega)
  have h2 : vp_in (nI i + 2) L := by rw [show (2 : Int32) = nI 2 from rfl, jI_add]; exact vp_in_nI (by omega) (by omega)
  obtain ⟨v, w1, w2, c1, c2, hJ2⟩ := p_info (x := xs (nI i + 1).toNatClampNeg) (y := xs (nI i + 2).toNatClampNeg) w hJ
  refine lv_aload_n hx hb jl_424 rfl (lv_at hl 1 rfl) ?_
  refine lv_aload_n hx hb jl_425 rfl (lv_at hl 0 rfl) ?_
  refine lv_iload_n hx hb jl_426 rfl (lv_at hl 3 rfl) ?_
  refine lv_iconst (v := 1) hx hb jl_427 (by decide) ?_
  refine lv_iadd hx hb jl_428 ?_
  refine va_sld hx hb hX hbl hbA hS h1 jl_429 ?_
  refine lv_aload_n hx hb jl_430 rfl (lv_at hl 0 rfl) ?_
  refine lv_iload_n hx hb jl_431 rfl (lv_at hl 3 rfl) ?_
  refine lv_iconst (v := 2) hx hb jl_432 (by decide) ?_
  refine lv_iadd hx hb jl_433 ?_
  refine va_sld hx hb hX hbl hbA hS h2 jl_434 ?_
  refine lcall (M2 := MX7_blockInfo) (a := 0) (As0 := [.int (xs (nI i + 1).toNatClampNeg), .int (xs (nI i + 2).toNatClampNeg)]) (rest := []) (index := 72) S X mkX7_blockInfo c1 rfl rfl (Nat.le_of_ble_eq_true rfl) rfl ⟨xtb 691 (by decide +kernel) (by decide +kernel), xtb 692 (by decide +kernel) (by decide +kernel), xtb 693 (by decide +kernel) (by decide +kernel)⟩ ⟨Nat.le_of_ble_eq_true rfl, Nat.le_of_ble_eq_true rfl⟩ hl.1 (Nat.le_of_ble_eq_true rfl) jl_435 hP hS (fun H locs hP hS => ?_)
  refine lv_aload_n hx hb jl_438 rfl (lv_at hl 2 rfl) ?_
  refine lv_aload_n hx hb jl_439 rfl (lv_at hl 0 rfl) ?_
  refine lv_iload_n hx hb jl_440 rfl (lv_at hl 3 rfl) ?_
  refine lv_iconst (v := 1) hx hb jl_441 (by decide) ?_
  refine lv_iadd hx hb jl_442 ?_
  refine va_sld hx hb hX hbl hbA hS h1 jl_443 ?_
  refine lv_aload_n hx hb jl_444 rfl (lv_at hl 0 rfl) ?_
  refine lv_iload_n hx hb jl_445 rfl (lv_at hl 3 rfl) ?_
  refine lv_iconst (v := 2) hx hb jl_446 (by decide) ?_
  refine lv_iadd hx hb jl_447 ?_
  refine va_sld hx hb hX hbl hbA hS h2 jl_448 ?_
  refine lcall (M2 := MX8_blockInfo) (a := 45) (As0 := [.int (xs (nI i + 1).toNatClampNeg), .int (xs (nI i + 2).toNatClampNeg)]) (rest := [.int v]) (index := 75) S X mkX8_blockInfo c2 rfl rfl (Nat.le_of_ble_eq_true rfl) rfl ⟨xtb 1192 (by decide +kernel) (by decide +kernel), xtb 1193 (by decide +kernel) (by decide +kernel), xtb 1194 (by decide +kernel) (by decide +kernel)⟩ ⟨Nat.le_of_ble_eq_true rfl, Nat.le_of_ble_eq_true rfl⟩ hl.1 (Nat.le_of_ble_eq_true rfl) jl_449 hP hS (fun H locs hP hS => ?_)
  exact lv_icmp_eq (tgt := 758) hx hb jl_452 (by decide) (fun _ => next w2 H locs ls hJ2 hP hS hl) (fun z => absurd rfl z)
set_option maxRecDepth 100000 in
theorem law_plan (C0 : lw_At p s m meth c b L xs) (X : lwX D cI cJ ad adV s) (hi : i + 3 ≤ L) (hL : L ≤ 1536) (next : lwGo D cI cJ ad p l e s m below meth c b i 758) : lwGo D cI cJ ad p l e s m below meth c b i 457 := by
  obtain ⟨hx, hb, hr, hml, hown, hts, hX, hbl, hlocks, hgv⟩ := id C0
  have hbA : ¬ (fun q : Nat => s.heap.size ≤ q) b := Nat.not_le.mpr hbl
  have S : CallFix p m c code 8 s #[Value.ref b] xTB R_law := ⟨hx, hb, hml, hown, fun w hw => hts w ((List.mem_filter.mp hw).1)⟩
  intro w H locs ls hJ hP hS hl
  have h1 : vp_in (nI i + 1) L := by rw [← nI_succ]; exact vp_in_nI (by omega) (by omega)
  have h2 : vp_in (nI i + 2) L := by rw [show (2 : Int32) = nI 2 from rfl, jI_add]; exact vp_in_nI (by omega) (by omega)
  obtain ⟨v, w1, w2, c1, c2, hJ2⟩ := p_plan w hJ
  refine lv_aload_n hx hb jl_457 rfl (lv_at hl 1 rfl) ?_
  refine lcall (M2 := MX7_planar) (a := 0) (As0 := []) (rest := []) (index := 76) S X mkX7_planar c1 rfl rfl (Nat.le_of_ble_eq_true rfl) rfl ⟨xtb 712 (by decide +kernel) (by decide +kernel), xtb 713 (by decide +kernel) (by decide +kernel), xtb 714 (by decide +kernel) (by decide +kernel)⟩ ⟨Nat.le_of_ble_eq_true rfl, Nat.le_of_ble_eq_true rfl⟩ hl.1 (Nat.le_of_ble_eq_true rfl) jl_458 hP hS (fun H locs hP hS => ?_)
  refine lv_aload_n hx hb jl_461 rfl (lv_at hl 2 rfl) ?_
  refine lcall (M2 := MX8_planar) (a := 45) (As0 := []) (rest := [.int v]) (index := 79) S X mkX8_planar c2 rfl rfl (Nat.le_of_ble_eq_true rfl) rfl ⟨xtb 1200 (by decide +kernel) (by decide +kernel), xtb 1201 (by decide +kernel) (by decide +kernel), xtb 1202 (by decide +kernel) (by decide +kernel)⟩ ⟨Nat.le_of_ble_eq_true rfl, Nat.le_of_ble_eq_true rfl⟩ hl.1 (Nat.le_of_ble_eq_true rfl) jl_462 hP hS (fun H locs hP hS => ?_)
  exact lv_icmp_eq (tgt := 758) hx hb jl_465 (by decide) (fun _ => next w2 H locs ls hJ2 hP hS hl) (fun z => absurd rfl z)
set_option maxRecDepth 100000 in
theorem law_next (C0 : lw_At p s m meth c b L xs) (X : lwX D cI cJ ad adV s) (hi : i + 3 ≤ L) (hL : L ≤ 1536) (next : lwGo D cI cJ ad p l e s m below meth c b i 758) : lwGo D cI cJ ad p l e s m below meth c b i 470 := by
  obtain ⟨hx, hb, hr, hml, hown, hts, hX, hbl, hlocks, hgv⟩ := id C0
  have hbA : ¬ (fun q : Nat => s.heap.size ≤ q) b := Nat.not_le.mpr hbl
  have S : CallFix p m c code 8 s #[Value.ref b] xTB R_law := ⟨hx, hb, hml, hown, fun w hw => hts w ((List.mem_filter.mp hw).1)⟩
  intro w H locs ls hJ hP hS hl
  have h1 : vp_in (nI i + 1) L := by rw [← nI_succ]; exact vp_in_nI (by omega) (by omega)
  have h2 : vp_in (nI i + 2) L := by rw [show (2 : Int32) = nI 2 from rfl, jI_add]; exact vp_in_nI (by omega) (by omega)
  obtain ⟨v, w1, w2, c1, c2, hJ2⟩ := p_next (x := xs (nI i + 1).toNatClampNeg) (y := xs (nI i + 2).toNatClampNeg) w hJ
  refine lv_aload_n hx hb jl_470 rfl (lv_at hl 1 rfl) ?_
  refine lv_aload_n hx hb jl_471 rfl (lv_at hl 0 rfl) ?_
  refine lv_iload_n hx hb jl_472 rfl (lv_at hl 3 rfl) ?_
  refine lv_iconst (v := 1) hx hb jl_473 (by decide) ?_
  refine lv_iadd hx hb jl_474 ?_
  refine va_sld hx hb hX hbl hbA hS h1 jl_475 ?_
  refine lv_aload_n hx hb jl_476 rfl (lv_at hl 0 rfl) ?_
  refine lv_iload_n hx hb jl_477 rfl (lv_at hl 3 rfl) ?_
  refine lv_iconst (v := 2) hx hb jl_478 (by decide) ?_
  refine lv_iadd hx hb jl_479 ?_
  refine va_sld hx hb hX hbl hbA hS h2 jl_480 ?_
  refine lcall (M2 := MX7_next) (a := 0) (As0 := [.int (xs (nI i + 1).toNatClampNeg), .int (xs (nI i + 2).toNatClampNeg)]) (rest := []) (index := 80) S X mkX7_next c1 rfl rfl (Nat.le_of_ble_eq_true rfl) rfl ⟨xtb 716 (by decide +kernel) (by decide +kernel), xtb 717 (by decide +kernel) (by decide +kernel), xtb 718 (by decide +kernel) (by decide +kernel)⟩ ⟨Nat.le_of_ble_eq_true rfl, Nat.le_of_ble_eq_true rfl⟩ hl.1 (Nat.le_of_ble_eq_true rfl) jl_481 hP hS (fun H locs hP hS => ?_)
  refine lv_aload_n hx hb jl_484 rfl (lv_at hl 2 rfl) ?_
  refine lv_aload_n hx hb jl_485 rfl (lv_at hl 0 rfl) ?_
  refine lv_iload_n hx hb jl_486 rfl (lv_at hl 3 rfl) ?_
  refine lv_iconst (v := 1) hx hb jl_487 (by decide) ?_
  refine lv_iadd hx hb jl_488 ?_
  refine va_sld hx hb hX hbl hbA hS h1 jl_489 ?_
  refine lv_aload_n hx hb jl_490 rfl (lv_at hl 0 rfl) ?_
  refine lv_iload_n hx hb jl_491 rfl (lv_at hl 3 rfl) ?_
  refine lv_iconst (v := 2) hx hb jl_492 (by decide) ?_
  refine lv_iadd hx hb jl_493 ?_
  refine va_sld hx hb hX hbl hbA hS h2 jl_494 ?_
  refine lcall (M2 := MX8_next) (a := 45) (As0 := [.int (xs (nI i + 1).toNatClampNeg), .int (xs (nI i + 2).toNatClampNeg)]) (rest := [.int v]) (index := 83) S X mkX8_next c2 rfl rfl (Nat.le_of_ble_eq_true rfl) rfl ⟨xtb 1204 (by decide +kernel) (by decide +kernel), xtb 1205 (by decide +kernel) (by decide +kernel), xtb 1206 (by decide +kernel) (by decide +kernel)⟩ ⟨Nat.le_of_ble_eq_true rfl, Nat.le_of_ble_eq_true rfl⟩ hl.1 (Nat.le_of_ble_eq_true rfl) jl_495 hP hS (fun H locs hP hS => ?_)
  exact lv_icmp_eq (tgt := 758) hx hb jl_498 (by decide) (fun _ => next w2 H locs ls hJ2 hP hS hl) (fun z => absurd rfl z)
set_option maxRecDepth 100000 in
theorem law_walks (C0 : lw_At p s m meth c b L xs) (X : lwX D cI cJ ad adV s) (hi : i + 3 ≤ L) (hL : L ≤ 1536) (next : lwGo D cI cJ ad p l e s m below meth c b i 758) : lwGo D cI cJ ad p l e s m below meth c b i 503 := by
  obtain ⟨hx, hb, hr, hml, hown, hts, hX, hbl, hlocks, hgv⟩ := id C0
  have hbA : ¬ (fun q : Nat => s.heap.size ≤ q) b := Nat.not_le.mpr hbl
  have S : CallFix p m c code 8 s #[Value.ref b] xTB R_law := ⟨hx, hb, hml, hown, fun w hw => hts w ((List.mem_filter.mp hw).1)⟩
  intro w H locs ls hJ hP hS hl
  have h1 : vp_in (nI i + 1) L := by rw [← nI_succ]; exact vp_in_nI (by omega) (by omega)
  have h2 : vp_in (nI i + 2) L := by rw [show (2 : Int32) = nI 2 from rfl, jI_add]; exact vp_in_nI (by omega) (by omega)
  obtain ⟨v, w1, w2, c1, c2, hJ2⟩ := p_walks w hJ
  refine lv_aload_n hx hb jl_503 rfl (lv_at hl 1 rfl) ?_
  refine lcall (M2 := MX7_walks) (a := 0) (As0 := []) (rest := []) (index := 84) S X mkX7_walks c1 rfl rfl (Nat.le_of_ble_eq_true rfl) rfl ⟨xtb 763 (by decide +kernel) (by decide +kernel), xtb 764 (by decide +kernel) (by decide +kernel), xtb 765 (by decide +kernel) (by decide +kernel)⟩ ⟨Nat.le_of_ble_eq_true rfl, Nat.le_of_ble_eq_true rfl⟩ hl.1 (Nat.le_of_ble_eq_true rfl) jl_504 hP hS (fun H locs hP hS => ?_)
  refine lv_aload_n hx hb jl_507 rfl (lv_at hl 2 rfl) ?_
  refine lcall (M2 := MX8_walks) (a := 45) (As0 := []) (rest := [.int v]) (index := 87) S X mkX8_walks c2 rfl rfl (Nat.le_of_ble_eq_true rfl) rfl ⟨xtb 1212 (by decide +kernel) (by decide +kernel), xtb 1213 (by decide +kernel) (by decide +kernel), xtb 1214 (by decide +kernel) (by decide +kernel)⟩ ⟨Nat.le_of_ble_eq_true rfl, Nat.le_of_ble_eq_true rfl⟩ hl.1 (Nat.le_of_ble_eq_true rfl) jl_508 hP hS (fun H locs hP hS => ?_)
  exact lv_icmp_eq (tgt := 758) hx hb jl_511 (by decide) (fun _ => next w2 H locs ls hJ2 hP hS hl) (fun z => absurd rfl z)
set_option maxRecDepth 100000 in
theorem law_wlen (C0 : lw_At p s m meth c b L xs) (X : lwX D cI cJ ad adV s) (hi : i + 3 ≤ L) (hL : L ≤ 1536) (next : lwGo D cI cJ ad p l e s m below meth c b i 758) : lwGo D cI cJ ad p l e s m below meth c b i 516 := by
  obtain ⟨hx, hb, hr, hml, hown, hts, hX, hbl, hlocks, hgv⟩ := id C0
  have hbA : ¬ (fun q : Nat => s.heap.size ≤ q) b := Nat.not_le.mpr hbl
  have S : CallFix p m c code 8 s #[Value.ref b] xTB R_law := ⟨hx, hb, hml, hown, fun w hw => hts w ((List.mem_filter.mp hw).1)⟩
  intro w H locs ls hJ hP hS hl
  have h1 : vp_in (nI i + 1) L := by rw [← nI_succ]; exact vp_in_nI (by omega) (by omega)
  have h2 : vp_in (nI i + 2) L := by rw [show (2 : Int32) = nI 2 from rfl, jI_add]; exact vp_in_nI (by omega) (by omega)
  obtain ⟨v, w1, w2, c1, c2, hJ2⟩ := p_wlen (x := xs (nI i + 1).toNatClampNeg) w hJ
  refine lv_aload_n hx hb jl_516 rfl (lv_at hl 1 rfl) ?_
  refine lv_aload_n hx hb jl_517 rfl (lv_at hl 0 rfl) ?_
  refine lv_iload_n hx hb jl_518 rfl (lv_at hl 3 rfl) ?_
  refine lv_iconst (v := 1) hx hb jl_519 (by decide) ?_
  refine lv_iadd hx hb jl_520 ?_
  refine va_sld hx hb hX hbl hbA hS h1 jl_521 ?_
  refine lcall (M2 := MX7_walkLength) (a := 0) (As0 := [.int (xs (nI i + 1).toNatClampNeg)]) (rest := []) (index := 88) S X mkX7_walkLength c1 rfl rfl (Nat.le_of_ble_eq_true rfl) rfl ⟨xtb 771 (by decide +kernel) (by decide +kernel), xtb 772 (by decide +kernel) (by decide +kernel), xtb 773 (by decide +kernel) (by decide +kernel)⟩ ⟨Nat.le_of_ble_eq_true rfl, Nat.le_of_ble_eq_true rfl⟩ hl.1 (Nat.le_of_ble_eq_true rfl) jl_522 hP hS (fun H locs hP hS => ?_)
  refine lv_aload_n hx hb jl_525 rfl (lv_at hl 2 rfl) ?_
  refine lv_aload_n hx hb jl_526 rfl (lv_at hl 0 rfl) ?_
  refine lv_iload_n hx hb jl_527 rfl (lv_at hl 3 rfl) ?_
  refine lv_iconst (v := 1) hx hb jl_528 (by decide) ?_
  refine lv_iadd hx hb jl_529 ?_
  refine va_sld hx hb hX hbl hbA hS h1 jl_530 ?_
  refine lcall (M2 := MX8_walkLength) (a := 45) (As0 := [.int (xs (nI i + 1).toNatClampNeg)]) (rest := [.int v]) (index := 91) S X mkX8_walkLength c2 rfl rfl (Nat.le_of_ble_eq_true rfl) rfl ⟨xtb 1220 (by decide +kernel) (by decide +kernel), xtb 1221 (by decide +kernel) (by decide +kernel), xtb 1222 (by decide +kernel) (by decide +kernel)⟩ ⟨Nat.le_of_ble_eq_true rfl, Nat.le_of_ble_eq_true rfl⟩ hl.1 (Nat.le_of_ble_eq_true rfl) jl_531 hP hS (fun H locs hP hS => ?_)
  exact lv_icmp_eq (tgt := 758) hx hb jl_534 (by decide) (fun _ => next w2 H locs ls hJ2 hP hS hl) (fun z => absurd rfl z)
set_option maxRecDepth 100000 in
theorem law_wvert (C0 : lw_At p s m meth c b L xs) (X : lwX D cI cJ ad adV s) (hi : i + 3 ≤ L) (hL : L ≤ 1536) (next : lwGo D cI cJ ad p l e s m below meth c b i 758) : lwGo D cI cJ ad p l e s m below meth c b i 539 := by
  obtain ⟨hx, hb, hr, hml, hown, hts, hX, hbl, hlocks, hgv⟩ := id C0
  have hbA : ¬ (fun q : Nat => s.heap.size ≤ q) b := Nat.not_le.mpr hbl
  have S : CallFix p m c code 8 s #[Value.ref b] xTB R_law := ⟨hx, hb, hml, hown, fun w hw => hts w ((List.mem_filter.mp hw).1)⟩
  intro w H locs ls hJ hP hS hl
  have h1 : vp_in (nI i + 1) L := by rw [← nI_succ]; exact vp_in_nI (by omega) (by omega)
  have h2 : vp_in (nI i + 2) L := by rw [show (2 : Int32) = nI 2 from rfl, jI_add]; exact vp_in_nI (by omega) (by omega)
  obtain ⟨v, w1, w2, c1, c2, hJ2⟩ := p_wvert (x := xs (nI i + 1).toNatClampNeg) (y := xs (nI i + 2).toNatClampNeg) w hJ
  refine lv_aload_n hx hb jl_539 rfl (lv_at hl 1 rfl) ?_
  refine lv_aload_n hx hb jl_540 rfl (lv_at hl 0 rfl) ?_
  refine lv_iload_n hx hb jl_541 rfl (lv_at hl 3 rfl) ?_
  refine lv_iconst (v := 1) hx hb jl_542 (by decide) ?_
  refine lv_iadd hx hb jl_543 ?_
  refine va_sld hx hb hX hbl hbA hS h1 jl_544 ?_
  refine lv_aload_n hx hb jl_545 rfl (lv_at hl 0 rfl) ?_
  refine lv_iload_n hx hb jl_546 rfl (lv_at hl 3 rfl) ?_
  refine lv_iconst (v := 2) hx hb jl_547 (by decide) ?_
  refine lv_iadd hx hb jl_548 ?_
  refine va_sld hx hb hX hbl hbA hS h2 jl_549 ?_
  refine lcall (M2 := MX7_walkVertex) (a := 0) (As0 := [.int (xs (nI i + 1).toNatClampNeg), .int (xs (nI i + 2).toNatClampNeg)]) (rest := []) (index := 92) S X mkX7_walkVertex c1 rfl rfl (Nat.le_of_ble_eq_true rfl) rfl ⟨xtb 783 (by decide +kernel) (by decide +kernel), xtb 784 (by decide +kernel) (by decide +kernel), xtb 785 (by decide +kernel) (by decide +kernel)⟩ ⟨Nat.le_of_ble_eq_true rfl, Nat.le_of_ble_eq_true rfl⟩ hl.1 (Nat.le_of_ble_eq_true rfl) jl_550 hP hS (fun H locs hP hS => ?_)
  refine lv_aload_n hx hb jl_553 rfl (lv_at hl 2 rfl) ?_
  refine lv_aload_n hx hb jl_554 rfl (lv_at hl 0 rfl) ?_
  refine lv_iload_n hx hb jl_555 rfl (lv_at hl 3 rfl) ?_
  refine lv_iconst (v := 1) hx hb jl_556 (by decide) ?_
  refine lv_iadd hx hb jl_557 ?_
  refine va_sld hx hb hX hbl hbA hS h1 jl_558 ?_
  refine lv_aload_n hx hb jl_559 rfl (lv_at hl 0 rfl) ?_
  refine lv_iload_n hx hb jl_560 rfl (lv_at hl 3 rfl) ?_
  refine lv_iconst (v := 2) hx hb jl_561 (by decide) ?_
  refine lv_iadd hx hb jl_562 ?_
  refine va_sld hx hb hX hbl hbA hS h2 jl_563 ?_
  refine lcall (M2 := MX8_walkVertex) (a := 45) (As0 := [.int (xs (nI i + 1).toNatClampNeg), .int (xs (nI i + 2).toNatClampNeg)]) (rest := [.int v]) (index := 95) S X mkX8_walkVertex c2 rfl rfl (Nat.le_of_ble_eq_true rfl) rfl ⟨xtb 1228 (by decide +kernel) (by decide +kernel), xtb 1229 (by decide +kernel) (by decide +kernel), xtb 1230 (by decide +kernel) (by decide +kernel)⟩ ⟨Nat.le_of_ble_eq_true rfl, Nat.le_of_ble_eq_true rfl⟩ hl.1 (Nat.le_of_ble_eq_true rfl) jl_564 hP hS (fun H locs hP hS => ?_)
  exact lv_icmp_eq (tgt := 758) hx hb jl_567 (by decide) (fun _ => next w2 H locs ls hJ2 hP hS hl) (fun z => absurd rfl z)
set_option maxRecDepth 100000 in
theorem law_wof (C0 : lw_At p s m meth c b L xs) (X : lwX D cI cJ ad adV s) (hi : i + 3 ≤ L) (hL : L ≤ 1536) (next : lwGo D cI cJ ad p l e s m below meth c b i 758) : lwGo D cI cJ ad p l e s m below meth c b i 572 := by
  obtain ⟨hx, hb, hr, hml, hown, hts, hX, hbl, hlocks, hgv⟩ := id C0
  have hbA : ¬ (fun q : Nat => s.heap.size ≤ q) b := Nat.not_le.mpr hbl
  have S : CallFix p m c code 8 s #[Value.ref b] xTB R_law := ⟨hx, hb, hml, hown, fun w hw => hts w ((List.mem_filter.mp hw).1)⟩
  intro w H locs ls hJ hP hS hl
  have h1 : vp_in (nI i + 1) L := by rw [← nI_succ]; exact vp_in_nI (by omega) (by omega)
  have h2 : vp_in (nI i + 2) L := by rw [show (2 : Int32) = nI 2 from rfl, jI_add]; exact vp_in_nI (by omega) (by omega)
  obtain ⟨v, w1, w2, c1, c2, hJ2⟩ := p_wof (x := xs (nI i + 1).toNatClampNeg) (y := xs (nI i + 2).toNatClampNeg) w hJ
  refine lv_aload_n hx hb jl_572 rfl (lv_at hl 1 rfl) ?_
  refine lv_aload_n hx hb jl_573 rfl (lv_at hl 0 rfl) ?_
  refine lv_iload_n hx hb jl_574 rfl (lv_at hl 3 rfl) ?_
  refine lv_iconst (v := 1) hx hb jl_575 (by decide) ?_
  refine lv_iadd hx hb jl_576 ?_
  refine va_sld hx hb hX hbl hbA hS h1 jl_577 ?_
  refine lv_aload_n hx hb jl_578 rfl (lv_at hl 0 rfl) ?_
  refine lv_iload_n hx hb jl_579 rfl (lv_at hl 3 rfl) ?_
  refine lv_iconst (v := 2) hx hb jl_580 (by decide) ?_
  refine lv_iadd hx hb jl_581 ?_
  refine va_sld hx hb hX hbl hbA hS h2 jl_582 ?_
  refine lcall (M2 := MX7_walkOf) (a := 0) (As0 := [.int (xs (nI i + 1).toNatClampNeg), .int (xs (nI i + 2).toNatClampNeg)]) (rest := []) (index := 96) S X mkX7_walkOf c1 rfl rfl (Nat.le_of_ble_eq_true rfl) rfl ⟨xtb 791 (by decide +kernel) (by decide +kernel), xtb 792 (by decide +kernel) (by decide +kernel), xtb 793 (by decide +kernel) (by decide +kernel)⟩ ⟨Nat.le_of_ble_eq_true rfl, Nat.le_of_ble_eq_true rfl⟩ hl.1 (Nat.le_of_ble_eq_true rfl) jl_583 hP hS (fun H locs hP hS => ?_)
  refine lv_aload_n hx hb jl_586 rfl (lv_at hl 2 rfl) ?_
  refine lv_aload_n hx hb jl_587 rfl (lv_at hl 0 rfl) ?_
  refine lv_iload_n hx hb jl_588 rfl (lv_at hl 3 rfl) ?_
  refine lv_iconst (v := 1) hx hb jl_589 (by decide) ?_
  refine lv_iadd hx hb jl_590 ?_
  refine va_sld hx hb hX hbl hbA hS h1 jl_591 ?_
  refine lv_aload_n hx hb jl_592 rfl (lv_at hl 0 rfl) ?_
  refine lv_iload_n hx hb jl_593 rfl (lv_at hl 3 rfl) ?_
  refine lv_iconst (v := 2) hx hb jl_594 (by decide) ?_
  refine lv_iadd hx hb jl_595 ?_
  refine va_sld hx hb hX hbl hbA hS h2 jl_596 ?_
  refine lcall (M2 := MX8_walkOf) (a := 45) (As0 := [.int (xs (nI i + 1).toNatClampNeg), .int (xs (nI i + 2).toNatClampNeg)]) (rest := [.int v]) (index := 99) S X mkX8_walkOf c2 rfl rfl (Nat.le_of_ble_eq_true rfl) rfl ⟨xtb 1232 (by decide +kernel) (by decide +kernel), xtb 1233 (by decide +kernel) (by decide +kernel), xtb 1234 (by decide +kernel) (by decide +kernel)⟩ ⟨Nat.le_of_ble_eq_true rfl, Nat.le_of_ble_eq_true rfl⟩ hl.1 (Nat.le_of_ble_eq_true rfl) jl_597 hP hS (fun H locs hP hS => ?_)
  exact lv_icmp_eq (tgt := 758) hx hb jl_600 (by decide) (fun _ => next w2 H locs ls hJ2 hP hS hl) (fun z => absurd rfl z)
set_option maxRecDepth 100000 in
theorem law_forb (C0 : lw_At p s m meth c b L xs) (X : lwX D cI cJ ad adV s) (hi : i + 3 ≤ L) (hL : L ≤ 1536) (next : lwGo D cI cJ ad p l e s m below meth c b i 758) : lwGo D cI cJ ad p l e s m below meth c b i 605 := by
  obtain ⟨hx, hb, hr, hml, hown, hts, hX, hbl, hlocks, hgv⟩ := id C0
  have hbA : ¬ (fun q : Nat => s.heap.size ≤ q) b := Nat.not_le.mpr hbl
  have S : CallFix p m c code 8 s #[Value.ref b] xTB R_law := ⟨hx, hb, hml, hown, fun w hw => hts w ((List.mem_filter.mp hw).1)⟩
  intro w H locs ls hJ hP hS hl
  have h1 : vp_in (nI i + 1) L := by rw [← nI_succ]; exact vp_in_nI (by omega) (by omega)
  have h2 : vp_in (nI i + 2) L := by rw [show (2 : Int32) = nI 2 from rfl, jI_add]; exact vp_in_nI (by omega) (by omega)
  obtain ⟨v, w1, w2, c1, c2, hJ2⟩ := p_forb (x := xs (nI i + 1).toNatClampNeg) w hJ
  refine lv_aload_n hx hb jl_605 rfl (lv_at hl 1 rfl) ?_
  refine lv_aload_n hx hb jl_606 rfl (lv_at hl 0 rfl) ?_
  refine lv_iload_n hx hb jl_607 rfl (lv_at hl 3 rfl) ?_
  refine lv_iconst (v := 1) hx hb jl_608 (by decide) ?_
  refine lv_iadd hx hb jl_609 ?_
  refine va_sld hx hb hX hbl hbA hS h1 jl_610 ?_
  refine lcall (M2 := MX7_forbidden) (a := 0) (As0 := [.int (xs (nI i + 1).toNatClampNeg)]) (rest := []) (index := 100) S X mkX7_forbidden c1 rfl rfl (Nat.le_of_ble_eq_true rfl) rfl ⟨xtb 796 (by decide +kernel) (by decide +kernel), xtb 797 (by decide +kernel) (by decide +kernel), xtb 798 (by decide +kernel) (by decide +kernel)⟩ ⟨Nat.le_of_ble_eq_true rfl, Nat.le_of_ble_eq_true rfl⟩ hl.1 (Nat.le_of_ble_eq_true rfl) jl_611 hP hS (fun H locs hP hS => ?_)
  refine lv_aload_n hx hb jl_614 rfl (lv_at hl 2 rfl) ?_
  refine lv_aload_n hx hb jl_615 rfl (lv_at hl 0 rfl) ?_
  refine lv_iload_n hx hb jl_616 rfl (lv_at hl 3 rfl) ?_
  refine lv_iconst (v := 1) hx hb jl_617 (by decide) ?_
  refine lv_iadd hx hb jl_618 ?_
  refine va_sld hx hb hX hbl hbA hS h1 jl_619 ?_
  refine lcall (M2 := MX8_forbidden) (a := 45) (As0 := [.int (xs (nI i + 1).toNatClampNeg)]) (rest := [.int v]) (index := 103) S X mkX8_forbidden c2 rfl rfl (Nat.le_of_ble_eq_true rfl) rfl ⟨xtb 1236 (by decide +kernel) (by decide +kernel), xtb 1237 (by decide +kernel) (by decide +kernel), xtb 1238 (by decide +kernel) (by decide +kernel)⟩ ⟨Nat.le_of_ble_eq_true rfl, Nat.le_of_ble_eq_true rfl⟩ hl.1 (Nat.le_of_ble_eq_true rfl) jl_620 hP hS (fun H locs hP hS => ?_)
  exact lv_icmp_eq (tgt := 758) hx hb jl_623 (by decide) (fun _ => next w2 H locs ls hJ2 hP hS hl) (fun z => absurd rfl z)
set_option maxRecDepth 100000 in
theorem law_inf (C0 : lw_At p s m meth c b L xs) (X : lwX D cI cJ ad adV s) (hi : i + 3 ≤ L) (hL : L ≤ 1536) (next : lwGo D cI cJ ad p l e s m below meth c b i 758) : lwGo D cI cJ ad p l e s m below meth c b i 628 := by
  obtain ⟨hx, hb, hr, hml, hown, hts, hX, hbl, hlocks, hgv⟩ := id C0
  have hbA : ¬ (fun q : Nat => s.heap.size ≤ q) b := Nat.not_le.mpr hbl
  have S : CallFix p m c code 8 s #[Value.ref b] xTB R_law := ⟨hx, hb, hml, hown, fun w hw => hts w ((List.mem_filter.mp hw).1)⟩
  intro w H locs ls hJ hP hS hl
  have h1 : vp_in (nI i + 1) L := by rw [← nI_succ]; exact vp_in_nI (by omega) (by omega)
  have h2 : vp_in (nI i + 2) L := by rw [show (2 : Int32) = nI 2 from rfl, jI_add]; exact vp_in_nI (by omega) (by omega)
  obtain ⟨v, w1, w2, c1, c2, hJ2⟩ := p_inf (x := xs (nI i + 1).toNatClampNeg) (y := xs (nI i + 2).toNatClampNeg) w hJ
  refine lv_aload_n hx hb jl_628 rfl (lv_at hl 1 rfl) ?_
  refine lv_aload_n hx hb jl_629 rfl (lv_at hl 0 rfl) ?_
  refine lv_iload_n hx hb jl_630 rfl (lv_at hl 3 rfl) ?_
  refine lv_iconst (v := 1) hx hb jl_631 (by decide) ?_
  refine lv_iadd hx hb jl_632 ?_
  refine va_sld hx hb hX hbl hbA hS h1 jl_633 ?_
  refine lv_aload_n hx hb jl_634 rfl (lv_at hl 0 rfl) ?_
  refine lv_iload_n hx hb jl_635 rfl (lv_at hl 3 rfl) ?_
  refine lv_iconst (v := 2) hx hb jl_636 (by decide) ?_
  refine lv_iadd hx hb jl_637 ?_
  refine va_sld hx hb hX hbl hbA hS h2 jl_638 ?_
  refine lcall (M2 := MX7_inForbidden) (a := 0) (As0 := [.int (xs (nI i + 1).toNatClampNeg), .int (xs (nI i + 2).toNatClampNeg)]) (rest := []) (index := 104) S X mkX7_inForbidden c1 rfl rfl (Nat.le_of_ble_eq_true rfl) rfl ⟨xtb 822 (by decide +kernel) (by decide +kernel), xtb 823 (by decide +kernel) (by decide +kernel), xtb 824 (by decide +kernel) (by decide +kernel)⟩ ⟨Nat.le_of_ble_eq_true rfl, Nat.le_of_ble_eq_true rfl⟩ hl.1 (Nat.le_of_ble_eq_true rfl) jl_639 hP hS (fun H locs hP hS => ?_)
  refine lv_aload_n hx hb jl_642 rfl (lv_at hl 2 rfl) ?_
  refine lv_aload_n hx hb jl_643 rfl (lv_at hl 0 rfl) ?_
  refine lv_iload_n hx hb jl_644 rfl (lv_at hl 3 rfl) ?_
  refine lv_iconst (v := 1) hx hb jl_645 (by decide) ?_
  refine lv_iadd hx hb jl_646 ?_
  refine va_sld hx hb hX hbl hbA hS h1 jl_647 ?_
  refine lv_aload_n hx hb jl_648 rfl (lv_at hl 0 rfl) ?_
  refine lv_iload_n hx hb jl_649 rfl (lv_at hl 3 rfl) ?_
  refine lv_iconst (v := 2) hx hb jl_650 (by decide) ?_
  refine lv_iadd hx hb jl_651 ?_
  refine va_sld hx hb hX hbl hbA hS h2 jl_652 ?_
  refine lcall (M2 := MX8_inForbidden) (a := 45) (As0 := [.int (xs (nI i + 1).toNatClampNeg), .int (xs (nI i + 2).toNatClampNeg)]) (rest := [.int v]) (index := 107) S X mkX8_inForbidden c2 rfl rfl (Nat.le_of_ble_eq_true rfl) rfl ⟨xtb 1244 (by decide +kernel) (by decide +kernel), xtb 1245 (by decide +kernel) (by decide +kernel), xtb 1246 (by decide +kernel) (by decide +kernel)⟩ ⟨Nat.le_of_ble_eq_true rfl, Nat.le_of_ble_eq_true rfl⟩ hl.1 (Nat.le_of_ble_eq_true rfl) jl_653 hP hS (fun H locs hP hS => ?_)
  exact lv_icmp_eq (tgt := 758) hx hb jl_656 (by decide) (fun _ => next w2 H locs ls hJ2 hP hS hl) (fun z => absurd rfl z)
set_option maxRecDepth 100000 in
theorem law_iff (C0 : lw_At p s m meth c b L xs) (X : lwX D cI cJ ad adV s) (hi : i + 3 ≤ L) (hL : L ≤ 1536) (next : lwGo D cI cJ ad p l e s m below meth c b i 758) : lwGo D cI cJ ad p l e s m below meth c b i 661 := by
  obtain ⟨hx, hb, hr, hml, hown, hts, hX, hbl, hlocks, hgv⟩ := id C0
  have hbA : ¬ (fun q : Nat => s.heap.size ≤ q) b := Nat.not_le.mpr hbl
  have S : CallFix p m c code 8 s #[Value.ref b] xTB R_law := ⟨hx, hb, hml, hown, fun w hw => hts w ((List.mem_filter.mp hw).1)⟩
  intro w H locs ls hJ hP hS hl
  have h1 : vp_in (nI i + 1) L := by rw [← nI_succ]; exact vp_in_nI (by omega) (by omega)
  have h2 : vp_in (nI i + 2) L := by rw [show (2 : Int32) = nI 2 from rfl, jI_add]; exact vp_in_nI (by omega) (by omega)
  obtain ⟨v, w1, w2, c1, c2, hJ2⟩ := p_iff (x := xs (nI i + 1).toNatClampNeg) (y := xs (nI i + 2).toNatClampNeg) w hJ
  refine lv_aload_n hx hb jl_661 rfl (lv_at hl 1 rfl) ?_
  refine lv_aload_n hx hb jl_662 rfl (lv_at hl 0 rfl) ?_
  refine lv_iload_n hx hb jl_663 rfl (lv_at hl 3 rfl) ?_
  refine lv_iconst (v := 1) hx hb jl_664 (by decide) ?_
  refine lv_iadd hx hb jl_665 ?_
  refine va_sld hx hb hX hbl hbA hS h1 jl_666 ?_
  refine lv_aload_n hx hb jl_667 rfl (lv_at hl 0 rfl) ?_
  refine lv_iload_n hx hb jl_668 rfl (lv_at hl 3 rfl) ?_
  refine lv_iconst (v := 2) hx hb jl_669 (by decide) ?_
  refine lv_iadd hx hb jl_670 ?_
  refine va_sld hx hb hX hbl hbA hS h2 jl_671 ?_
  refine lcall (M2 := MX7_ifFlipped) (a := 0) (As0 := [.int (xs (nI i + 1).toNatClampNeg), .int (xs (nI i + 2).toNatClampNeg)]) (rest := []) (index := 108) S X mkX7_ifFlipped c1 rfl rfl (Nat.le_of_ble_eq_true rfl) rfl ⟨xtb 827 (by decide +kernel) (by decide +kernel), xtb 828 (by decide +kernel) (by decide +kernel), xtb 829 (by decide +kernel) (by decide +kernel)⟩ ⟨Nat.le_of_ble_eq_true rfl, Nat.le_of_ble_eq_true rfl⟩ hl.1 (Nat.le_of_ble_eq_true rfl) jl_672 hP hS (fun H locs hP hS => ?_)
  refine lv_aload_n hx hb jl_675 rfl (lv_at hl 2 rfl) ?_
  refine lv_aload_n hx hb jl_676 rfl (lv_at hl 0 rfl) ?_
  refine lv_iload_n hx hb jl_677 rfl (lv_at hl 3 rfl) ?_
  refine lv_iconst (v := 1) hx hb jl_678 (by decide) ?_
  refine lv_iadd hx hb jl_679 ?_
  refine va_sld hx hb hX hbl hbA hS h1 jl_680 ?_
  refine lv_aload_n hx hb jl_681 rfl (lv_at hl 0 rfl) ?_
  refine lv_iload_n hx hb jl_682 rfl (lv_at hl 3 rfl) ?_
  refine lv_iconst (v := 2) hx hb jl_683 (by decide) ?_
  refine lv_iadd hx hb jl_684 ?_
  refine va_sld hx hb hX hbl hbA hS h2 jl_685 ?_
  refine lcall (M2 := MX8_ifFlipped) (a := 45) (As0 := [.int (xs (nI i + 1).toNatClampNeg), .int (xs (nI i + 2).toNatClampNeg)]) (rest := [.int v]) (index := 111) S X mkX8_ifFlipped c2 rfl rfl (Nat.le_of_ble_eq_true rfl) rfl ⟨xtb 1248 (by decide +kernel) (by decide +kernel), xtb 1249 (by decide +kernel) (by decide +kernel), xtb 1250 (by decide +kernel) (by decide +kernel)⟩ ⟨Nat.le_of_ble_eq_true rfl, Nat.le_of_ble_eq_true rfl⟩ hl.1 (Nat.le_of_ble_eq_true rfl) jl_686 hP hS (fun H locs hP hS => ?_)
  exact lv_icmp_eq (tgt := 758) hx hb jl_689 (by decide) (fun _ => next w2 H locs ls hJ2 hP hS hl) (fun z => absurd rfl z)
set_option maxRecDepth 100000 in
theorem law_join (C0 : lw_At p s m meth c b L xs) (X : lwX D cI cJ ad adV s) (hi : i + 3 ≤ L) (hL : L ≤ 1536) (next : lwGo D cI cJ ad p l e s m below meth c b i 758) : lwGo D cI cJ ad p l e s m below meth c b i 694 := by
  obtain ⟨hx, hb, hr, hml, hown, hts, hX, hbl, hlocks, hgv⟩ := id C0
  have hbA : ¬ (fun q : Nat => s.heap.size ≤ q) b := Nat.not_le.mpr hbl
  have S : CallFix p m c code 8 s #[Value.ref b] xTB R_law := ⟨hx, hb, hml, hown, fun w hw => hts w ((List.mem_filter.mp hw).1)⟩
  intro w H locs ls hJ hP hS hl
  have h1 : vp_in (nI i + 1) L := by rw [← nI_succ]; exact vp_in_nI (by omega) (by omega)
  have h2 : vp_in (nI i + 2) L := by rw [show (2 : Int32) = nI 2 from rfl, jI_add]; exact vp_in_nI (by omega) (by omega)
  obtain ⟨v, w1, w2, c1, c2, hJ2⟩ := p_join (x := xs (nI i + 1).toNatClampNeg) w hJ
  refine lv_aload_n hx hb jl_694 rfl (lv_at hl 1 rfl) ?_
  refine lv_aload_n hx hb jl_695 rfl (lv_at hl 0 rfl) ?_
  refine lv_iload_n hx hb jl_696 rfl (lv_at hl 3 rfl) ?_
  refine lv_iconst (v := 1) hx hb jl_697 (by decide) ?_
  refine lv_iadd hx hb jl_698 ?_
  refine va_sld hx hb hX hbl hbA hS h1 jl_699 ?_
  refine lcall (M2 := MX7_joinable) (a := 0) (As0 := [.int (xs (nI i + 1).toNatClampNeg)]) (rest := []) (index := 112) S X mkX7_joinable c1 rfl rfl (Nat.le_of_ble_eq_true rfl) rfl ⟨xtb 831 (by decide +kernel) (by decide +kernel), xtb 832 (by decide +kernel) (by decide +kernel), xtb 833 (by decide +kernel) (by decide +kernel)⟩ ⟨Nat.le_of_ble_eq_true rfl, Nat.le_of_ble_eq_true rfl⟩ hl.1 (Nat.le_of_ble_eq_true rfl) jl_700 hP hS (fun H locs hP hS => ?_)
  refine lv_aload_n hx hb jl_703 rfl (lv_at hl 2 rfl) ?_
  refine lv_aload_n hx hb jl_704 rfl (lv_at hl 0 rfl) ?_
  refine lv_iload_n hx hb jl_705 rfl (lv_at hl 3 rfl) ?_
  refine lv_iconst (v := 1) hx hb jl_706 (by decide) ?_
  refine lv_iadd hx hb jl_707 ?_
  refine va_sld hx hb hX hbl hbA hS h1 jl_708 ?_
  refine lcall (M2 := MX8_joinable) (a := 45) (As0 := [.int (xs (nI i + 1).toNatClampNeg)]) (rest := [.int v]) (index := 115) S X mkX8_joinable c2 rfl rfl (Nat.le_of_ble_eq_true rfl) rfl ⟨xtb 1252 (by decide +kernel) (by decide +kernel), xtb 1253 (by decide +kernel) (by decide +kernel), xtb 1254 (by decide +kernel) (by decide +kernel)⟩ ⟨Nat.le_of_ble_eq_true rfl, Nat.le_of_ble_eq_true rfl⟩ hl.1 (Nat.le_of_ble_eq_true rfl) jl_709 hP hS (fun H locs hP hS => ?_)
  exact lv_icmp_eq (tgt := 758) hx hb jl_712 (by decide) (fun _ => next w2 H locs ls hJ2 hP hS hl) (fun z => absurd rfl z)
set_option maxRecDepth 100000 in
theorem law_dens (C0 : lw_At p s m meth c b L xs) (X : lwX D cI cJ ad adV s) (next : lwGo D cI cJ ad p l e s m below meth c b i 758) : lwGo D cI cJ ad p l e s m below meth c b i 717 := by
  obtain ⟨hx, hb, hr, hml, hown, hts, hX, hbl, hlocks, hgv⟩ := id C0
  have hbA : ¬ (fun q : Nat => s.heap.size ≤ q) b := Nat.not_le.mpr hbl
  have S : CallFix p m c code 8 s #[Value.ref b] xTB R_law := ⟨hx, hb, hml, hown, fun w hw => hts w ((List.mem_filter.mp hw).1)⟩
  intro w H locs ls hJ hP hS hl
  obtain ⟨d, hd, c1, c2⟩ := p_dens2 hJ
  refine lv_aload_n hx hb jl_717 rfl (lv_at hl 1 rfl) ?_
  refine lcall (M2 := MX7_density) (a := 0) (As0 := []) (rest := []) (index := 116) S X mkX7_density c1 rfl rfl (Nat.le_of_ble_eq_true rfl) rfl ⟨xtb 836 (by decide +kernel) (by decide +kernel), xtb 837 (by decide +kernel) (by decide +kernel), xtb 838 (by decide +kernel) (by decide +kernel)⟩ ⟨Nat.le_of_ble_eq_true rfl, Nat.le_of_ble_eq_true rfl⟩ hl.1 (Nat.le_of_ble_eq_true rfl) jl_718 hP hS (fun H locs hP hS => ?_)
  refine lv_dstore (lv' := (4, .double d) :: lwL b ad i) hx hb jl_721 hl (by decide) rfl (fun ls hl => ?_)
  refine lv_aload_n hx hb jl_723 rfl (lv_at hl 3 rfl) ?_
  refine lcall (M2 := MX8_density) (a := 45) (As0 := []) (rest := []) (index := 120) S X mkX8_density c2 rfl rfl (Nat.le_of_ble_eq_true rfl) rfl ⟨xtb 1256 (by decide +kernel) (by decide +kernel), xtb 1257 (by decide +kernel) (by decide +kernel), xtb 1258 (by decide +kernel) (by decide +kernel)⟩ ⟨Nat.le_of_ble_eq_true rfl, Nat.le_of_ble_eq_true rfl⟩ hl.1 (Nat.le_of_ble_eq_true rfl) jl_724 hP hS (fun H locs hP hS => ?_)
  refine lv_dstore (lv' := (6, .double d) :: (4, .double d) :: lwL b ad i) hx hb jl_727 hl (by decide) rfl (fun ls hl => ?_)
  refine lv_dload hx hb jl_729 (lv_at hl 1 rfl) ?_
  refine lv_dload hx hb jl_731 (lv_at hl 0 rfl) ?_
  refine lv_dcmp hx hb jl_733 ?_
  rw [hd]
  refine lv_if_eq (tgt := 755) hx hb jl_734 (by decide) (fun _ => ?_) (fun z => absurd rfl z)
  refine lv_goto (tgt := 758) hx hb jl_755 (by decide) ?_
  exact next w H locs ls hJ hP hS (lv_sub hl [2, 3, 4, 5] rfl)
end
