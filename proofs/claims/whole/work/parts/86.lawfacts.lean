theorem d_L_0 : decode code 0 = .ok (.new 7, 3) := by decide +kernel
theorem d_L_3 : decode code 3 = .ok (.dup, 1) := by decide +kernel
theorem d_L_4 : decode code 4 = .ok (.aload_n 0, 1) := by decide +kernel
theorem d_L_5 : decode code 5 = .ok (.iconst 0, 1) := by decide +kernel
theorem d_L_6 : decode code 6 = .ok (.invokestatic 9, 3) := by decide +kernel
theorem d_L_9 : decode code 9 = .ok (.invokespecial 15, 3) := by decide +kernel
theorem d_L_12 : decode code 12 = .ok (.astore_n 1, 1) := by decide +kernel
theorem d_L_13 : decode code 13 = .ok (.new 18, 3) := by decide +kernel
theorem d_L_16 : decode code 16 = .ok (.dup, 1) := by decide +kernel
theorem d_L_17 : decode code 17 = .ok (.aload_n 0, 1) := by decide +kernel
theorem d_L_18 : decode code 18 = .ok (.iconst 0, 1) := by decide +kernel
theorem d_L_19 : decode code 19 = .ok (.invokestatic 9, 3) := by decide +kernel
theorem d_L_22 : decode code 22 = .ok (.invokespecial 20, 3) := by decide +kernel
theorem d_L_25 : decode code 25 = .ok (.astore_n 2, 1) := by decide +kernel
theorem d_L_26 : decode code 26 = .ok (.iconst 1, 1) := by decide +kernel
theorem d_L_27 : decode code 27 = .ok (.istore_n 3, 1) := by decide +kernel
theorem d_L_28 : decode code 28 = .ok (.iload_n 3, 1) := by decide +kernel
theorem d_L_29 : decode code 29 = .ok (.aload_n 0, 1) := by decide +kernel
theorem d_L_30 : decode code 30 = .ok (.arraylength, 1) := by decide +kernel
theorem d_L_31 : decode code 31 = .ok (.iconst 4, 1) := by decide +kernel
theorem d_L_32 : decode code 32 = .ok (.isub, 1) := by decide +kernel
theorem d_L_33 : decode code 33 = .ok (.if_icmp .gt 740, 3) := by decide +kernel
theorem d_L_36 : decode code 36 = .ok (.aload_n 0, 1) := by decide +kernel
theorem d_L_37 : decode code 37 = .ok (.iload_n 3, 1) := by decide +kernel
theorem d_L_38 : decode code 38 = .ok (.iaload, 1) := by decide +kernel
theorem d_L_39 : decode code 39 = .ok (.bipush 31, 2) := by decide +kernel
theorem d_L_41 : decode code 41 = .ok (.iand, 1) := by decide +kernel
theorem d_L_42 : decode code 42 = .ok (.tableswitch 725 0 22 #[106, 129, 162, 205, 238, 281, 304, 317, 340, 363, 386, 419, 442, 455, 478, 501, 524, 557, 590, 623, 646, 679, 702], 106) := by decide +kernel
theorem d_L_148 : decode code 148 = .ok (.aload_n 1, 1) := by decide +kernel
theorem d_L_149 : decode code 149 = .ok (.aload_n 0, 1) := by decide +kernel
theorem d_L_150 : decode code 150 = .ok (.iload_n 3, 1) := by decide +kernel
theorem d_L_151 : decode code 151 = .ok (.iconst 1, 1) := by decide +kernel
theorem d_L_152 : decode code 152 = .ok (.iadd, 1) := by decide +kernel
theorem d_L_153 : decode code 153 = .ok (.iaload, 1) := by decide +kernel
theorem d_L_154 : decode code 154 = .ok (.invokevirtual 21, 3) := by decide +kernel
theorem d_L_157 : decode code 157 = .ok (.aload_n 2, 1) := by decide +kernel
theorem d_L_158 : decode code 158 = .ok (.aload_n 0, 1) := by decide +kernel
theorem d_L_159 : decode code 159 = .ok (.iload_n 3, 1) := by decide +kernel
theorem d_L_160 : decode code 160 = .ok (.iconst 1, 1) := by decide +kernel
theorem d_L_161 : decode code 161 = .ok (.iadd, 1) := by decide +kernel
theorem d_L_162 : decode code 162 = .ok (.iaload, 1) := by decide +kernel
theorem d_L_163 : decode code 163 = .ok (.invokevirtual 25, 3) := by decide +kernel
theorem d_L_166 : decode code 166 = .ok (.if_icmp .eq 601, 3) := by decide +kernel
theorem d_L_169 : decode code 169 = .ok (.iconst 0, 1) := by decide +kernel
theorem d_L_170 : decode code 170 = .ok (.ireturn, 1) := by decide +kernel
theorem d_L_171 : decode code 171 = .ok (.aload_n 1, 1) := by decide +kernel
theorem d_L_172 : decode code 172 = .ok (.aload_n 0, 1) := by decide +kernel
theorem d_L_173 : decode code 173 = .ok (.iload_n 3, 1) := by decide +kernel
theorem d_L_174 : decode code 174 = .ok (.iconst 1, 1) := by decide +kernel
theorem d_L_175 : decode code 175 = .ok (.iadd, 1) := by decide +kernel
theorem d_L_176 : decode code 176 = .ok (.iaload, 1) := by decide +kernel
theorem d_L_177 : decode code 177 = .ok (.aload_n 0, 1) := by decide +kernel
theorem d_L_178 : decode code 178 = .ok (.iload_n 3, 1) := by decide +kernel
theorem d_L_179 : decode code 179 = .ok (.iconst 2, 1) := by decide +kernel
theorem d_L_180 : decode code 180 = .ok (.iadd, 1) := by decide +kernel
theorem d_L_181 : decode code 181 = .ok (.iaload, 1) := by decide +kernel
theorem d_L_182 : decode code 182 = .ok (.invokevirtual 26, 3) := by decide +kernel
theorem d_L_185 : decode code 185 = .ok (.aload_n 2, 1) := by decide +kernel
theorem d_L_186 : decode code 186 = .ok (.aload_n 0, 1) := by decide +kernel
theorem d_L_187 : decode code 187 = .ok (.iload_n 3, 1) := by decide +kernel
theorem d_L_188 : decode code 188 = .ok (.iconst 1, 1) := by decide +kernel
theorem d_L_189 : decode code 189 = .ok (.iadd, 1) := by decide +kernel
theorem d_L_190 : decode code 190 = .ok (.iaload, 1) := by decide +kernel
theorem d_L_191 : decode code 191 = .ok (.aload_n 0, 1) := by decide +kernel
theorem d_L_192 : decode code 192 = .ok (.iload_n 3, 1) := by decide +kernel
theorem d_L_193 : decode code 193 = .ok (.iconst 2, 1) := by decide +kernel
theorem d_L_194 : decode code 194 = .ok (.iadd, 1) := by decide +kernel
theorem d_L_195 : decode code 195 = .ok (.iaload, 1) := by decide +kernel
theorem d_L_196 : decode code 196 = .ok (.invokevirtual 30, 3) := by decide +kernel
theorem d_L_199 : decode code 199 = .ok (.if_icmp .eq 568, 3) := by decide +kernel
theorem d_L_202 : decode code 202 = .ok (.iconst 0, 1) := by decide +kernel
theorem d_L_203 : decode code 203 = .ok (.ireturn, 1) := by decide +kernel
theorem d_L_204 : decode code 204 = .ok (.aload_n 1, 1) := by decide +kernel
theorem d_L_205 : decode code 205 = .ok (.aload_n 0, 1) := by decide +kernel
theorem d_L_206 : decode code 206 = .ok (.iload_n 3, 1) := by decide +kernel
theorem d_L_207 : decode code 207 = .ok (.iconst 1, 1) := by decide +kernel
theorem d_L_208 : decode code 208 = .ok (.iadd, 1) := by decide +kernel
theorem d_L_209 : decode code 209 = .ok (.iaload, 1) := by decide +kernel
theorem d_L_210 : decode code 210 = .ok (.aload_n 0, 1) := by decide +kernel
theorem d_L_211 : decode code 211 = .ok (.iload_n 3, 1) := by decide +kernel
theorem d_L_212 : decode code 212 = .ok (.iconst 2, 1) := by decide +kernel
theorem d_L_213 : decode code 213 = .ok (.iadd, 1) := by decide +kernel
theorem d_L_214 : decode code 214 = .ok (.iaload, 1) := by decide +kernel
theorem d_L_215 : decode code 215 = .ok (.aload_n 0, 1) := by decide +kernel
theorem d_L_216 : decode code 216 = .ok (.iload_n 3, 1) := by decide +kernel
theorem d_L_217 : decode code 217 = .ok (.iconst 3, 1) := by decide +kernel
theorem d_L_218 : decode code 218 = .ok (.iadd, 1) := by decide +kernel
theorem d_L_219 : decode code 219 = .ok (.iaload, 1) := by decide +kernel
theorem d_L_220 : decode code 220 = .ok (.invokevirtual 31, 3) := by decide +kernel
theorem d_L_223 : decode code 223 = .ok (.aload_n 2, 1) := by decide +kernel
theorem d_L_224 : decode code 224 = .ok (.aload_n 0, 1) := by decide +kernel
theorem d_L_225 : decode code 225 = .ok (.iload_n 3, 1) := by decide +kernel
theorem d_L_226 : decode code 226 = .ok (.iconst 1, 1) := by decide +kernel
theorem d_L_227 : decode code 227 = .ok (.iadd, 1) := by decide +kernel
theorem d_L_228 : decode code 228 = .ok (.iaload, 1) := by decide +kernel
theorem d_L_229 : decode code 229 = .ok (.aload_n 0, 1) := by decide +kernel
theorem d_L_230 : decode code 230 = .ok (.iload_n 3, 1) := by decide +kernel
theorem d_L_231 : decode code 231 = .ok (.iconst 2, 1) := by decide +kernel
theorem d_L_232 : decode code 232 = .ok (.iadd, 1) := by decide +kernel
theorem d_L_233 : decode code 233 = .ok (.iaload, 1) := by decide +kernel
theorem d_L_234 : decode code 234 = .ok (.aload_n 0, 1) := by decide +kernel
theorem d_L_235 : decode code 235 = .ok (.iload_n 3, 1) := by decide +kernel
theorem d_L_236 : decode code 236 = .ok (.iconst 3, 1) := by decide +kernel
theorem d_L_237 : decode code 237 = .ok (.iadd, 1) := by decide +kernel
theorem d_L_238 : decode code 238 = .ok (.iaload, 1) := by decide +kernel
theorem d_L_239 : decode code 239 = .ok (.invokevirtual 35, 3) := by decide +kernel
theorem d_L_242 : decode code 242 = .ok (.if_icmp .eq 525, 3) := by decide +kernel
theorem d_L_245 : decode code 245 = .ok (.iconst 0, 1) := by decide +kernel
theorem d_L_246 : decode code 246 = .ok (.ireturn, 1) := by decide +kernel
theorem d_L_247 : decode code 247 = .ok (.aload_n 1, 1) := by decide +kernel
theorem d_L_248 : decode code 248 = .ok (.aload_n 0, 1) := by decide +kernel
theorem d_L_249 : decode code 249 = .ok (.iload_n 3, 1) := by decide +kernel
theorem d_L_250 : decode code 250 = .ok (.iconst 1, 1) := by decide +kernel
theorem d_L_251 : decode code 251 = .ok (.iadd, 1) := by decide +kernel
theorem d_L_252 : decode code 252 = .ok (.iaload, 1) := by decide +kernel
theorem d_L_253 : decode code 253 = .ok (.aload_n 0, 1) := by decide +kernel
theorem d_L_254 : decode code 254 = .ok (.iload_n 3, 1) := by decide +kernel
theorem d_L_255 : decode code 255 = .ok (.iconst 2, 1) := by decide +kernel
theorem d_L_256 : decode code 256 = .ok (.iadd, 1) := by decide +kernel
theorem d_L_257 : decode code 257 = .ok (.iaload, 1) := by decide +kernel
theorem d_L_258 : decode code 258 = .ok (.invokevirtual 36, 3) := by decide +kernel
theorem d_L_261 : decode code 261 = .ok (.aload_n 2, 1) := by decide +kernel
theorem d_L_262 : decode code 262 = .ok (.aload_n 0, 1) := by decide +kernel
theorem d_L_263 : decode code 263 = .ok (.iload_n 3, 1) := by decide +kernel
theorem d_L_264 : decode code 264 = .ok (.iconst 1, 1) := by decide +kernel
theorem d_L_265 : decode code 265 = .ok (.iadd, 1) := by decide +kernel
theorem d_L_266 : decode code 266 = .ok (.iaload, 1) := by decide +kernel
theorem d_L_267 : decode code 267 = .ok (.aload_n 0, 1) := by decide +kernel
theorem d_L_268 : decode code 268 = .ok (.iload_n 3, 1) := by decide +kernel
theorem d_L_269 : decode code 269 = .ok (.iconst 2, 1) := by decide +kernel
theorem d_L_270 : decode code 270 = .ok (.iadd, 1) := by decide +kernel
theorem d_L_271 : decode code 271 = .ok (.iaload, 1) := by decide +kernel
theorem d_L_272 : decode code 272 = .ok (.invokevirtual 39, 3) := by decide +kernel
theorem d_L_275 : decode code 275 = .ok (.if_icmp .eq 492, 3) := by decide +kernel
theorem d_L_278 : decode code 278 = .ok (.iconst 0, 1) := by decide +kernel
theorem d_L_279 : decode code 279 = .ok (.ireturn, 1) := by decide +kernel
theorem d_L_280 : decode code 280 = .ok (.aload_n 1, 1) := by decide +kernel
theorem d_L_281 : decode code 281 = .ok (.aload_n 0, 1) := by decide +kernel
theorem d_L_282 : decode code 282 = .ok (.iload_n 3, 1) := by decide +kernel
theorem d_L_283 : decode code 283 = .ok (.iconst 1, 1) := by decide +kernel
theorem d_L_284 : decode code 284 = .ok (.iadd, 1) := by decide +kernel
theorem d_L_285 : decode code 285 = .ok (.iaload, 1) := by decide +kernel
theorem d_L_286 : decode code 286 = .ok (.aload_n 0, 1) := by decide +kernel
theorem d_L_287 : decode code 287 = .ok (.iload_n 3, 1) := by decide +kernel
theorem d_L_288 : decode code 288 = .ok (.iconst 2, 1) := by decide +kernel
theorem d_L_289 : decode code 289 = .ok (.iadd, 1) := by decide +kernel
theorem d_L_290 : decode code 290 = .ok (.iaload, 1) := by decide +kernel
theorem d_L_291 : decode code 291 = .ok (.aload_n 0, 1) := by decide +kernel
theorem d_L_292 : decode code 292 = .ok (.iload_n 3, 1) := by decide +kernel
theorem d_L_293 : decode code 293 = .ok (.iconst 3, 1) := by decide +kernel
theorem d_L_294 : decode code 294 = .ok (.iadd, 1) := by decide +kernel
theorem d_L_295 : decode code 295 = .ok (.iaload, 1) := by decide +kernel
theorem d_L_296 : decode code 296 = .ok (.invokevirtual 40, 3) := by decide +kernel
theorem d_L_299 : decode code 299 = .ok (.aload_n 2, 1) := by decide +kernel
theorem d_L_300 : decode code 300 = .ok (.aload_n 0, 1) := by decide +kernel
theorem d_L_301 : decode code 301 = .ok (.iload_n 3, 1) := by decide +kernel
theorem d_L_302 : decode code 302 = .ok (.iconst 1, 1) := by decide +kernel
theorem d_L_303 : decode code 303 = .ok (.iadd, 1) := by decide +kernel
theorem d_L_304 : decode code 304 = .ok (.iaload, 1) := by decide +kernel
theorem d_L_305 : decode code 305 = .ok (.aload_n 0, 1) := by decide +kernel
theorem d_L_306 : decode code 306 = .ok (.iload_n 3, 1) := by decide +kernel
theorem d_L_307 : decode code 307 = .ok (.iconst 2, 1) := by decide +kernel
theorem d_L_308 : decode code 308 = .ok (.iadd, 1) := by decide +kernel
theorem d_L_309 : decode code 309 = .ok (.iaload, 1) := by decide +kernel
theorem d_L_310 : decode code 310 = .ok (.aload_n 0, 1) := by decide +kernel
theorem d_L_311 : decode code 311 = .ok (.iload_n 3, 1) := by decide +kernel
theorem d_L_312 : decode code 312 = .ok (.iconst 3, 1) := by decide +kernel
theorem d_L_313 : decode code 313 = .ok (.iadd, 1) := by decide +kernel
theorem d_L_314 : decode code 314 = .ok (.iaload, 1) := by decide +kernel
theorem d_L_315 : decode code 315 = .ok (.invokevirtual 43, 3) := by decide +kernel
theorem d_L_318 : decode code 318 = .ok (.if_icmp .eq 449, 3) := by decide +kernel
theorem d_L_321 : decode code 321 = .ok (.iconst 0, 1) := by decide +kernel
theorem d_L_322 : decode code 322 = .ok (.ireturn, 1) := by decide +kernel
theorem d_L_323 : decode code 323 = .ok (.aload_n 1, 1) := by decide +kernel
theorem d_L_324 : decode code 324 = .ok (.aload_n 0, 1) := by decide +kernel
theorem d_L_325 : decode code 325 = .ok (.iload_n 3, 1) := by decide +kernel
theorem d_L_326 : decode code 326 = .ok (.iconst 1, 1) := by decide +kernel
theorem d_L_327 : decode code 327 = .ok (.iadd, 1) := by decide +kernel
theorem d_L_328 : decode code 328 = .ok (.iaload, 1) := by decide +kernel
theorem d_L_329 : decode code 329 = .ok (.invokevirtual 44, 3) := by decide +kernel
theorem d_L_332 : decode code 332 = .ok (.aload_n 2, 1) := by decide +kernel
theorem d_L_333 : decode code 333 = .ok (.aload_n 0, 1) := by decide +kernel
theorem d_L_334 : decode code 334 = .ok (.iload_n 3, 1) := by decide +kernel
theorem d_L_335 : decode code 335 = .ok (.iconst 1, 1) := by decide +kernel
theorem d_L_336 : decode code 336 = .ok (.iadd, 1) := by decide +kernel
theorem d_L_337 : decode code 337 = .ok (.iaload, 1) := by decide +kernel
theorem d_L_338 : decode code 338 = .ok (.invokevirtual 47, 3) := by decide +kernel
theorem d_L_341 : decode code 341 = .ok (.if_icmp .eq 426, 3) := by decide +kernel
theorem d_L_344 : decode code 344 = .ok (.iconst 0, 1) := by decide +kernel
theorem d_L_345 : decode code 345 = .ok (.ireturn, 1) := by decide +kernel
theorem d_L_346 : decode code 346 = .ok (.aload_n 1, 1) := by decide +kernel
theorem d_L_347 : decode code 347 = .ok (.invokevirtual 48, 3) := by decide +kernel
theorem d_L_350 : decode code 350 = .ok (.aload_n 2, 1) := by decide +kernel
theorem d_L_351 : decode code 351 = .ok (.invokevirtual 52, 3) := by decide +kernel
theorem d_L_354 : decode code 354 = .ok (.if_icmp .eq 413, 3) := by decide +kernel
theorem d_L_357 : decode code 357 = .ok (.iconst 0, 1) := by decide +kernel
theorem d_L_358 : decode code 358 = .ok (.ireturn, 1) := by decide +kernel
theorem d_L_359 : decode code 359 = .ok (.aload_n 1, 1) := by decide +kernel
theorem d_L_360 : decode code 360 = .ok (.aload_n 0, 1) := by decide +kernel
theorem d_L_361 : decode code 361 = .ok (.iload_n 3, 1) := by decide +kernel
theorem d_L_362 : decode code 362 = .ok (.iconst 1, 1) := by decide +kernel
theorem d_L_363 : decode code 363 = .ok (.iadd, 1) := by decide +kernel
theorem d_L_364 : decode code 364 = .ok (.iaload, 1) := by decide +kernel
theorem d_L_365 : decode code 365 = .ok (.invokevirtual 53, 3) := by decide +kernel
theorem d_L_368 : decode code 368 = .ok (.aload_n 2, 1) := by decide +kernel
theorem d_L_369 : decode code 369 = .ok (.aload_n 0, 1) := by decide +kernel
theorem d_L_370 : decode code 370 = .ok (.iload_n 3, 1) := by decide +kernel
theorem d_L_371 : decode code 371 = .ok (.iconst 1, 1) := by decide +kernel
theorem d_L_372 : decode code 372 = .ok (.iadd, 1) := by decide +kernel
theorem d_L_373 : decode code 373 = .ok (.iaload, 1) := by decide +kernel
theorem d_L_374 : decode code 374 = .ok (.invokevirtual 56, 3) := by decide +kernel
theorem d_L_377 : decode code 377 = .ok (.if_icmp .eq 390, 3) := by decide +kernel
theorem d_L_380 : decode code 380 = .ok (.iconst 0, 1) := by decide +kernel
theorem d_L_381 : decode code 381 = .ok (.ireturn, 1) := by decide +kernel
theorem d_L_382 : decode code 382 = .ok (.aload_n 1, 1) := by decide +kernel
theorem d_L_383 : decode code 383 = .ok (.aload_n 0, 1) := by decide +kernel
theorem d_L_384 : decode code 384 = .ok (.iload_n 3, 1) := by decide +kernel
theorem d_L_385 : decode code 385 = .ok (.iconst 1, 1) := by decide +kernel
theorem d_L_386 : decode code 386 = .ok (.iadd, 1) := by decide +kernel
theorem d_L_387 : decode code 387 = .ok (.iaload, 1) := by decide +kernel
theorem d_L_388 : decode code 388 = .ok (.invokevirtual 57, 3) := by decide +kernel
theorem d_L_391 : decode code 391 = .ok (.aload_n 2, 1) := by decide +kernel
theorem d_L_392 : decode code 392 = .ok (.aload_n 0, 1) := by decide +kernel
theorem d_L_393 : decode code 393 = .ok (.iload_n 3, 1) := by decide +kernel
theorem d_L_394 : decode code 394 = .ok (.iconst 1, 1) := by decide +kernel
theorem d_L_395 : decode code 395 = .ok (.iadd, 1) := by decide +kernel
theorem d_L_396 : decode code 396 = .ok (.iaload, 1) := by decide +kernel
theorem d_L_397 : decode code 397 = .ok (.invokevirtual 60, 3) := by decide +kernel
theorem d_L_400 : decode code 400 = .ok (.if_icmp .eq 367, 3) := by decide +kernel
theorem d_L_403 : decode code 403 = .ok (.iconst 0, 1) := by decide +kernel
theorem d_L_404 : decode code 404 = .ok (.ireturn, 1) := by decide +kernel
theorem d_L_405 : decode code 405 = .ok (.aload_n 1, 1) := by decide +kernel
theorem d_L_406 : decode code 406 = .ok (.aload_n 0, 1) := by decide +kernel
theorem d_L_407 : decode code 407 = .ok (.iload_n 3, 1) := by decide +kernel
theorem d_L_408 : decode code 408 = .ok (.iconst 1, 1) := by decide +kernel
theorem d_L_409 : decode code 409 = .ok (.iadd, 1) := by decide +kernel
theorem d_L_410 : decode code 410 = .ok (.iaload, 1) := by decide +kernel
theorem d_L_411 : decode code 411 = .ok (.invokevirtual 61, 3) := by decide +kernel
theorem d_L_414 : decode code 414 = .ok (.aload_n 2, 1) := by decide +kernel
theorem d_L_415 : decode code 415 = .ok (.aload_n 0, 1) := by decide +kernel
theorem d_L_416 : decode code 416 = .ok (.iload_n 3, 1) := by decide +kernel
theorem d_L_417 : decode code 417 = .ok (.iconst 1, 1) := by decide +kernel
theorem d_L_418 : decode code 418 = .ok (.iadd, 1) := by decide +kernel
theorem d_L_419 : decode code 419 = .ok (.iaload, 1) := by decide +kernel
theorem d_L_420 : decode code 420 = .ok (.invokevirtual 64, 3) := by decide +kernel
theorem d_L_423 : decode code 423 = .ok (.if_icmp .eq 344, 3) := by decide +kernel
theorem d_L_426 : decode code 426 = .ok (.iconst 0, 1) := by decide +kernel
theorem d_L_427 : decode code 427 = .ok (.ireturn, 1) := by decide +kernel
theorem d_L_428 : decode code 428 = .ok (.aload_n 1, 1) := by decide +kernel
theorem d_L_429 : decode code 429 = .ok (.aload_n 0, 1) := by decide +kernel
theorem d_L_430 : decode code 430 = .ok (.iload_n 3, 1) := by decide +kernel
theorem d_L_431 : decode code 431 = .ok (.iconst 1, 1) := by decide +kernel
theorem d_L_432 : decode code 432 = .ok (.iadd, 1) := by decide +kernel
theorem d_L_433 : decode code 433 = .ok (.iaload, 1) := by decide +kernel
theorem d_L_434 : decode code 434 = .ok (.aload_n 0, 1) := by decide +kernel
theorem d_L_435 : decode code 435 = .ok (.iload_n 3, 1) := by decide +kernel
theorem d_L_436 : decode code 436 = .ok (.iconst 2, 1) := by decide +kernel
theorem d_L_437 : decode code 437 = .ok (.iadd, 1) := by decide +kernel
theorem d_L_438 : decode code 438 = .ok (.iaload, 1) := by decide +kernel
theorem d_L_439 : decode code 439 = .ok (.invokevirtual 65, 3) := by decide +kernel
theorem d_L_442 : decode code 442 = .ok (.aload_n 2, 1) := by decide +kernel
theorem d_L_443 : decode code 443 = .ok (.aload_n 0, 1) := by decide +kernel
theorem d_L_444 : decode code 444 = .ok (.iload_n 3, 1) := by decide +kernel
theorem d_L_445 : decode code 445 = .ok (.iconst 1, 1) := by decide +kernel
theorem d_L_446 : decode code 446 = .ok (.iadd, 1) := by decide +kernel
theorem d_L_447 : decode code 447 = .ok (.iaload, 1) := by decide +kernel
theorem d_L_448 : decode code 448 = .ok (.aload_n 0, 1) := by decide +kernel
theorem d_L_449 : decode code 449 = .ok (.iload_n 3, 1) := by decide +kernel
theorem d_L_450 : decode code 450 = .ok (.iconst 2, 1) := by decide +kernel
theorem d_L_451 : decode code 451 = .ok (.iadd, 1) := by decide +kernel
theorem d_L_452 : decode code 452 = .ok (.iaload, 1) := by decide +kernel
theorem d_L_453 : decode code 453 = .ok (.invokevirtual 68, 3) := by decide +kernel
theorem d_L_456 : decode code 456 = .ok (.if_icmp .eq 311, 3) := by decide +kernel
theorem d_L_459 : decode code 459 = .ok (.iconst 0, 1) := by decide +kernel
theorem d_L_460 : decode code 460 = .ok (.ireturn, 1) := by decide +kernel
theorem d_L_461 : decode code 461 = .ok (.aload_n 1, 1) := by decide +kernel
theorem d_L_462 : decode code 462 = .ok (.aload_n 0, 1) := by decide +kernel
theorem d_L_463 : decode code 463 = .ok (.iload_n 3, 1) := by decide +kernel
theorem d_L_464 : decode code 464 = .ok (.iconst 1, 1) := by decide +kernel
theorem d_L_465 : decode code 465 = .ok (.iadd, 1) := by decide +kernel
theorem d_L_466 : decode code 466 = .ok (.iaload, 1) := by decide +kernel
theorem d_L_467 : decode code 467 = .ok (.invokevirtual 69, 3) := by decide +kernel
theorem d_L_470 : decode code 470 = .ok (.aload_n 2, 1) := by decide +kernel
theorem d_L_471 : decode code 471 = .ok (.aload_n 0, 1) := by decide +kernel
theorem d_L_472 : decode code 472 = .ok (.iload_n 3, 1) := by decide +kernel
theorem d_L_473 : decode code 473 = .ok (.iconst 1, 1) := by decide +kernel
theorem d_L_474 : decode code 474 = .ok (.iadd, 1) := by decide +kernel
theorem d_L_475 : decode code 475 = .ok (.iaload, 1) := by decide +kernel
theorem d_L_476 : decode code 476 = .ok (.invokevirtual 73, 3) := by decide +kernel
theorem d_L_479 : decode code 479 = .ok (.if_icmp .eq 288, 3) := by decide +kernel
theorem d_L_482 : decode code 482 = .ok (.iconst 0, 1) := by decide +kernel
theorem d_L_483 : decode code 483 = .ok (.ireturn, 1) := by decide +kernel
theorem d_L_484 : decode code 484 = .ok (.aload_n 1, 1) := by decide +kernel
theorem d_L_485 : decode code 485 = .ok (.invokevirtual 74, 3) := by decide +kernel
theorem d_L_488 : decode code 488 = .ok (.aload_n 2, 1) := by decide +kernel
theorem d_L_489 : decode code 489 = .ok (.invokevirtual 77, 3) := by decide +kernel
theorem d_L_492 : decode code 492 = .ok (.if_icmp .eq 275, 3) := by decide +kernel
theorem d_L_495 : decode code 495 = .ok (.iconst 0, 1) := by decide +kernel
theorem d_L_496 : decode code 496 = .ok (.ireturn, 1) := by decide +kernel
theorem d_L_497 : decode code 497 = .ok (.aload_n 1, 1) := by decide +kernel
theorem d_L_498 : decode code 498 = .ok (.aload_n 0, 1) := by decide +kernel
theorem d_L_499 : decode code 499 = .ok (.iload_n 3, 1) := by decide +kernel
theorem d_L_500 : decode code 500 = .ok (.iconst 1, 1) := by decide +kernel
theorem d_L_501 : decode code 501 = .ok (.iadd, 1) := by decide +kernel
theorem d_L_502 : decode code 502 = .ok (.iaload, 1) := by decide +kernel
theorem d_L_503 : decode code 503 = .ok (.invokevirtual 78, 3) := by decide +kernel
theorem d_L_506 : decode code 506 = .ok (.aload_n 2, 1) := by decide +kernel
theorem d_L_507 : decode code 507 = .ok (.aload_n 0, 1) := by decide +kernel
theorem d_L_508 : decode code 508 = .ok (.iload_n 3, 1) := by decide +kernel
theorem d_L_509 : decode code 509 = .ok (.iconst 1, 1) := by decide +kernel
theorem d_L_510 : decode code 510 = .ok (.iadd, 1) := by decide +kernel
theorem d_L_511 : decode code 511 = .ok (.iaload, 1) := by decide +kernel
theorem d_L_512 : decode code 512 = .ok (.invokevirtual 81, 3) := by decide +kernel
theorem d_L_515 : decode code 515 = .ok (.if_icmp .eq 252, 3) := by decide +kernel
theorem d_L_518 : decode code 518 = .ok (.iconst 0, 1) := by decide +kernel
theorem d_L_519 : decode code 519 = .ok (.ireturn, 1) := by decide +kernel
theorem d_L_520 : decode code 520 = .ok (.aload_n 1, 1) := by decide +kernel
theorem d_L_521 : decode code 521 = .ok (.aload_n 0, 1) := by decide +kernel
theorem d_L_522 : decode code 522 = .ok (.iload_n 3, 1) := by decide +kernel
theorem d_L_523 : decode code 523 = .ok (.iconst 1, 1) := by decide +kernel
theorem d_L_524 : decode code 524 = .ok (.iadd, 1) := by decide +kernel
theorem d_L_525 : decode code 525 = .ok (.iaload, 1) := by decide +kernel
theorem d_L_526 : decode code 526 = .ok (.invokevirtual 82, 3) := by decide +kernel
theorem d_L_529 : decode code 529 = .ok (.aload_n 2, 1) := by decide +kernel
theorem d_L_530 : decode code 530 = .ok (.aload_n 0, 1) := by decide +kernel
theorem d_L_531 : decode code 531 = .ok (.iload_n 3, 1) := by decide +kernel
theorem d_L_532 : decode code 532 = .ok (.iconst 1, 1) := by decide +kernel
theorem d_L_533 : decode code 533 = .ok (.iadd, 1) := by decide +kernel
theorem d_L_534 : decode code 534 = .ok (.iaload, 1) := by decide +kernel
theorem d_L_535 : decode code 535 = .ok (.invokevirtual 85, 3) := by decide +kernel
theorem d_L_538 : decode code 538 = .ok (.if_icmp .eq 229, 3) := by decide +kernel
theorem d_L_541 : decode code 541 = .ok (.iconst 0, 1) := by decide +kernel
theorem d_L_542 : decode code 542 = .ok (.ireturn, 1) := by decide +kernel
theorem d_L_543 : decode code 543 = .ok (.aload_n 1, 1) := by decide +kernel
theorem d_L_544 : decode code 544 = .ok (.aload_n 0, 1) := by decide +kernel
theorem d_L_545 : decode code 545 = .ok (.iload_n 3, 1) := by decide +kernel
theorem d_L_546 : decode code 546 = .ok (.iconst 1, 1) := by decide +kernel
theorem d_L_547 : decode code 547 = .ok (.iadd, 1) := by decide +kernel
theorem d_L_548 : decode code 548 = .ok (.iaload, 1) := by decide +kernel
theorem d_L_549 : decode code 549 = .ok (.invokevirtual 86, 3) := by decide +kernel
theorem d_L_552 : decode code 552 = .ok (.aload_n 2, 1) := by decide +kernel
theorem d_L_553 : decode code 553 = .ok (.aload_n 0, 1) := by decide +kernel
theorem d_L_554 : decode code 554 = .ok (.iload_n 3, 1) := by decide +kernel
theorem d_L_555 : decode code 555 = .ok (.iconst 1, 1) := by decide +kernel
theorem d_L_556 : decode code 556 = .ok (.iadd, 1) := by decide +kernel
theorem d_L_557 : decode code 557 = .ok (.iaload, 1) := by decide +kernel
theorem d_L_558 : decode code 558 = .ok (.invokevirtual 89, 3) := by decide +kernel
theorem d_L_561 : decode code 561 = .ok (.if_icmp .eq 206, 3) := by decide +kernel
theorem d_L_564 : decode code 564 = .ok (.iconst 0, 1) := by decide +kernel
theorem d_L_565 : decode code 565 = .ok (.ireturn, 1) := by decide +kernel
theorem d_L_566 : decode code 566 = .ok (.aload_n 1, 1) := by decide +kernel
theorem d_L_567 : decode code 567 = .ok (.aload_n 0, 1) := by decide +kernel
theorem d_L_568 : decode code 568 = .ok (.iload_n 3, 1) := by decide +kernel
theorem d_L_569 : decode code 569 = .ok (.iconst 1, 1) := by decide +kernel
theorem d_L_570 : decode code 570 = .ok (.iadd, 1) := by decide +kernel
theorem d_L_571 : decode code 571 = .ok (.iaload, 1) := by decide +kernel
theorem d_L_572 : decode code 572 = .ok (.aload_n 0, 1) := by decide +kernel
theorem d_L_573 : decode code 573 = .ok (.iload_n 3, 1) := by decide +kernel
theorem d_L_574 : decode code 574 = .ok (.iconst 2, 1) := by decide +kernel
theorem d_L_575 : decode code 575 = .ok (.iadd, 1) := by decide +kernel
theorem d_L_576 : decode code 576 = .ok (.iaload, 1) := by decide +kernel
theorem d_L_577 : decode code 577 = .ok (.invokevirtual 90, 3) := by decide +kernel
theorem d_L_580 : decode code 580 = .ok (.aload_n 2, 1) := by decide +kernel
theorem d_L_581 : decode code 581 = .ok (.aload_n 0, 1) := by decide +kernel
theorem d_L_582 : decode code 582 = .ok (.iload_n 3, 1) := by decide +kernel
theorem d_L_583 : decode code 583 = .ok (.iconst 1, 1) := by decide +kernel
theorem d_L_584 : decode code 584 = .ok (.iadd, 1) := by decide +kernel
theorem d_L_585 : decode code 585 = .ok (.iaload, 1) := by decide +kernel
theorem d_L_586 : decode code 586 = .ok (.aload_n 0, 1) := by decide +kernel
theorem d_L_587 : decode code 587 = .ok (.iload_n 3, 1) := by decide +kernel
theorem d_L_588 : decode code 588 = .ok (.iconst 2, 1) := by decide +kernel
theorem d_L_589 : decode code 589 = .ok (.iadd, 1) := by decide +kernel
theorem d_L_590 : decode code 590 = .ok (.iaload, 1) := by decide +kernel
theorem d_L_591 : decode code 591 = .ok (.invokevirtual 93, 3) := by decide +kernel
theorem d_L_594 : decode code 594 = .ok (.if_icmp .eq 173, 3) := by decide +kernel
theorem d_L_597 : decode code 597 = .ok (.iconst 0, 1) := by decide +kernel
theorem d_L_598 : decode code 598 = .ok (.ireturn, 1) := by decide +kernel
theorem d_L_599 : decode code 599 = .ok (.aload_n 1, 1) := by decide +kernel
theorem d_L_600 : decode code 600 = .ok (.aload_n 0, 1) := by decide +kernel
theorem d_L_601 : decode code 601 = .ok (.iload_n 3, 1) := by decide +kernel
theorem d_L_602 : decode code 602 = .ok (.iconst 1, 1) := by decide +kernel
theorem d_L_603 : decode code 603 = .ok (.iadd, 1) := by decide +kernel
theorem d_L_604 : decode code 604 = .ok (.iaload, 1) := by decide +kernel
theorem d_L_605 : decode code 605 = .ok (.aload_n 0, 1) := by decide +kernel
theorem d_L_606 : decode code 606 = .ok (.iload_n 3, 1) := by decide +kernel
theorem d_L_607 : decode code 607 = .ok (.iconst 2, 1) := by decide +kernel
theorem d_L_608 : decode code 608 = .ok (.iadd, 1) := by decide +kernel
theorem d_L_609 : decode code 609 = .ok (.iaload, 1) := by decide +kernel
theorem d_L_610 : decode code 610 = .ok (.invokevirtual 94, 3) := by decide +kernel
theorem d_L_613 : decode code 613 = .ok (.aload_n 2, 1) := by decide +kernel
theorem d_L_614 : decode code 614 = .ok (.aload_n 0, 1) := by decide +kernel
theorem d_L_615 : decode code 615 = .ok (.iload_n 3, 1) := by decide +kernel
theorem d_L_616 : decode code 616 = .ok (.iconst 1, 1) := by decide +kernel
theorem d_L_617 : decode code 617 = .ok (.iadd, 1) := by decide +kernel
theorem d_L_618 : decode code 618 = .ok (.iaload, 1) := by decide +kernel
theorem d_L_619 : decode code 619 = .ok (.aload_n 0, 1) := by decide +kernel
theorem d_L_620 : decode code 620 = .ok (.iload_n 3, 1) := by decide +kernel
theorem d_L_621 : decode code 621 = .ok (.iconst 2, 1) := by decide +kernel
theorem d_L_622 : decode code 622 = .ok (.iadd, 1) := by decide +kernel
theorem d_L_623 : decode code 623 = .ok (.iaload, 1) := by decide +kernel
theorem d_L_624 : decode code 624 = .ok (.invokevirtual 98, 3) := by decide +kernel
theorem d_L_627 : decode code 627 = .ok (.if_icmp .eq 140, 3) := by decide +kernel
theorem d_L_630 : decode code 630 = .ok (.iconst 0, 1) := by decide +kernel
theorem d_L_631 : decode code 631 = .ok (.ireturn, 1) := by decide +kernel
theorem d_L_632 : decode code 632 = .ok (.aload_n 1, 1) := by decide +kernel
theorem d_L_633 : decode code 633 = .ok (.aload_n 0, 1) := by decide +kernel
theorem d_L_634 : decode code 634 = .ok (.iload_n 3, 1) := by decide +kernel
theorem d_L_635 : decode code 635 = .ok (.iconst 1, 1) := by decide +kernel
theorem d_L_636 : decode code 636 = .ok (.iadd, 1) := by decide +kernel
theorem d_L_637 : decode code 637 = .ok (.iaload, 1) := by decide +kernel
theorem d_L_638 : decode code 638 = .ok (.aload_n 0, 1) := by decide +kernel
theorem d_L_639 : decode code 639 = .ok (.iload_n 3, 1) := by decide +kernel
theorem d_L_640 : decode code 640 = .ok (.iconst 2, 1) := by decide +kernel
theorem d_L_641 : decode code 641 = .ok (.iadd, 1) := by decide +kernel
theorem d_L_642 : decode code 642 = .ok (.iaload, 1) := by decide +kernel
theorem d_L_643 : decode code 643 = .ok (.invokevirtual 99, 3) := by decide +kernel
theorem d_L_646 : decode code 646 = .ok (.aload_n 2, 1) := by decide +kernel
theorem d_L_647 : decode code 647 = .ok (.aload_n 0, 1) := by decide +kernel
theorem d_L_648 : decode code 648 = .ok (.iload_n 3, 1) := by decide +kernel
theorem d_L_649 : decode code 649 = .ok (.iconst 1, 1) := by decide +kernel
theorem d_L_650 : decode code 650 = .ok (.iadd, 1) := by decide +kernel
theorem d_L_651 : decode code 651 = .ok (.iaload, 1) := by decide +kernel
theorem d_L_652 : decode code 652 = .ok (.aload_n 0, 1) := by decide +kernel
theorem d_L_653 : decode code 653 = .ok (.iload_n 3, 1) := by decide +kernel
theorem d_L_654 : decode code 654 = .ok (.iconst 2, 1) := by decide +kernel
theorem d_L_655 : decode code 655 = .ok (.iadd, 1) := by decide +kernel
theorem d_L_656 : decode code 656 = .ok (.iaload, 1) := by decide +kernel
theorem d_L_657 : decode code 657 = .ok (.invokevirtual 102, 3) := by decide +kernel
theorem d_L_660 : decode code 660 = .ok (.if_icmp .eq 107, 3) := by decide +kernel
theorem d_L_663 : decode code 663 = .ok (.iconst 0, 1) := by decide +kernel
theorem d_L_664 : decode code 664 = .ok (.ireturn, 1) := by decide +kernel
theorem d_L_665 : decode code 665 = .ok (.aload_n 1, 1) := by decide +kernel
theorem d_L_666 : decode code 666 = .ok (.aload_n 0, 1) := by decide +kernel
theorem d_L_667 : decode code 667 = .ok (.iload_n 3, 1) := by decide +kernel
theorem d_L_668 : decode code 668 = .ok (.iconst 1, 1) := by decide +kernel
theorem d_L_669 : decode code 669 = .ok (.iadd, 1) := by decide +kernel
theorem d_L_670 : decode code 670 = .ok (.iaload, 1) := by decide +kernel
theorem d_L_671 : decode code 671 = .ok (.invokevirtual 103, 3) := by decide +kernel
theorem d_L_674 : decode code 674 = .ok (.aload_n 2, 1) := by decide +kernel
theorem d_L_675 : decode code 675 = .ok (.aload_n 0, 1) := by decide +kernel
theorem d_L_676 : decode code 676 = .ok (.iload_n 3, 1) := by decide +kernel
theorem d_L_677 : decode code 677 = .ok (.iconst 1, 1) := by decide +kernel
theorem d_L_678 : decode code 678 = .ok (.iadd, 1) := by decide +kernel
theorem d_L_679 : decode code 679 = .ok (.iaload, 1) := by decide +kernel
theorem d_L_680 : decode code 680 = .ok (.invokevirtual 106, 3) := by decide +kernel
theorem d_L_683 : decode code 683 = .ok (.if_icmp .eq 84, 3) := by decide +kernel
theorem d_L_686 : decode code 686 = .ok (.iconst 0, 1) := by decide +kernel
theorem d_L_687 : decode code 687 = .ok (.ireturn, 1) := by decide +kernel
theorem d_L_688 : decode code 688 = .ok (.aload_n 1, 1) := by decide +kernel
theorem d_L_689 : decode code 689 = .ok (.aload_n 0, 1) := by decide +kernel
theorem d_L_690 : decode code 690 = .ok (.iload_n 3, 1) := by decide +kernel
theorem d_L_691 : decode code 691 = .ok (.iconst 1, 1) := by decide +kernel
theorem d_L_692 : decode code 692 = .ok (.iadd, 1) := by decide +kernel
theorem d_L_693 : decode code 693 = .ok (.iaload, 1) := by decide +kernel
theorem d_L_694 : decode code 694 = .ok (.aload_n 0, 1) := by decide +kernel
theorem d_L_695 : decode code 695 = .ok (.iload_n 3, 1) := by decide +kernel
theorem d_L_696 : decode code 696 = .ok (.iconst 2, 1) := by decide +kernel
theorem d_L_697 : decode code 697 = .ok (.iadd, 1) := by decide +kernel
theorem d_L_698 : decode code 698 = .ok (.iaload, 1) := by decide +kernel
theorem d_L_699 : decode code 699 = .ok (.invokevirtual 107, 3) := by decide +kernel
theorem d_L_702 : decode code 702 = .ok (.aload_n 2, 1) := by decide +kernel
theorem d_L_703 : decode code 703 = .ok (.aload_n 0, 1) := by decide +kernel
theorem d_L_704 : decode code 704 = .ok (.iload_n 3, 1) := by decide +kernel
theorem d_L_705 : decode code 705 = .ok (.iconst 1, 1) := by decide +kernel
theorem d_L_706 : decode code 706 = .ok (.iadd, 1) := by decide +kernel
theorem d_L_707 : decode code 707 = .ok (.iaload, 1) := by decide +kernel
theorem d_L_708 : decode code 708 = .ok (.aload_n 0, 1) := by decide +kernel
theorem d_L_709 : decode code 709 = .ok (.iload_n 3, 1) := by decide +kernel
theorem d_L_710 : decode code 710 = .ok (.iconst 2, 1) := by decide +kernel
theorem d_L_711 : decode code 711 = .ok (.iadd, 1) := by decide +kernel
theorem d_L_712 : decode code 712 = .ok (.iaload, 1) := by decide +kernel
theorem d_L_713 : decode code 713 = .ok (.invokevirtual 110, 3) := by decide +kernel
theorem d_L_716 : decode code 716 = .ok (.if_icmp .eq 51, 3) := by decide +kernel
theorem d_L_719 : decode code 719 = .ok (.iconst 0, 1) := by decide +kernel
theorem d_L_720 : decode code 720 = .ok (.ireturn, 1) := by decide +kernel
theorem d_L_721 : decode code 721 = .ok (.aload_n 1, 1) := by decide +kernel
theorem d_L_722 : decode code 722 = .ok (.aload_n 0, 1) := by decide +kernel
theorem d_L_723 : decode code 723 = .ok (.iload_n 3, 1) := by decide +kernel
theorem d_L_724 : decode code 724 = .ok (.iconst 1, 1) := by decide +kernel
theorem d_L_725 : decode code 725 = .ok (.iadd, 1) := by decide +kernel
theorem d_L_726 : decode code 726 = .ok (.iaload, 1) := by decide +kernel
theorem d_L_727 : decode code 727 = .ok (.invokevirtual 111, 3) := by decide +kernel
theorem d_L_730 : decode code 730 = .ok (.aload_n 2, 1) := by decide +kernel
theorem d_L_731 : decode code 731 = .ok (.aload_n 0, 1) := by decide +kernel
theorem d_L_732 : decode code 732 = .ok (.iload_n 3, 1) := by decide +kernel
theorem d_L_733 : decode code 733 = .ok (.iconst 1, 1) := by decide +kernel
theorem d_L_734 : decode code 734 = .ok (.iadd, 1) := by decide +kernel
theorem d_L_735 : decode code 735 = .ok (.iaload, 1) := by decide +kernel
theorem d_L_736 : decode code 736 = .ok (.invokevirtual 114, 3) := by decide +kernel
theorem d_L_739 : decode code 739 = .ok (.if_icmp .eq 28, 3) := by decide +kernel
theorem d_L_742 : decode code 742 = .ok (.iconst 0, 1) := by decide +kernel
theorem d_L_743 : decode code 743 = .ok (.ireturn, 1) := by decide +kernel
theorem d_L_744 : decode code 744 = .ok (.aload_n 1, 1) := by decide +kernel
theorem d_L_745 : decode code 745 = .ok (.aload_n 0, 1) := by decide +kernel
theorem d_L_746 : decode code 746 = .ok (.iload_n 3, 1) := by decide +kernel
theorem d_L_747 : decode code 747 = .ok (.iconst 1, 1) := by decide +kernel
theorem d_L_748 : decode code 748 = .ok (.iadd, 1) := by decide +kernel
theorem d_L_749 : decode code 749 = .ok (.iaload, 1) := by decide +kernel
theorem d_L_750 : decode code 750 = .ok (.invokevirtual 115, 3) := by decide +kernel
theorem d_L_753 : decode code 753 = .ok (.aload_n 2, 1) := by decide +kernel
theorem d_L_754 : decode code 754 = .ok (.aload_n 0, 1) := by decide +kernel
theorem d_L_755 : decode code 755 = .ok (.iload_n 3, 1) := by decide +kernel
theorem d_L_756 : decode code 756 = .ok (.iconst 1, 1) := by decide +kernel
theorem d_L_757 : decode code 757 = .ok (.iadd, 1) := by decide +kernel
theorem d_L_758 : decode code 758 = .ok (.iaload, 1) := by decide +kernel
theorem d_L_759 : decode code 759 = .ok (.invokevirtual 118, 3) := by decide +kernel
theorem d_L_762 : decode code 762 = .ok (.if_icmp .eq 5, 3) := by decide +kernel
theorem d_L_765 : decode code 765 = .ok (.iconst 0, 1) := by decide +kernel
theorem d_L_766 : decode code 766 = .ok (.ireturn, 1) := by decide +kernel
theorem d_L_767 : decode code 767 = .ok (.iinc 3 4, 3) := by decide +kernel
theorem d_L_770 : decode code 770 = .ok (.goto (-742), 3) := by decide +kernel
theorem d_L_773 : decode code 773 = .ok (.iconst 1, 1) := by decide +kernel
theorem d_L_774 : decode code 774 = .ok (.ireturn, 1) := by decide +kernel
abbrev b_L_cell : ByteArray := method_2_code
def y_L_cell : MethodName := ⟨R_law, "cell", "([II)I"⟩
theorem d_C_0 : decode b_L_cell 0 = .ok (.iload_n 1, 1) := by decide +kernel
theorem d_C_1 : decode b_L_cell 1 = .ok (.aload_n 0, 1) := by decide +kernel
theorem d_C_2 : decode b_L_cell 2 = .ok (.arraylength, 1) := by decide +kernel
theorem d_C_3 : decode b_L_cell 3 = .ok (.if_icmp .ge 9, 3) := by decide +kernel
theorem d_C_6 : decode b_L_cell 6 = .ok (.aload_n 0, 1) := by decide +kernel
theorem d_C_7 : decode b_L_cell 7 = .ok (.iload_n 1, 1) := by decide +kernel
theorem d_C_8 : decode b_L_cell 8 = .ok (.iaload, 1) := by decide +kernel
theorem d_C_9 : decode b_L_cell 9 = .ok (.goto 4, 3) := by decide +kernel
theorem d_C_12 : decode b_L_cell 12 = .ok (.iconst 0, 1) := by decide +kernel
theorem d_C_13 : decode b_L_cell 13 = .ok (.ireturn, 1) := by decide +kernel
abbrev ws_L_cell : List Cond := .code y_L_cell b_L_cell 2 (some .int) :: wA
abbrev rm_L_cell : Room := { frames := 0, cells := 0, slots := 0, locals := 0 }
theorem hd_L_cell : y_L_cell.cls = R_law ∧ y_L_cell.cls ≠ "java/lang/invoke/MethodHandle" ∧ y_L_cell.cls ≠ "java/lang/invoke/VarHandle" ∧ (parseMethodDescriptor y_L_cell.desc).map (fun d => d.parameters.length) = some 2 := by decide +kernel
theorem g_L_cell {c0 : Cond} : GoodIn (c0 :: wA) (wsS R_law 9 y_L_cell (.code y_L_cell b_L_cell 2 (some .int) :: wA)) := gw_S (wA_t 584 (by decide +kernel) rfl) (wA_t 585 (by decide +kernel) rfl) (wA_t 0 (by decide +kernel) rfl) (wA_t 586 (by decide +kernel) rfl)
theorem hl_N_begin : y_N_begin.cls = R_N ∧ y_N_begin.cls ≠ "java/lang/invoke/MethodHandle" ∧ y_N_begin.cls ≠ "java/lang/invoke/VarHandle" ∧ (parseMethodDescriptor y_N_begin.desc).map (fun d => d.parameters.length) = some 1 := by decide +kernel
theorem gl_N_begin {c0 : Cond} : GoodIn (c0 :: wA) (wsV R_law 21 R_N y_N_begin (.code y_N_begin b_N_begin 4 (some .int) :: wA)) := gw_V (wA_t 244 (by decide +kernel) rfl) (wA_t 245 (by decide +kernel) rfl) (wA_t 246 (by decide +kernel) rfl) (wA_t 1 (by decide +kernel) rfl) (wA_t 247 (by decide +kernel) rfl)
theorem hl_N_get : y_N_get.cls = R_N ∧ y_N_get.cls ≠ "java/lang/invoke/MethodHandle" ∧ y_N_get.cls ≠ "java/lang/invoke/VarHandle" ∧ (parseMethodDescriptor y_N_get.desc).map (fun d => d.parameters.length) = some 2 := by decide +kernel
theorem gl_N_get {c0 : Cond} : GoodIn (c0 :: wA) (wsV R_law 26 R_N y_N_get (.code y_N_get b_N_get 4 (some .int) :: wA)) := gw_V (wA_t 300 (by decide +kernel) rfl) (wA_t 301 (by decide +kernel) rfl) (wA_t 302 (by decide +kernel) rfl) (wA_t 1 (by decide +kernel) rfl) (wA_t 303 (by decide +kernel) rfl)
theorem hl_N_put : y_N_put.cls = R_N ∧ y_N_put.cls ≠ "java/lang/invoke/MethodHandle" ∧ y_N_put.cls ≠ "java/lang/invoke/VarHandle" ∧ (parseMethodDescriptor y_N_put.desc).map (fun d => d.parameters.length) = some 3 := by decide +kernel
theorem gl_N_put {c0 : Cond} : GoodIn (c0 :: wA) (wsV R_law 31 R_N y_N_put (.code y_N_put b_N_put 5 (some .int) :: wA)) := gw_V (wA_t 452 (by decide +kernel) rfl) (wA_t 453 (by decide +kernel) rfl) (wA_t 454 (by decide +kernel) rfl) (wA_t 1 (by decide +kernel) rfl) (wA_t 455 (by decide +kernel) rfl)
theorem hl_N_delete : y_N_delete.cls = R_N ∧ y_N_delete.cls ≠ "java/lang/invoke/MethodHandle" ∧ y_N_delete.cls ≠ "java/lang/invoke/VarHandle" ∧ (parseMethodDescriptor y_N_delete.desc).map (fun d => d.parameters.length) = some 2 := by decide +kernel
theorem gl_N_delete {c0 : Cond} : GoodIn (c0 :: wA) (wsV R_law 36 R_N y_N_delete (.code y_N_delete b_N_delete 4 (some .int) :: wA)) := gw_V (wA_t 456 (by decide +kernel) rfl) (wA_t 457 (by decide +kernel) rfl) (wA_t 458 (by decide +kernel) rfl) (wA_t 1 (by decide +kernel) rfl) (wA_t 459 (by decide +kernel) rfl)
theorem hl_N_scan : y_N_scan.cls = R_N ∧ y_N_scan.cls ≠ "java/lang/invoke/MethodHandle" ∧ y_N_scan.cls ≠ "java/lang/invoke/VarHandle" ∧ (parseMethodDescriptor y_N_scan.desc).map (fun d => d.parameters.length) = some 3 := by decide +kernel
theorem gl_N_scan {c0 : Cond} : GoodIn (c0 :: wA) (wsV R_law 40 R_N y_N_scan (.code y_N_scan b_N_scan 5 (some .int) :: wA)) := gw_V (wA_t 460 (by decide +kernel) rfl) (wA_t 461 (by decide +kernel) rfl) (wA_t 462 (by decide +kernel) rfl) (wA_t 1 (by decide +kernel) rfl) (wA_t 463 (by decide +kernel) rfl)
theorem hl_N_resume : y_N_resume.cls = R_N ∧ y_N_resume.cls ≠ "java/lang/invoke/MethodHandle" ∧ y_N_resume.cls ≠ "java/lang/invoke/VarHandle" ∧ (parseMethodDescriptor y_N_resume.desc).map (fun d => d.parameters.length) = some 1 := by decide +kernel
theorem gl_N_resume {c0 : Cond} : GoodIn (c0 :: wA) (wsV R_law 44 R_N y_N_resume (.code y_N_resume b_N_resume 2 (some .int) :: wA)) := gw_V (wA_t 464 (by decide +kernel) rfl) (wA_t 465 (by decide +kernel) rfl) (wA_t 466 (by decide +kernel) rfl) (wA_t 1 (by decide +kernel) rfl) (wA_t 467 (by decide +kernel) rfl)
theorem hl_N_value : y_N_value.cls = R_N ∧ y_N_value.cls ≠ "java/lang/invoke/MethodHandle" ∧ y_N_value.cls ≠ "java/lang/invoke/VarHandle" ∧ (parseMethodDescriptor y_N_value.desc).map (fun d => d.parameters.length) = some 0 := by decide +kernel
theorem gl_N_value {c0 : Cond} : GoodIn (c0 :: wA) (wsV R_law 48 R_N y_N_value (.code y_N_value b_N_value 1 (some .int) :: wA)) := gw_V (wA_t 468 (by decide +kernel) rfl) (wA_t 469 (by decide +kernel) rfl) (wA_t 470 (by decide +kernel) rfl) (wA_t 1 (by decide +kernel) rfl) (wA_t 471 (by decide +kernel) rfl)
theorem hl_N_commit : y_N_commit.cls = R_N ∧ y_N_commit.cls ≠ "java/lang/invoke/MethodHandle" ∧ y_N_commit.cls ≠ "java/lang/invoke/VarHandle" ∧ (parseMethodDescriptor y_N_commit.desc).map (fun d => d.parameters.length) = some 1 := by decide +kernel
theorem gl_N_commit {c0 : Cond} : GoodIn (c0 :: wA) (wsV R_law 53 R_N y_N_commit (.code y_N_commit b_N_commit 4 (some .int) :: wA)) := gw_V (wA_t 472 (by decide +kernel) rfl) (wA_t 473 (by decide +kernel) rfl) (wA_t 474 (by decide +kernel) rfl) (wA_t 1 (by decide +kernel) rfl) (wA_t 475 (by decide +kernel) rfl)
theorem hl_N_abort : y_N_abort.cls = R_N ∧ y_N_abort.cls ≠ "java/lang/invoke/MethodHandle" ∧ y_N_abort.cls ≠ "java/lang/invoke/VarHandle" ∧ (parseMethodDescriptor y_N_abort.desc).map (fun d => d.parameters.length) = some 1 := by decide +kernel
theorem gl_N_abort {c0 : Cond} : GoodIn (c0 :: wA) (wsV R_law 57 R_N y_N_abort (.code y_N_abort b_N_abort 2 (some .int) :: wA)) := gw_V (wA_t 481 (by decide +kernel) rfl) (wA_t 482 (by decide +kernel) rfl) (wA_t 483 (by decide +kernel) rfl) (wA_t 1 (by decide +kernel) rfl) (wA_t 484 (by decide +kernel) rfl)
theorem hl_N_save : y_N_save.cls = R_N ∧ y_N_save.cls ≠ "java/lang/invoke/MethodHandle" ∧ y_N_save.cls ≠ "java/lang/invoke/VarHandle" ∧ (parseMethodDescriptor y_N_save.desc).map (fun d => d.parameters.length) = some 1 := by decide +kernel
theorem gl_N_save {c0 : Cond} : GoodIn (c0 :: wA) (wsV R_law 61 R_N y_N_save (.code y_N_save b_N_save 3 (some .int) :: wA)) := gw_V (wA_t 485 (by decide +kernel) rfl) (wA_t 486 (by decide +kernel) rfl) (wA_t 487 (by decide +kernel) rfl) (wA_t 1 (by decide +kernel) rfl) (wA_t 488 (by decide +kernel) rfl)
theorem hl_N_rollback : y_N_rollback.cls = R_N ∧ y_N_rollback.cls ≠ "java/lang/invoke/MethodHandle" ∧ y_N_rollback.cls ≠ "java/lang/invoke/VarHandle" ∧ (parseMethodDescriptor y_N_rollback.desc).map (fun d => d.parameters.length) = some 2 := by decide +kernel
theorem gl_N_rollback {c0 : Cond} : GoodIn (c0 :: wA) (wsV R_law 65 R_N y_N_rollback (.code y_N_rollback b_N_rollback 3 (some .int) :: wA)) := gw_V (wA_t 489 (by decide +kernel) rfl) (wA_t 490 (by decide +kernel) rfl) (wA_t 491 (by decide +kernel) rfl) (wA_t 1 (by decide +kernel) rfl) (wA_t 492 (by decide +kernel) rfl)
theorem hl_N_write : y_N_write.cls = R_N ∧ y_N_write.cls ≠ "java/lang/invoke/MethodHandle" ∧ y_N_write.cls ≠ "java/lang/invoke/VarHandle" ∧ (parseMethodDescriptor y_N_write.desc).map (fun d => d.parameters.length) = some 1 := by decide +kernel
theorem gl_N_write {c0 : Cond} : GoodIn (c0 :: wA) (wsV R_law 69 R_N y_N_write (.code y_N_write b_N_write 2 (some .boolean) :: wA)) := gw_V (wA_t 493 (by decide +kernel) rfl) (wA_t 494 (by decide +kernel) rfl) (wA_t 495 (by decide +kernel) rfl) (wA_t 1 (by decide +kernel) rfl) (wA_t 496 (by decide +kernel) rfl)
theorem hl_N_archive : y_N_archive.cls = R_N ∧ y_N_archive.cls ≠ "java/lang/invoke/MethodHandle" ∧ y_N_archive.cls ≠ "java/lang/invoke/VarHandle" ∧ (parseMethodDescriptor y_N_archive.desc).map (fun d => d.parameters.length) = some 0 := by decide +kernel
theorem gl_N_archive {c0 : Cond} : GoodIn (c0 :: wA) (wsV R_law 74 R_N y_N_archive (.code y_N_archive b_N_archive 3 (some .int) :: wA)) := gw_V (wA_t 501 (by decide +kernel) rfl) (wA_t 502 (by decide +kernel) rfl) (wA_t 503 (by decide +kernel) rfl) (wA_t 1 (by decide +kernel) rfl) (wA_t 504 (by decide +kernel) rfl)
theorem hl_N_crash : y_N_crash.cls = R_N ∧ y_N_crash.cls ≠ "java/lang/invoke/MethodHandle" ∧ y_N_crash.cls ≠ "java/lang/invoke/VarHandle" ∧ (parseMethodDescriptor y_N_crash.desc).map (fun d => d.parameters.length) = some 1 := by decide +kernel
theorem gl_N_crash {c0 : Cond} : GoodIn (c0 :: wA) (wsV R_law 78 R_N y_N_crash (.code y_N_crash b_N_crash 3 (some .int) :: wA)) := gw_V (wA_t 510 (by decide +kernel) rfl) (wA_t 511 (by decide +kernel) rfl) (wA_t 512 (by decide +kernel) rfl) (wA_t 1 (by decide +kernel) rfl) (wA_t 513 (by decide +kernel) rfl)
theorem hl_N_state : y_N_state.cls = R_N ∧ y_N_state.cls ≠ "java/lang/invoke/MethodHandle" ∧ y_N_state.cls ≠ "java/lang/invoke/VarHandle" ∧ (parseMethodDescriptor y_N_state.desc).map (fun d => d.parameters.length) = some 1 := by decide +kernel
theorem gl_N_state {c0 : Cond} : GoodIn (c0 :: wA) (wsV R_law 82 R_N y_N_state (.code y_N_state b_N_state 2 (some .int) :: wA)) := gw_V (wA_t 546 (by decide +kernel) rfl) (wA_t 547 (by decide +kernel) rfl) (wA_t 548 (by decide +kernel) rfl) (wA_t 1 (by decide +kernel) rfl) (wA_t 549 (by decide +kernel) rfl)
theorem hl_N_parent : y_N_parent.cls = R_N ∧ y_N_parent.cls ≠ "java/lang/invoke/MethodHandle" ∧ y_N_parent.cls ≠ "java/lang/invoke/VarHandle" ∧ (parseMethodDescriptor y_N_parent.desc).map (fun d => d.parameters.length) = some 1 := by decide +kernel
theorem gl_N_parent {c0 : Cond} : GoodIn (c0 :: wA) (wsV R_law 86 R_N y_N_parent (.code y_N_parent b_N_parent 2 (some .int) :: wA)) := gw_V (wA_t 551 (by decide +kernel) rfl) (wA_t 552 (by decide +kernel) rfl) (wA_t 553 (by decide +kernel) rfl) (wA_t 1 (by decide +kernel) rfl) (wA_t 554 (by decide +kernel) rfl)
theorem hl_N_lock : y_N_lock.cls = R_N ∧ y_N_lock.cls ≠ "java/lang/invoke/MethodHandle" ∧ y_N_lock.cls ≠ "java/lang/invoke/VarHandle" ∧ (parseMethodDescriptor y_N_lock.desc).map (fun d => d.parameters.length) = some 2 := by decide +kernel
theorem gl_N_lock {c0 : Cond} : GoodIn (c0 :: wA) (wsV R_law 90 R_N y_N_lock (.code y_N_lock b_N_lock 3 (some .int) :: wA)) := gw_V (wA_t 555 (by decide +kernel) rfl) (wA_t 556 (by decide +kernel) rfl) (wA_t 557 (by decide +kernel) rfl) (wA_t 1 (by decide +kernel) rfl) (wA_t 558 (by decide +kernel) rfl)
theorem hl_N_waits : y_N_waits.cls = R_N ∧ y_N_waits.cls ≠ "java/lang/invoke/MethodHandle" ∧ y_N_waits.cls ≠ "java/lang/invoke/VarHandle" ∧ (parseMethodDescriptor y_N_waits.desc).map (fun d => d.parameters.length) = some 2 := by decide +kernel
theorem gl_N_waits {c0 : Cond} : GoodIn (c0 :: wA) (wsV R_law 94 R_N y_N_waits (.code y_N_waits b_N_waits 3 (some .boolean) :: wA)) := gw_V (wA_t 559 (by decide +kernel) rfl) (wA_t 560 (by decide +kernel) rfl) (wA_t 561 (by decide +kernel) rfl) (wA_t 1 (by decide +kernel) rfl) (wA_t 562 (by decide +kernel) rfl)
theorem hl_N_entry : y_N_entry.cls = R_N ∧ y_N_entry.cls ≠ "java/lang/invoke/MethodHandle" ∧ y_N_entry.cls ≠ "java/lang/invoke/VarHandle" ∧ (parseMethodDescriptor y_N_entry.desc).map (fun d => d.parameters.length) = some 2 := by decide +kernel
theorem gl_N_entry {c0 : Cond} : GoodIn (c0 :: wA) (wsV R_law 99 R_N y_N_entry (.code y_N_entry b_N_entry 4 (some .int) :: wA)) := gw_V (wA_t 563 (by decide +kernel) rfl) (wA_t 564 (by decide +kernel) rfl) (wA_t 565 (by decide +kernel) rfl) (wA_t 1 (by decide +kernel) rfl) (wA_t 566 (by decide +kernel) rfl)
theorem hl_N_log : y_N_log.cls = R_N ∧ y_N_log.cls ≠ "java/lang/invoke/MethodHandle" ∧ y_N_log.cls ≠ "java/lang/invoke/VarHandle" ∧ (parseMethodDescriptor y_N_log.desc).map (fun d => d.parameters.length) = some 1 := by decide +kernel
theorem gl_N_log {c0 : Cond} : GoodIn (c0 :: wA) (wsV R_law 103 R_N y_N_log (.code y_N_log b_N_log 2 (some .int) :: wA)) := gw_V (wA_t 568 (by decide +kernel) rfl) (wA_t 569 (by decide +kernel) rfl) (wA_t 570 (by decide +kernel) rfl) (wA_t 1 (by decide +kernel) rfl) (wA_t 571 (by decide +kernel) rfl)
theorem hl_N_key : y_N_key.cls = R_N ∧ y_N_key.cls ≠ "java/lang/invoke/MethodHandle" ∧ y_N_key.cls ≠ "java/lang/invoke/VarHandle" ∧ (parseMethodDescriptor y_N_key.desc).map (fun d => d.parameters.length) = some 2 := by decide +kernel
theorem gl_N_key {c0 : Cond} : GoodIn (c0 :: wA) (wsV R_law 107 R_N y_N_key (.code y_N_key b_N_key 3 (some .int) :: wA)) := gw_V (wA_t 572 (by decide +kernel) rfl) (wA_t 573 (by decide +kernel) rfl) (wA_t 574 (by decide +kernel) rfl) (wA_t 1 (by decide +kernel) rfl) (wA_t 575 (by decide +kernel) rfl)
theorem hl_N_frame : y_N_frame.cls = R_N ∧ y_N_frame.cls ≠ "java/lang/invoke/MethodHandle" ∧ y_N_frame.cls ≠ "java/lang/invoke/VarHandle" ∧ (parseMethodDescriptor y_N_frame.desc).map (fun d => d.parameters.length) = some 1 := by decide +kernel
theorem gl_N_frame {c0 : Cond} : GoodIn (c0 :: wA) (wsV R_law 111 R_N y_N_frame (.code y_N_frame b_N_frame 3 (some .int) :: wA)) := gw_V (wA_t 576 (by decide +kernel) rfl) (wA_t 577 (by decide +kernel) rfl) (wA_t 578 (by decide +kernel) rfl) (wA_t 1 (by decide +kernel) rfl) (wA_t 579 (by decide +kernel) rfl)
theorem hl_N_page : y_N_page.cls = R_N ∧ y_N_page.cls ≠ "java/lang/invoke/MethodHandle" ∧ y_N_page.cls ≠ "java/lang/invoke/VarHandle" ∧ (parseMethodDescriptor y_N_page.desc).map (fun d => d.parameters.length) = some 1 := by decide +kernel
theorem gl_N_page {c0 : Cond} : GoodIn (c0 :: wA) (wsV R_law 115 R_N y_N_page (.code y_N_page b_N_page 2 (some .int) :: wA)) := gw_V (wA_t 580 (by decide +kernel) rfl) (wA_t 581 (by decide +kernel) rfl) (wA_t 582 (by decide +kernel) rfl) (wA_t 1 (by decide +kernel) rfl) (wA_t 583 (by decide +kernel) rfl)
theorem hl_M_begin : y_M_begin.cls = R_M ∧ y_M_begin.cls ≠ "java/lang/invoke/MethodHandle" ∧ y_M_begin.cls ≠ "java/lang/invoke/VarHandle" ∧ (parseMethodDescriptor y_M_begin.desc).map (fun d => d.parameters.length) = some 1 := by decide +kernel
theorem gl_M_begin {c0 : Cond} : GoodIn (c0 :: wA) (wsV R_law 25 R_M y_M_begin (.code y_M_begin b_M_begin 3 (some .int) :: wA)) := gw_V (wA_t 711 (by decide +kernel) rfl) (wA_t 712 (by decide +kernel) rfl) (wA_t 713 (by decide +kernel) rfl) (wA_t 9 (by decide +kernel) rfl) (wA_t 714 (by decide +kernel) rfl)
theorem hl_M_get : y_M_get.cls = R_M ∧ y_M_get.cls ≠ "java/lang/invoke/MethodHandle" ∧ y_M_get.cls ≠ "java/lang/invoke/VarHandle" ∧ (parseMethodDescriptor y_M_get.desc).map (fun d => d.parameters.length) = some 2 := by decide +kernel
theorem gl_M_get {c0 : Cond} : GoodIn (c0 :: wA) (wsV R_law 30 R_M y_M_get (.code y_M_get b_M_get 3 (some .int) :: wA)) := gw_V (wA_t 763 (by decide +kernel) rfl) (wA_t 764 (by decide +kernel) rfl) (wA_t 765 (by decide +kernel) rfl) (wA_t 9 (by decide +kernel) rfl) (wA_t 766 (by decide +kernel) rfl)
theorem hl_M_put : y_M_put.cls = R_M ∧ y_M_put.cls ≠ "java/lang/invoke/MethodHandle" ∧ y_M_put.cls ≠ "java/lang/invoke/VarHandle" ∧ (parseMethodDescriptor y_M_put.desc).map (fun d => d.parameters.length) = some 3 := by decide +kernel
theorem gl_M_put {c0 : Cond} : GoodIn (c0 :: wA) (wsV R_law 35 R_M y_M_put (.code y_M_put b_M_put 4 (some .int) :: wA)) := gw_V (wA_t 866 (by decide +kernel) rfl) (wA_t 867 (by decide +kernel) rfl) (wA_t 868 (by decide +kernel) rfl) (wA_t 9 (by decide +kernel) rfl) (wA_t 869 (by decide +kernel) rfl)
theorem hl_M_delete : y_M_delete.cls = R_M ∧ y_M_delete.cls ≠ "java/lang/invoke/MethodHandle" ∧ y_M_delete.cls ≠ "java/lang/invoke/VarHandle" ∧ (parseMethodDescriptor y_M_delete.desc).map (fun d => d.parameters.length) = some 2 := by decide +kernel
theorem gl_M_delete {c0 : Cond} : GoodIn (c0 :: wA) (wsV R_law 39 R_M y_M_delete (.code y_M_delete b_M_delete 3 (some .int) :: wA)) := gw_V (wA_t 870 (by decide +kernel) rfl) (wA_t 871 (by decide +kernel) rfl) (wA_t 872 (by decide +kernel) rfl) (wA_t 9 (by decide +kernel) rfl) (wA_t 873 (by decide +kernel) rfl)
theorem hl_M_scan : y_M_scan.cls = R_M ∧ y_M_scan.cls ≠ "java/lang/invoke/MethodHandle" ∧ y_M_scan.cls ≠ "java/lang/invoke/VarHandle" ∧ (parseMethodDescriptor y_M_scan.desc).map (fun d => d.parameters.length) = some 3 := by decide +kernel
theorem gl_M_scan {c0 : Cond} : GoodIn (c0 :: wA) (wsV R_law 43 R_M y_M_scan (.code y_M_scan b_M_scan 4 (some .int) :: wA)) := gw_V (wA_t 874 (by decide +kernel) rfl) (wA_t 875 (by decide +kernel) rfl) (wA_t 876 (by decide +kernel) rfl) (wA_t 9 (by decide +kernel) rfl) (wA_t 877 (by decide +kernel) rfl)
theorem hl_M_resume : y_M_resume.cls = R_M ∧ y_M_resume.cls ≠ "java/lang/invoke/MethodHandle" ∧ y_M_resume.cls ≠ "java/lang/invoke/VarHandle" ∧ (parseMethodDescriptor y_M_resume.desc).map (fun d => d.parameters.length) = some 1 := by decide +kernel
theorem gl_M_resume {c0 : Cond} : GoodIn (c0 :: wA) (wsV R_law 47 R_M y_M_resume (.code y_M_resume b_M_resume 2 (some .int) :: wA)) := gw_V (wA_t 878 (by decide +kernel) rfl) (wA_t 879 (by decide +kernel) rfl) (wA_t 880 (by decide +kernel) rfl) (wA_t 9 (by decide +kernel) rfl) (wA_t 881 (by decide +kernel) rfl)
theorem hl_M_value : y_M_value.cls = R_M ∧ y_M_value.cls ≠ "java/lang/invoke/MethodHandle" ∧ y_M_value.cls ≠ "java/lang/invoke/VarHandle" ∧ (parseMethodDescriptor y_M_value.desc).map (fun d => d.parameters.length) = some 0 := by decide +kernel
theorem gl_M_value {c0 : Cond} : GoodIn (c0 :: wA) (wsV R_law 52 R_M y_M_value (.code y_M_value b_M_value 1 (some .int) :: wA)) := gw_V (wA_t 882 (by decide +kernel) rfl) (wA_t 883 (by decide +kernel) rfl) (wA_t 884 (by decide +kernel) rfl) (wA_t 9 (by decide +kernel) rfl) (wA_t 885 (by decide +kernel) rfl)
theorem hl_M_commit : y_M_commit.cls = R_M ∧ y_M_commit.cls ≠ "java/lang/invoke/MethodHandle" ∧ y_M_commit.cls ≠ "java/lang/invoke/VarHandle" ∧ (parseMethodDescriptor y_M_commit.desc).map (fun d => d.parameters.length) = some 1 := by decide +kernel
theorem gl_M_commit {c0 : Cond} : GoodIn (c0 :: wA) (wsV R_law 56 R_M y_M_commit (.code y_M_commit b_M_commit 6 (some .int) :: wA)) := gw_V (wA_t 886 (by decide +kernel) rfl) (wA_t 887 (by decide +kernel) rfl) (wA_t 888 (by decide +kernel) rfl) (wA_t 9 (by decide +kernel) rfl) (wA_t 889 (by decide +kernel) rfl)
theorem hl_M_abort : y_M_abort.cls = R_M ∧ y_M_abort.cls ≠ "java/lang/invoke/MethodHandle" ∧ y_M_abort.cls ≠ "java/lang/invoke/VarHandle" ∧ (parseMethodDescriptor y_M_abort.desc).map (fun d => d.parameters.length) = some 1 := by decide +kernel
theorem gl_M_abort {c0 : Cond} : GoodIn (c0 :: wA) (wsV R_law 60 R_M y_M_abort (.code y_M_abort b_M_abort 2 (some .int) :: wA)) := gw_V (wA_t 890 (by decide +kernel) rfl) (wA_t 891 (by decide +kernel) rfl) (wA_t 892 (by decide +kernel) rfl) (wA_t 9 (by decide +kernel) rfl) (wA_t 893 (by decide +kernel) rfl)
theorem hl_M_save : y_M_save.cls = R_M ∧ y_M_save.cls ≠ "java/lang/invoke/MethodHandle" ∧ y_M_save.cls ≠ "java/lang/invoke/VarHandle" ∧ (parseMethodDescriptor y_M_save.desc).map (fun d => d.parameters.length) = some 1 := by decide +kernel
theorem gl_M_save {c0 : Cond} : GoodIn (c0 :: wA) (wsV R_law 64 R_M y_M_save (.code y_M_save b_M_save 2 (some .int) :: wA)) := gw_V (wA_t 894 (by decide +kernel) rfl) (wA_t 895 (by decide +kernel) rfl) (wA_t 896 (by decide +kernel) rfl) (wA_t 9 (by decide +kernel) rfl) (wA_t 897 (by decide +kernel) rfl)
theorem hl_M_rollback : y_M_rollback.cls = R_M ∧ y_M_rollback.cls ≠ "java/lang/invoke/MethodHandle" ∧ y_M_rollback.cls ≠ "java/lang/invoke/VarHandle" ∧ (parseMethodDescriptor y_M_rollback.desc).map (fun d => d.parameters.length) = some 2 := by decide +kernel
theorem gl_M_rollback {c0 : Cond} : GoodIn (c0 :: wA) (wsV R_law 68 R_M y_M_rollback (.code y_M_rollback b_M_rollback 3 (some .int) :: wA)) := gw_V (wA_t 898 (by decide +kernel) rfl) (wA_t 899 (by decide +kernel) rfl) (wA_t 900 (by decide +kernel) rfl) (wA_t 9 (by decide +kernel) rfl) (wA_t 901 (by decide +kernel) rfl)
theorem hl_M_write : y_M_write.cls = R_M ∧ y_M_write.cls ≠ "java/lang/invoke/MethodHandle" ∧ y_M_write.cls ≠ "java/lang/invoke/VarHandle" ∧ (parseMethodDescriptor y_M_write.desc).map (fun d => d.parameters.length) = some 1 := by decide +kernel
theorem gl_M_write {c0 : Cond} : GoodIn (c0 :: wA) (wsV R_law 73 R_M y_M_write (.code y_M_write b_M_write 2 (some .boolean) :: wA)) := gw_V (wA_t 902 (by decide +kernel) rfl) (wA_t 903 (by decide +kernel) rfl) (wA_t 904 (by decide +kernel) rfl) (wA_t 9 (by decide +kernel) rfl) (wA_t 905 (by decide +kernel) rfl)
theorem hl_M_archive : y_M_archive.cls = R_M ∧ y_M_archive.cls ≠ "java/lang/invoke/MethodHandle" ∧ y_M_archive.cls ≠ "java/lang/invoke/VarHandle" ∧ (parseMethodDescriptor y_M_archive.desc).map (fun d => d.parameters.length) = some 0 := by decide +kernel
theorem gl_M_archive {c0 : Cond} : GoodIn (c0 :: wA) (wsV R_law 77 R_M y_M_archive (.code y_M_archive b_M_archive 3 (some .int) :: wA)) := gw_V (wA_t 909 (by decide +kernel) rfl) (wA_t 910 (by decide +kernel) rfl) (wA_t 911 (by decide +kernel) rfl) (wA_t 9 (by decide +kernel) rfl) (wA_t 912 (by decide +kernel) rfl)
theorem hl_M_crash : y_M_crash.cls = R_M ∧ y_M_crash.cls ≠ "java/lang/invoke/MethodHandle" ∧ y_M_crash.cls ≠ "java/lang/invoke/VarHandle" ∧ (parseMethodDescriptor y_M_crash.desc).map (fun d => d.parameters.length) = some 1 := by decide +kernel
theorem gl_M_crash {c0 : Cond} : GoodIn (c0 :: wA) (wsV R_law 81 R_M y_M_crash (.code y_M_crash b_M_crash 5 (some .int) :: wA)) := gw_V (wA_t 914 (by decide +kernel) rfl) (wA_t 915 (by decide +kernel) rfl) (wA_t 916 (by decide +kernel) rfl) (wA_t 9 (by decide +kernel) rfl) (wA_t 917 (by decide +kernel) rfl)
theorem hl_M_state : y_M_state.cls = R_M ∧ y_M_state.cls ≠ "java/lang/invoke/MethodHandle" ∧ y_M_state.cls ≠ "java/lang/invoke/VarHandle" ∧ (parseMethodDescriptor y_M_state.desc).map (fun d => d.parameters.length) = some 1 := by decide +kernel
theorem gl_M_state {c0 : Cond} : GoodIn (c0 :: wA) (wsV R_law 85 R_M y_M_state (.code y_M_state b_M_state 2 (some .int) :: wA)) := gw_V (wA_t 922 (by decide +kernel) rfl) (wA_t 923 (by decide +kernel) rfl) (wA_t 924 (by decide +kernel) rfl) (wA_t 9 (by decide +kernel) rfl) (wA_t 925 (by decide +kernel) rfl)
theorem hl_M_parent : y_M_parent.cls = R_M ∧ y_M_parent.cls ≠ "java/lang/invoke/MethodHandle" ∧ y_M_parent.cls ≠ "java/lang/invoke/VarHandle" ∧ (parseMethodDescriptor y_M_parent.desc).map (fun d => d.parameters.length) = some 1 := by decide +kernel
theorem gl_M_parent {c0 : Cond} : GoodIn (c0 :: wA) (wsV R_law 89 R_M y_M_parent (.code y_M_parent b_M_parent 2 (some .int) :: wA)) := gw_V (wA_t 926 (by decide +kernel) rfl) (wA_t 927 (by decide +kernel) rfl) (wA_t 928 (by decide +kernel) rfl) (wA_t 9 (by decide +kernel) rfl) (wA_t 929 (by decide +kernel) rfl)
theorem hl_M_lock : y_M_lock.cls = R_M ∧ y_M_lock.cls ≠ "java/lang/invoke/MethodHandle" ∧ y_M_lock.cls ≠ "java/lang/invoke/VarHandle" ∧ (parseMethodDescriptor y_M_lock.desc).map (fun d => d.parameters.length) = some 2 := by decide +kernel
theorem gl_M_lock {c0 : Cond} : GoodIn (c0 :: wA) (wsV R_law 93 R_M y_M_lock (.code y_M_lock b_M_lock 3 (some .int) :: wA)) := gw_V (wA_t 930 (by decide +kernel) rfl) (wA_t 931 (by decide +kernel) rfl) (wA_t 932 (by decide +kernel) rfl) (wA_t 9 (by decide +kernel) rfl) (wA_t 933 (by decide +kernel) rfl)
theorem hl_M_waits : y_M_waits.cls = R_M ∧ y_M_waits.cls ≠ "java/lang/invoke/MethodHandle" ∧ y_M_waits.cls ≠ "java/lang/invoke/VarHandle" ∧ (parseMethodDescriptor y_M_waits.desc).map (fun d => d.parameters.length) = some 2 := by decide +kernel
theorem gl_M_waits {c0 : Cond} : GoodIn (c0 :: wA) (wsV R_law 98 R_M y_M_waits (.code y_M_waits b_M_waits 3 (some .boolean) :: wA)) := gw_V (wA_t 934 (by decide +kernel) rfl) (wA_t 935 (by decide +kernel) rfl) (wA_t 936 (by decide +kernel) rfl) (wA_t 9 (by decide +kernel) rfl) (wA_t 937 (by decide +kernel) rfl)
theorem hl_M_entry : y_M_entry.cls = R_M ∧ y_M_entry.cls ≠ "java/lang/invoke/MethodHandle" ∧ y_M_entry.cls ≠ "java/lang/invoke/VarHandle" ∧ (parseMethodDescriptor y_M_entry.desc).map (fun d => d.parameters.length) = some 2 := by decide +kernel
theorem gl_M_entry {c0 : Cond} : GoodIn (c0 :: wA) (wsV R_law 102 R_M y_M_entry (.code y_M_entry b_M_entry 4 (some .int) :: wA)) := gw_V (wA_t 938 (by decide +kernel) rfl) (wA_t 939 (by decide +kernel) rfl) (wA_t 940 (by decide +kernel) rfl) (wA_t 9 (by decide +kernel) rfl) (wA_t 941 (by decide +kernel) rfl)
theorem hl_M_log : y_M_log.cls = R_M ∧ y_M_log.cls ≠ "java/lang/invoke/MethodHandle" ∧ y_M_log.cls ≠ "java/lang/invoke/VarHandle" ∧ (parseMethodDescriptor y_M_log.desc).map (fun d => d.parameters.length) = some 1 := by decide +kernel
theorem gl_M_log {c0 : Cond} : GoodIn (c0 :: wA) (wsV R_law 106 R_M y_M_log (.code y_M_log b_M_log 2 (some .int) :: wA)) := gw_V (wA_t 942 (by decide +kernel) rfl) (wA_t 943 (by decide +kernel) rfl) (wA_t 944 (by decide +kernel) rfl) (wA_t 9 (by decide +kernel) rfl) (wA_t 945 (by decide +kernel) rfl)
theorem hl_M_key : y_M_key.cls = R_M ∧ y_M_key.cls ≠ "java/lang/invoke/MethodHandle" ∧ y_M_key.cls ≠ "java/lang/invoke/VarHandle" ∧ (parseMethodDescriptor y_M_key.desc).map (fun d => d.parameters.length) = some 2 := by decide +kernel
theorem gl_M_key {c0 : Cond} : GoodIn (c0 :: wA) (wsV R_law 110 R_M y_M_key (.code y_M_key b_M_key 3 (some .int) :: wA)) := gw_V (wA_t 946 (by decide +kernel) rfl) (wA_t 947 (by decide +kernel) rfl) (wA_t 948 (by decide +kernel) rfl) (wA_t 9 (by decide +kernel) rfl) (wA_t 949 (by decide +kernel) rfl)
theorem hl_M_frame : y_M_frame.cls = R_M ∧ y_M_frame.cls ≠ "java/lang/invoke/MethodHandle" ∧ y_M_frame.cls ≠ "java/lang/invoke/VarHandle" ∧ (parseMethodDescriptor y_M_frame.desc).map (fun d => d.parameters.length) = some 1 := by decide +kernel
theorem gl_M_frame {c0 : Cond} : GoodIn (c0 :: wA) (wsV R_law 114 R_M y_M_frame (.code y_M_frame b_M_frame 5 (some .int) :: wA)) := gw_V (wA_t 950 (by decide +kernel) rfl) (wA_t 951 (by decide +kernel) rfl) (wA_t 952 (by decide +kernel) rfl) (wA_t 9 (by decide +kernel) rfl) (wA_t 953 (by decide +kernel) rfl)
theorem hl_M_page : y_M_page.cls = R_M ∧ y_M_page.cls ≠ "java/lang/invoke/MethodHandle" ∧ y_M_page.cls ≠ "java/lang/invoke/VarHandle" ∧ (parseMethodDescriptor y_M_page.desc).map (fun d => d.parameters.length) = some 1 := by decide +kernel
theorem gl_M_page {c0 : Cond} : GoodIn (c0 :: wA) (wsV R_law 118 R_M y_M_page (.code y_M_page b_M_page 2 (some .int) :: wA)) := gw_V (wA_t 954 (by decide +kernel) rfl) (wA_t 955 (by decide +kernel) rfl) (wA_t 956 (by decide +kernel) rfl) (wA_t 9 (by decide +kernel) rfl) (wA_t 957 (by decide +kernel) rfl)
section LAWROWS
variable {p : Program} {l : Launch} {e : Env} {R : Room} {s : State} {m : MethodId} {args : Array Value} {below : List Frame} {meth : Method} {c : Code} {H : Heap} {locs : List Loc} {cells slots : Nat} {Q : State → Prop} {cc : ByteArray} {pc nL : Nat} {ls : Array Slot} {rest : List Value} {D : va_G} {cl : List vw_C} {tys : List (ClassId × FieldType)} {Af A0 : Nat → Prop} {H0 : Heap} {own C : String} {y : MethodName} {bytes : ByteArray} {maxL index n : Nat} {ret : Option FieldType} {Ts wsY : List Cond} {rm : Room} {b : Nat} {As : List Value} {w0 wr : va_W}
/-- a call on one of two worlds: the other stays -/
theorem ncl_i {S : Type} {post : Int32 → S → Prop} {w1 : S → va_W}
    (hM : Met l y wsY rm (va_Pc (.ref b :: As) (fun U => va_P D cl w0 U.heap ∧ va_K D cl tys U)) (va_Qi post (fun u t => va_P D cl (w1 u) t.heap) Af) 0 0 Af)
    (cw : CallW R s args own C index y bytes maxL ret wsY rm 0 0 n)
    (hx : p.tables.exec = Jvm.exec) (hb : c.code = cc) (hml : c.maxLocals = nL) (hown : s.vm.findClass own = some m.cls) (hts : ∀ w ∈ Ts, w.before args s = true)
    (hK : va_K D cl tys s) (hP : va_P D cl w0 H) (hPr : va_P D cl wr H) (hdis : ∀ (k : Nat) (x : Nat × va_E), wr[k]? = some x → ¬ Af x.1) (hAf : ∀ q, Af q → A0 q) (hS : va_S A0 H0 H locs) (hsz : ls.size = nL) (hdg : decode cc pc = .ok (.invokevirtual index, 3))
    (hrecv : ∃ cell : Cell, H[b]? = some cell ∧ cell.vm.isStatics = false ∧ s.vm.findClass C = some cell.cls) (hn : As.length = n)
    (hroom : 2 * (F0 m pc ls (As.reverse ++ .ref b :: rest)).monitorRoom + (rest.map fun v => v.category).sum ≤ 8) (hc : cells ≤ R.cells) (hs : slots ≤ R.slots) {st : List Value} (hst : st = As.reverse ++ .ref b :: rest)
    (kk : ∀ (r : Int32) (u : S) (H1 : Heap) (locs1 : List Loc), post r u → va_P D cl (w1 u) H1 → va_P D cl wr H1 → va_S A0 H0 H1 locs1 → W p l e R s m args below meth c H1 locs1 cells slots Q (F0 m (pc + 3) ls (.int r :: rest))) :
    W p l e R s m args below meth c H locs cells slots Q (F0 m pc ls st) := by
  subst hst
  refine va_calli (va_runV (As := As) (rest := rest) ⟨hx, hb, hml, hown, hts⟩ hM cw ⟨fun a U g mk q => ?_, hrecv, fun U hU hW => ⟨rfl, ?_, va_K.moved hW.alike hK⟩⟩ rfl hn hsz rfl hroom hdg ⟨hc, hs⟩) hS (fun q _ h => hAf q h) hAf (fun r u t H1 locs1 ht hvm hp hB _ hk hS1 => ?_)
  · obtain ⟨q0, qP, qK⟩ := q
    exact ⟨q0, qP, va_K.moved (u := U) (U := U.calling g mk a) (Vm.Alike.refl U.vm) qK⟩
  · rw [hU]; exact hP
  · exact kk r u H1 locs1 hp (ht ▸ hB) (hPr.kept (fun k x hx => hk x.1 ((hPr k x hx).lt) (hdis k x hx))) hS1
theorem arr_known {ty : FieldType} (hty : ty = .int ∨ ty = .long ∨ ty = .boolean) (h : (Cond.arrayClass ty).before args s = true) : ∃ cA, ArrOfT s cA ty ∧ va_RA s cA ty := by
  obtain ⟨cA, kA, comp, h1, h2, h3⟩ := Cond.arrayClass_spec h
  refine ⟨cA, fun n z => ⟨fun k h => (by cases h), kA, h2, comp, h3⟩, ?_⟩
  rcases hty with rfl | rfl | rfl
  · exact h1
  · exact h1
  · exact h1
end LAWROWS
theorem wN_at {cI cL cZ : ClassId} {q : Nat → Nat} {A : S_A} {D : S_D} {G : S_G} {K : S_K} {N : S_N} {P : S_P} {T : S_T} {k : Nat} {x : Nat × va_E} (h : (wN cI cL cZ q A D G K N P T)[k]? = some x) : k < nN ∧ x.1 = q k := by
  have hm : (wN cI cL cZ q A D G K N P T).map (fun x => x.1) = (List.range nN).map q := rfl
  have h1 : ((wN cI cL cZ q A D G K N P T).map (fun x => x.1))[k]? = some x.1 := by rw [List.getElem?_map, h]; rfl
  rw [hm, List.getElem?_map] at h1
  cases hk : (List.range nN)[k]? with
  | none => rw [hk] at h1; cases h1
  | some z =>
    rw [hk] at h1
    obtain ⟨hl1, hl2⟩ := (List.getElem?_eq_some_iff.mp hk)
    rw [List.getElem_range] at hl2
    rw [List.length_range] at hl1
    subst hl2
    exact ⟨hl1, (Option.some.inj h1).symm⟩
theorem wM_at {cI cL cZ : ClassId} {q : Nat → Nat} {MA : S_MA} {MD : S_MD} {MF : S_MF} {MG : S_MG} {ML : S_ML} {MN : S_MN} {MP : S_MP} {MT : S_MT} {MV : S_MV} {k : Nat} {x : Nat × va_E} (h : (wM cI cL cZ q MA MD MF MG ML MN MP MT MV)[k]? = some x) : k < nM ∧ x.1 = q k := by
  have hm : (wM cI cL cZ q MA MD MF MG ML MN MP MT MV).map (fun x => x.1) = (List.range nM).map q := rfl
  have h1 : ((wM cI cL cZ q MA MD MF MG ML MN MP MT MV).map (fun x => x.1))[k]? = some x.1 := by rw [List.getElem?_map, h]; rfl
  rw [hm, List.getElem?_map] at h1
  cases hk : (List.range nM)[k]? with
  | none => rw [hk] at h1; cases h1
  | some z =>
    rw [hk] at h1
    obtain ⟨hl1, hl2⟩ := (List.getElem?_eq_some_iff.mp hk)
    rw [List.getElem_range] at hl2
    rw [List.length_range] at hl1
    subst hl2
    exact ⟨hl1, (Option.some.inj h1).symm⟩
theorem iM_of {A' : Nat → Prop} {cI cL cZ : ClassId} {q : Nat → Nat} {MA : S_MA} {MD : S_MD} {MF : S_MF} {MG : S_MG} {ML : S_ML} {MN : S_MN} {MP : S_MP} {MT : S_MT} {MV : S_MV} (h : va_D A' (wM cI cL cZ q MA MD MF MG ML MN MP MT MV)) : iM q ∧ ∀ k, k < nM → A' (q k) := by
  have hm : (wM cI cL cZ q MA MD MF MG ML MN MP MT MV).map (fun x => x.1) = (List.range nM).map q := rfl
  have key : ∀ k, k < nM → ∃ e, (wM cI cL cZ q MA MD MF MG ML MN MP MT MV)[k]? = some (q k, e) := by
    intro k hk
    have h1 : ((wM cI cL cZ q MA MD MF MG ML MN MP MT MV).map (fun x => x.1))[k]? = some (q k) := by
      rw [hm, List.getElem?_map, List.getElem?_range hk]
      rfl
    rw [List.getElem?_map] at h1
    cases z : (wM cI cL cZ q MA MD MF MG ML MN MP MT MV)[k]? with
    | none => rw [z] at h1; cases h1
    | some x =>
      rw [z] at h1
      obtain ⟨x1, x2⟩ := x
      have h1 : x1 = q k := Option.some.inj h1
      exact ⟨x2, by rw [h1]⟩
  refine ⟨fun i j hi hj e => ?_, fun k hk => ?_⟩
  · obtain ⟨e1, h1⟩ := key i hi
    obtain ⟨e2, h2⟩ := key j hj
    exact h.1 i j _ _ h1 h2 e
  · obtain ⟨e1, h1⟩ := key k hk
    exact h.2 k _ h1
