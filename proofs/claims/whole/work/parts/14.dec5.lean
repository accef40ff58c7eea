theorem d_law_0 : decode M_law.2.1 0 = .ok (.new 7, 3) := by decide +kernel
theorem d_law_3 : decode M_law.2.1 3 = .ok (.dup, 1) := by decide +kernel
theorem d_law_4 : decode M_law.2.1 4 = .ok (.invokespecial 9, 3) := by decide +kernel
theorem d_law_7 : decode M_law.2.1 7 = .ok (.astore_n 1, 1) := by decide +kernel
theorem d_law_8 : decode M_law.2.1 8 = .ok (.new 10, 3) := by decide +kernel
theorem d_law_11 : decode M_law.2.1 11 = .ok (.dup, 1) := by decide +kernel
theorem d_law_12 : decode M_law.2.1 12 = .ok (.invokespecial 12, 3) := by decide +kernel
theorem d_law_15 : decode M_law.2.1 15 = .ok (.astore_n 2, 1) := by decide +kernel
theorem d_law_16 : decode M_law.2.1 16 = .ok (.iconst 0, 1) := by decide +kernel
theorem d_law_17 : decode M_law.2.1 17 = .ok (.istore_n 3, 1) := by decide +kernel
theorem d_law_18 : decode M_law.2.1 18 = .ok (.iload_n 3, 1) := by decide +kernel
theorem d_law_19 : decode M_law.2.1 19 = .ok (.aload_n 0, 1) := by decide +kernel
theorem d_law_20 : decode M_law.2.1 20 = .ok (.arraylength, 1) := by decide +kernel
theorem d_law_21 : decode M_law.2.1 21 = .ok (.bipush 6, 2) := by decide +kernel
theorem d_law_23 : decode M_law.2.1 23 = .ok (.isub, 1) := by decide +kernel
theorem d_law_24 : decode M_law.2.1 24 = .ok (.if_icmp .gt 1023, 3) := by decide +kernel
theorem d_law_27 : decode M_law.2.1 27 = .ok (.aload_n 0, 1) := by decide +kernel
theorem d_law_28 : decode M_law.2.1 28 = .ok (.iload_n 3, 1) := by decide +kernel
theorem d_law_29 : decode M_law.2.1 29 = .ok (.iaload, 1) := by decide +kernel
theorem d_law_30 : decode M_law.2.1 30 = .ok (.bipush 31, 2) := by decide +kernel
theorem d_law_32 : decode M_law.2.1 32 = .ok (.iand, 1) := by decide +kernel
theorem d_law_33 : decode M_law.2.1 33 = .ok (.tableswitch 1008 0 30 #[139, 202, 225, 238, 251, 284, 317, 340, 363, 396, 445, 478, 511, 524, 547, 560, 583, 606, 639, 672, 695, 718, 751, 774, 817, 850, 883, 896, 939, 962, 985], 139) := by decide +kernel
theorem d_law_172 : decode M_law.2.1 172 = .ok (.aload_n 1, 1) := by decide +kernel
theorem d_law_173 : decode M_law.2.1 173 = .ok (.aload_n 0, 1) := by decide +kernel
theorem d_law_174 : decode M_law.2.1 174 = .ok (.iload_n 3, 1) := by decide +kernel
theorem d_law_175 : decode M_law.2.1 175 = .ok (.iconst 1, 1) := by decide +kernel
theorem d_law_176 : decode M_law.2.1 176 = .ok (.iadd, 1) := by decide +kernel
theorem d_law_177 : decode M_law.2.1 177 = .ok (.iaload, 1) := by decide +kernel
theorem d_law_178 : decode M_law.2.1 178 = .ok (.aload_n 0, 1) := by decide +kernel
theorem d_law_179 : decode M_law.2.1 179 = .ok (.iload_n 3, 1) := by decide +kernel
theorem d_law_180 : decode M_law.2.1 180 = .ok (.iconst 2, 1) := by decide +kernel
theorem d_law_181 : decode M_law.2.1 181 = .ok (.iadd, 1) := by decide +kernel
theorem d_law_182 : decode M_law.2.1 182 = .ok (.iaload, 1) := by decide +kernel
theorem d_law_183 : decode M_law.2.1 183 = .ok (.aload_n 0, 1) := by decide +kernel
theorem d_law_184 : decode M_law.2.1 184 = .ok (.iload_n 3, 1) := by decide +kernel
theorem d_law_185 : decode M_law.2.1 185 = .ok (.iconst 3, 1) := by decide +kernel
theorem d_law_186 : decode M_law.2.1 186 = .ok (.iadd, 1) := by decide +kernel
theorem d_law_187 : decode M_law.2.1 187 = .ok (.iaload, 1) := by decide +kernel
theorem d_law_188 : decode M_law.2.1 188 = .ok (.aload_n 0, 1) := by decide +kernel
theorem d_law_189 : decode M_law.2.1 189 = .ok (.iload_n 3, 1) := by decide +kernel
theorem d_law_190 : decode M_law.2.1 190 = .ok (.iconst 4, 1) := by decide +kernel
theorem d_law_191 : decode M_law.2.1 191 = .ok (.iadd, 1) := by decide +kernel
theorem d_law_192 : decode M_law.2.1 192 = .ok (.iaload, 1) := by decide +kernel
theorem d_law_193 : decode M_law.2.1 193 = .ok (.aload_n 0, 1) := by decide +kernel
theorem d_law_194 : decode M_law.2.1 194 = .ok (.iload_n 3, 1) := by decide +kernel
theorem d_law_195 : decode M_law.2.1 195 = .ok (.iconst 5, 1) := by decide +kernel
theorem d_law_196 : decode M_law.2.1 196 = .ok (.iadd, 1) := by decide +kernel
theorem d_law_197 : decode M_law.2.1 197 = .ok (.iaload, 1) := by decide +kernel
theorem d_law_198 : decode M_law.2.1 198 = .ok (.invokevirtual 13, 3) := by decide +kernel
theorem d_law_201 : decode M_law.2.1 201 = .ok (.aload_n 2, 1) := by decide +kernel
theorem d_law_202 : decode M_law.2.1 202 = .ok (.aload_n 0, 1) := by decide +kernel
theorem d_law_203 : decode M_law.2.1 203 = .ok (.iload_n 3, 1) := by decide +kernel
theorem d_law_204 : decode M_law.2.1 204 = .ok (.iconst 1, 1) := by decide +kernel
theorem d_law_205 : decode M_law.2.1 205 = .ok (.iadd, 1) := by decide +kernel
theorem d_law_206 : decode M_law.2.1 206 = .ok (.iaload, 1) := by decide +kernel
theorem d_law_207 : decode M_law.2.1 207 = .ok (.aload_n 0, 1) := by decide +kernel
theorem d_law_208 : decode M_law.2.1 208 = .ok (.iload_n 3, 1) := by decide +kernel
theorem d_law_209 : decode M_law.2.1 209 = .ok (.iconst 2, 1) := by decide +kernel
theorem d_law_210 : decode M_law.2.1 210 = .ok (.iadd, 1) := by decide +kernel
theorem d_law_211 : decode M_law.2.1 211 = .ok (.iaload, 1) := by decide +kernel
theorem d_law_212 : decode M_law.2.1 212 = .ok (.aload_n 0, 1) := by decide +kernel
theorem d_law_213 : decode M_law.2.1 213 = .ok (.iload_n 3, 1) := by decide +kernel
theorem d_law_214 : decode M_law.2.1 214 = .ok (.iconst 3, 1) := by decide +kernel
theorem d_law_215 : decode M_law.2.1 215 = .ok (.iadd, 1) := by decide +kernel
theorem d_law_216 : decode M_law.2.1 216 = .ok (.iaload, 1) := by decide +kernel
theorem d_law_217 : decode M_law.2.1 217 = .ok (.aload_n 0, 1) := by decide +kernel
theorem d_law_218 : decode M_law.2.1 218 = .ok (.iload_n 3, 1) := by decide +kernel
theorem d_law_219 : decode M_law.2.1 219 = .ok (.iconst 4, 1) := by decide +kernel
theorem d_law_220 : decode M_law.2.1 220 = .ok (.iadd, 1) := by decide +kernel
theorem d_law_221 : decode M_law.2.1 221 = .ok (.iaload, 1) := by decide +kernel
theorem d_law_222 : decode M_law.2.1 222 = .ok (.aload_n 0, 1) := by decide +kernel
theorem d_law_223 : decode M_law.2.1 223 = .ok (.iload_n 3, 1) := by decide +kernel
theorem d_law_224 : decode M_law.2.1 224 = .ok (.iconst 5, 1) := by decide +kernel
theorem d_law_225 : decode M_law.2.1 225 = .ok (.iadd, 1) := by decide +kernel
theorem d_law_226 : decode M_law.2.1 226 = .ok (.iaload, 1) := by decide +kernel
theorem d_law_227 : decode M_law.2.1 227 = .ok (.invokevirtual 17, 3) := by decide +kernel
theorem d_law_230 : decode M_law.2.1 230 = .ok (.if_icmp .eq 811, 3) := by decide +kernel
theorem d_law_233 : decode M_law.2.1 233 = .ok (.iconst 0, 1) := by decide +kernel
theorem d_law_234 : decode M_law.2.1 234 = .ok (.ireturn, 1) := by decide +kernel
theorem d_law_235 : decode M_law.2.1 235 = .ok (.aload_n 1, 1) := by decide +kernel
theorem d_law_236 : decode M_law.2.1 236 = .ok (.aload_n 0, 1) := by decide +kernel
theorem d_law_237 : decode M_law.2.1 237 = .ok (.iload_n 3, 1) := by decide +kernel
theorem d_law_238 : decode M_law.2.1 238 = .ok (.iconst 1, 1) := by decide +kernel
theorem d_law_239 : decode M_law.2.1 239 = .ok (.iadd, 1) := by decide +kernel
theorem d_law_240 : decode M_law.2.1 240 = .ok (.iaload, 1) := by decide +kernel
theorem d_law_241 : decode M_law.2.1 241 = .ok (.invokevirtual 18, 3) := by decide +kernel
theorem d_law_244 : decode M_law.2.1 244 = .ok (.aload_n 2, 1) := by decide +kernel
theorem d_law_245 : decode M_law.2.1 245 = .ok (.aload_n 0, 1) := by decide +kernel
theorem d_law_246 : decode M_law.2.1 246 = .ok (.iload_n 3, 1) := by decide +kernel
theorem d_law_247 : decode M_law.2.1 247 = .ok (.iconst 1, 1) := by decide +kernel
theorem d_law_248 : decode M_law.2.1 248 = .ok (.iadd, 1) := by decide +kernel
theorem d_law_249 : decode M_law.2.1 249 = .ok (.iaload, 1) := by decide +kernel
theorem d_law_250 : decode M_law.2.1 250 = .ok (.invokevirtual 22, 3) := by decide +kernel
theorem d_law_253 : decode M_law.2.1 253 = .ok (.if_icmp .eq 788, 3) := by decide +kernel
theorem d_law_256 : decode M_law.2.1 256 = .ok (.iconst 0, 1) := by decide +kernel
theorem d_law_257 : decode M_law.2.1 257 = .ok (.ireturn, 1) := by decide +kernel
theorem d_law_258 : decode M_law.2.1 258 = .ok (.aload_n 1, 1) := by decide +kernel
theorem d_law_259 : decode M_law.2.1 259 = .ok (.invokevirtual 23, 3) := by decide +kernel
theorem d_law_262 : decode M_law.2.1 262 = .ok (.aload_n 2, 1) := by decide +kernel
theorem d_law_263 : decode M_law.2.1 263 = .ok (.invokevirtual 27, 3) := by decide +kernel
theorem d_law_266 : decode M_law.2.1 266 = .ok (.if_icmp .eq 775, 3) := by decide +kernel
theorem d_law_269 : decode M_law.2.1 269 = .ok (.iconst 0, 1) := by decide +kernel
theorem d_law_270 : decode M_law.2.1 270 = .ok (.ireturn, 1) := by decide +kernel
theorem d_law_271 : decode M_law.2.1 271 = .ok (.aload_n 1, 1) := by decide +kernel
theorem d_law_272 : decode M_law.2.1 272 = .ok (.invokevirtual 28, 3) := by decide +kernel
theorem d_law_275 : decode M_law.2.1 275 = .ok (.aload_n 2, 1) := by decide +kernel
theorem d_law_276 : decode M_law.2.1 276 = .ok (.invokevirtual 31, 3) := by decide +kernel
theorem d_law_279 : decode M_law.2.1 279 = .ok (.if_icmp .eq 762, 3) := by decide +kernel
theorem d_law_282 : decode M_law.2.1 282 = .ok (.iconst 0, 1) := by decide +kernel
theorem d_law_283 : decode M_law.2.1 283 = .ok (.ireturn, 1) := by decide +kernel
theorem d_law_284 : decode M_law.2.1 284 = .ok (.aload_n 1, 1) := by decide +kernel
theorem d_law_285 : decode M_law.2.1 285 = .ok (.aload_n 0, 1) := by decide +kernel
theorem d_law_286 : decode M_law.2.1 286 = .ok (.iload_n 3, 1) := by decide +kernel
theorem d_law_287 : decode M_law.2.1 287 = .ok (.iconst 1, 1) := by decide +kernel
theorem d_law_288 : decode M_law.2.1 288 = .ok (.iadd, 1) := by decide +kernel
theorem d_law_289 : decode M_law.2.1 289 = .ok (.iaload, 1) := by decide +kernel
theorem d_law_290 : decode M_law.2.1 290 = .ok (.aload_n 0, 1) := by decide +kernel
theorem d_law_291 : decode M_law.2.1 291 = .ok (.iload_n 3, 1) := by decide +kernel
theorem d_law_292 : decode M_law.2.1 292 = .ok (.iconst 2, 1) := by decide +kernel
theorem d_law_293 : decode M_law.2.1 293 = .ok (.iadd, 1) := by decide +kernel
theorem d_law_294 : decode M_law.2.1 294 = .ok (.iaload, 1) := by decide +kernel
theorem d_law_295 : decode M_law.2.1 295 = .ok (.invokevirtual 32, 3) := by decide +kernel
theorem d_law_298 : decode M_law.2.1 298 = .ok (.aload_n 2, 1) := by decide +kernel
theorem d_law_299 : decode M_law.2.1 299 = .ok (.aload_n 0, 1) := by decide +kernel
theorem d_law_300 : decode M_law.2.1 300 = .ok (.iload_n 3, 1) := by decide +kernel
theorem d_law_301 : decode M_law.2.1 301 = .ok (.iconst 1, 1) := by decide +kernel
theorem d_law_302 : decode M_law.2.1 302 = .ok (.iadd, 1) := by decide +kernel
theorem d_law_303 : decode M_law.2.1 303 = .ok (.iaload, 1) := by decide +kernel
theorem d_law_304 : decode M_law.2.1 304 = .ok (.aload_n 0, 1) := by decide +kernel
theorem d_law_305 : decode M_law.2.1 305 = .ok (.iload_n 3, 1) := by decide +kernel
theorem d_law_306 : decode M_law.2.1 306 = .ok (.iconst 2, 1) := by decide +kernel
theorem d_law_307 : decode M_law.2.1 307 = .ok (.iadd, 1) := by decide +kernel
theorem d_law_308 : decode M_law.2.1 308 = .ok (.iaload, 1) := by decide +kernel
theorem d_law_309 : decode M_law.2.1 309 = .ok (.invokevirtual 36, 3) := by decide +kernel
theorem d_law_312 : decode M_law.2.1 312 = .ok (.if_icmp .eq 729, 3) := by decide +kernel
theorem d_law_315 : decode M_law.2.1 315 = .ok (.iconst 0, 1) := by decide +kernel
theorem d_law_316 : decode M_law.2.1 316 = .ok (.ireturn, 1) := by decide +kernel
theorem d_law_317 : decode M_law.2.1 317 = .ok (.aload_n 1, 1) := by decide +kernel
theorem d_law_318 : decode M_law.2.1 318 = .ok (.aload_n 0, 1) := by decide +kernel
theorem d_law_319 : decode M_law.2.1 319 = .ok (.iload_n 3, 1) := by decide +kernel
theorem d_law_320 : decode M_law.2.1 320 = .ok (.iconst 1, 1) := by decide +kernel
theorem d_law_321 : decode M_law.2.1 321 = .ok (.iadd, 1) := by decide +kernel
theorem d_law_322 : decode M_law.2.1 322 = .ok (.iaload, 1) := by decide +kernel
theorem d_law_323 : decode M_law.2.1 323 = .ok (.aload_n 0, 1) := by decide +kernel
theorem d_law_324 : decode M_law.2.1 324 = .ok (.iload_n 3, 1) := by decide +kernel
theorem d_law_325 : decode M_law.2.1 325 = .ok (.iconst 2, 1) := by decide +kernel
theorem d_law_326 : decode M_law.2.1 326 = .ok (.iadd, 1) := by decide +kernel
theorem d_law_327 : decode M_law.2.1 327 = .ok (.iaload, 1) := by decide +kernel
theorem d_law_328 : decode M_law.2.1 328 = .ok (.invokevirtual 37, 3) := by decide +kernel
theorem d_law_331 : decode M_law.2.1 331 = .ok (.aload_n 2, 1) := by decide +kernel
theorem d_law_332 : decode M_law.2.1 332 = .ok (.aload_n 0, 1) := by decide +kernel
theorem d_law_333 : decode M_law.2.1 333 = .ok (.iload_n 3, 1) := by decide +kernel
theorem d_law_334 : decode M_law.2.1 334 = .ok (.iconst 1, 1) := by decide +kernel
theorem d_law_335 : decode M_law.2.1 335 = .ok (.iadd, 1) := by decide +kernel
theorem d_law_336 : decode M_law.2.1 336 = .ok (.iaload, 1) := by decide +kernel
theorem d_law_337 : decode M_law.2.1 337 = .ok (.aload_n 0, 1) := by decide +kernel
theorem d_law_338 : decode M_law.2.1 338 = .ok (.iload_n 3, 1) := by decide +kernel
theorem d_law_339 : decode M_law.2.1 339 = .ok (.iconst 2, 1) := by decide +kernel
theorem d_law_340 : decode M_law.2.1 340 = .ok (.iadd, 1) := by decide +kernel
theorem d_law_341 : decode M_law.2.1 341 = .ok (.iaload, 1) := by decide +kernel
theorem d_law_342 : decode M_law.2.1 342 = .ok (.invokevirtual 40, 3) := by decide +kernel
theorem d_law_345 : decode M_law.2.1 345 = .ok (.if_icmp .eq 696, 3) := by decide +kernel
theorem d_law_348 : decode M_law.2.1 348 = .ok (.iconst 0, 1) := by decide +kernel
theorem d_law_349 : decode M_law.2.1 349 = .ok (.ireturn, 1) := by decide +kernel
theorem d_law_350 : decode M_law.2.1 350 = .ok (.aload_n 1, 1) := by decide +kernel
theorem d_law_351 : decode M_law.2.1 351 = .ok (.aload_n 0, 1) := by decide +kernel
theorem d_law_352 : decode M_law.2.1 352 = .ok (.iload_n 3, 1) := by decide +kernel
theorem d_law_353 : decode M_law.2.1 353 = .ok (.iconst 1, 1) := by decide +kernel
theorem d_law_354 : decode M_law.2.1 354 = .ok (.iadd, 1) := by decide +kernel
theorem d_law_355 : decode M_law.2.1 355 = .ok (.iaload, 1) := by decide +kernel
theorem d_law_356 : decode M_law.2.1 356 = .ok (.invokevirtual 41, 3) := by decide +kernel
theorem d_law_359 : decode M_law.2.1 359 = .ok (.aload_n 2, 1) := by decide +kernel
theorem d_law_360 : decode M_law.2.1 360 = .ok (.aload_n 0, 1) := by decide +kernel
theorem d_law_361 : decode M_law.2.1 361 = .ok (.iload_n 3, 1) := by decide +kernel
theorem d_law_362 : decode M_law.2.1 362 = .ok (.iconst 1, 1) := by decide +kernel
theorem d_law_363 : decode M_law.2.1 363 = .ok (.iadd, 1) := by decide +kernel
theorem d_law_364 : decode M_law.2.1 364 = .ok (.iaload, 1) := by decide +kernel
theorem d_law_365 : decode M_law.2.1 365 = .ok (.invokevirtual 44, 3) := by decide +kernel
theorem d_law_368 : decode M_law.2.1 368 = .ok (.if_icmp .eq 673, 3) := by decide +kernel
theorem d_law_371 : decode M_law.2.1 371 = .ok (.iconst 0, 1) := by decide +kernel
theorem d_law_372 : decode M_law.2.1 372 = .ok (.ireturn, 1) := by decide +kernel
theorem d_law_373 : decode M_law.2.1 373 = .ok (.aload_n 1, 1) := by decide +kernel
theorem d_law_374 : decode M_law.2.1 374 = .ok (.aload_n 0, 1) := by decide +kernel
theorem d_law_375 : decode M_law.2.1 375 = .ok (.iload_n 3, 1) := by decide +kernel
theorem d_law_376 : decode M_law.2.1 376 = .ok (.iconst 1, 1) := by decide +kernel
theorem d_law_377 : decode M_law.2.1 377 = .ok (.iadd, 1) := by decide +kernel
theorem d_law_378 : decode M_law.2.1 378 = .ok (.iaload, 1) := by decide +kernel
theorem d_law_379 : decode M_law.2.1 379 = .ok (.invokevirtual 45, 3) := by decide +kernel
theorem d_law_382 : decode M_law.2.1 382 = .ok (.aload_n 2, 1) := by decide +kernel
theorem d_law_383 : decode M_law.2.1 383 = .ok (.aload_n 0, 1) := by decide +kernel
theorem d_law_384 : decode M_law.2.1 384 = .ok (.iload_n 3, 1) := by decide +kernel
theorem d_law_385 : decode M_law.2.1 385 = .ok (.iconst 1, 1) := by decide +kernel
theorem d_law_386 : decode M_law.2.1 386 = .ok (.iadd, 1) := by decide +kernel
theorem d_law_387 : decode M_law.2.1 387 = .ok (.iaload, 1) := by decide +kernel
theorem d_law_388 : decode M_law.2.1 388 = .ok (.invokevirtual 49, 3) := by decide +kernel
theorem d_law_391 : decode M_law.2.1 391 = .ok (.if_icmp .eq 650, 3) := by decide +kernel
theorem d_law_394 : decode M_law.2.1 394 = .ok (.iconst 0, 1) := by decide +kernel
theorem d_law_395 : decode M_law.2.1 395 = .ok (.ireturn, 1) := by decide +kernel
theorem d_law_396 : decode M_law.2.1 396 = .ok (.aload_n 1, 1) := by decide +kernel
theorem d_law_397 : decode M_law.2.1 397 = .ok (.aload_n 0, 1) := by decide +kernel
theorem d_law_398 : decode M_law.2.1 398 = .ok (.iload_n 3, 1) := by decide +kernel
theorem d_law_399 : decode M_law.2.1 399 = .ok (.iconst 1, 1) := by decide +kernel
theorem d_law_400 : decode M_law.2.1 400 = .ok (.iadd, 1) := by decide +kernel
theorem d_law_401 : decode M_law.2.1 401 = .ok (.iaload, 1) := by decide +kernel
theorem d_law_402 : decode M_law.2.1 402 = .ok (.aload_n 0, 1) := by decide +kernel
theorem d_law_403 : decode M_law.2.1 403 = .ok (.iload_n 3, 1) := by decide +kernel
theorem d_law_404 : decode M_law.2.1 404 = .ok (.iconst 2, 1) := by decide +kernel
theorem d_law_405 : decode M_law.2.1 405 = .ok (.iadd, 1) := by decide +kernel
theorem d_law_406 : decode M_law.2.1 406 = .ok (.iaload, 1) := by decide +kernel
theorem d_law_407 : decode M_law.2.1 407 = .ok (.invokevirtual 50, 3) := by decide +kernel
theorem d_law_410 : decode M_law.2.1 410 = .ok (.aload_n 2, 1) := by decide +kernel
theorem d_law_411 : decode M_law.2.1 411 = .ok (.aload_n 0, 1) := by decide +kernel
theorem d_law_412 : decode M_law.2.1 412 = .ok (.iload_n 3, 1) := by decide +kernel
theorem d_law_413 : decode M_law.2.1 413 = .ok (.iconst 1, 1) := by decide +kernel
theorem d_law_414 : decode M_law.2.1 414 = .ok (.iadd, 1) := by decide +kernel
theorem d_law_415 : decode M_law.2.1 415 = .ok (.iaload, 1) := by decide +kernel
theorem d_law_416 : decode M_law.2.1 416 = .ok (.aload_n 0, 1) := by decide +kernel
theorem d_law_417 : decode M_law.2.1 417 = .ok (.iload_n 3, 1) := by decide +kernel
theorem d_law_418 : decode M_law.2.1 418 = .ok (.iconst 2, 1) := by decide +kernel
theorem d_law_419 : decode M_law.2.1 419 = .ok (.iadd, 1) := by decide +kernel
theorem d_law_420 : decode M_law.2.1 420 = .ok (.iaload, 1) := by decide +kernel
theorem d_law_421 : decode M_law.2.1 421 = .ok (.invokevirtual 53, 3) := by decide +kernel
theorem d_law_424 : decode M_law.2.1 424 = .ok (.if_icmp .eq 617, 3) := by decide +kernel
theorem d_law_427 : decode M_law.2.1 427 = .ok (.iconst 0, 1) := by decide +kernel
theorem d_law_428 : decode M_law.2.1 428 = .ok (.ireturn, 1) := by decide +kernel
theorem d_law_429 : decode M_law.2.1 429 = .ok (.aload_n 1, 1) := by decide +kernel
theorem d_law_430 : decode M_law.2.1 430 = .ok (.aload_n 0, 1) := by decide +kernel
theorem d_law_431 : decode M_law.2.1 431 = .ok (.iload_n 3, 1) := by decide +kernel
theorem d_law_432 : decode M_law.2.1 432 = .ok (.iconst 1, 1) := by decide +kernel
theorem d_law_433 : decode M_law.2.1 433 = .ok (.iadd, 1) := by decide +kernel
theorem d_law_434 : decode M_law.2.1 434 = .ok (.iaload, 1) := by decide +kernel
theorem d_law_435 : decode M_law.2.1 435 = .ok (.aload_n 0, 1) := by decide +kernel
theorem d_law_436 : decode M_law.2.1 436 = .ok (.iload_n 3, 1) := by decide +kernel
theorem d_law_437 : decode M_law.2.1 437 = .ok (.iconst 2, 1) := by decide +kernel
theorem d_law_438 : decode M_law.2.1 438 = .ok (.iadd, 1) := by decide +kernel
theorem d_law_439 : decode M_law.2.1 439 = .ok (.iaload, 1) := by decide +kernel
theorem d_law_440 : decode M_law.2.1 440 = .ok (.ifCond .eq 7, 3) := by decide +kernel
theorem d_law_443 : decode M_law.2.1 443 = .ok (.iconst 1, 1) := by decide +kernel
theorem d_law_444 : decode M_law.2.1 444 = .ok (.goto 4, 3) := by decide +kernel
theorem d_law_447 : decode M_law.2.1 447 = .ok (.iconst 0, 1) := by decide +kernel
theorem d_law_448 : decode M_law.2.1 448 = .ok (.invokevirtual 54, 3) := by decide +kernel
theorem d_law_451 : decode M_law.2.1 451 = .ok (.aload_n 2, 1) := by decide +kernel
theorem d_law_452 : decode M_law.2.1 452 = .ok (.aload_n 0, 1) := by decide +kernel
theorem d_law_453 : decode M_law.2.1 453 = .ok (.iload_n 3, 1) := by decide +kernel
theorem d_law_454 : decode M_law.2.1 454 = .ok (.iconst 1, 1) := by decide +kernel
theorem d_law_455 : decode M_law.2.1 455 = .ok (.iadd, 1) := by decide +kernel
theorem d_law_456 : decode M_law.2.1 456 = .ok (.iaload, 1) := by decide +kernel
theorem d_law_457 : decode M_law.2.1 457 = .ok (.aload_n 0, 1) := by decide +kernel
theorem d_law_458 : decode M_law.2.1 458 = .ok (.iload_n 3, 1) := by decide +kernel
theorem d_law_459 : decode M_law.2.1 459 = .ok (.iconst 2, 1) := by decide +kernel
theorem d_law_460 : decode M_law.2.1 460 = .ok (.iadd, 1) := by decide +kernel
theorem d_law_461 : decode M_law.2.1 461 = .ok (.iaload, 1) := by decide +kernel
theorem d_law_462 : decode M_law.2.1 462 = .ok (.ifCond .eq 7, 3) := by decide +kernel
theorem d_law_465 : decode M_law.2.1 465 = .ok (.iconst 1, 1) := by decide +kernel
theorem d_law_466 : decode M_law.2.1 466 = .ok (.goto 4, 3) := by decide +kernel
theorem d_law_469 : decode M_law.2.1 469 = .ok (.iconst 0, 1) := by decide +kernel
theorem d_law_470 : decode M_law.2.1 470 = .ok (.invokevirtual 58, 3) := by decide +kernel
theorem d_law_473 : decode M_law.2.1 473 = .ok (.if_icmp .eq 568, 3) := by decide +kernel
theorem d_law_476 : decode M_law.2.1 476 = .ok (.iconst 0, 1) := by decide +kernel
theorem d_law_477 : decode M_law.2.1 477 = .ok (.ireturn, 1) := by decide +kernel
theorem d_law_478 : decode M_law.2.1 478 = .ok (.aload_n 1, 1) := by decide +kernel
theorem d_law_479 : decode M_law.2.1 479 = .ok (.aload_n 0, 1) := by decide +kernel
theorem d_law_480 : decode M_law.2.1 480 = .ok (.iload_n 3, 1) := by decide +kernel
theorem d_law_481 : decode M_law.2.1 481 = .ok (.iconst 1, 1) := by decide +kernel
theorem d_law_482 : decode M_law.2.1 482 = .ok (.iadd, 1) := by decide +kernel
theorem d_law_483 : decode M_law.2.1 483 = .ok (.iaload, 1) := by decide +kernel
theorem d_law_484 : decode M_law.2.1 484 = .ok (.aload_n 0, 1) := by decide +kernel
theorem d_law_485 : decode M_law.2.1 485 = .ok (.iload_n 3, 1) := by decide +kernel
theorem d_law_486 : decode M_law.2.1 486 = .ok (.iconst 2, 1) := by decide +kernel
theorem d_law_487 : decode M_law.2.1 487 = .ok (.iadd, 1) := by decide +kernel
theorem d_law_488 : decode M_law.2.1 488 = .ok (.iaload, 1) := by decide +kernel
theorem d_law_489 : decode M_law.2.1 489 = .ok (.invokevirtual 59, 3) := by decide +kernel
theorem d_law_492 : decode M_law.2.1 492 = .ok (.aload_n 2, 1) := by decide +kernel
theorem d_law_493 : decode M_law.2.1 493 = .ok (.aload_n 0, 1) := by decide +kernel
theorem d_law_494 : decode M_law.2.1 494 = .ok (.iload_n 3, 1) := by decide +kernel
theorem d_law_495 : decode M_law.2.1 495 = .ok (.iconst 1, 1) := by decide +kernel
theorem d_law_496 : decode M_law.2.1 496 = .ok (.iadd, 1) := by decide +kernel
theorem d_law_497 : decode M_law.2.1 497 = .ok (.iaload, 1) := by decide +kernel
theorem d_law_498 : decode M_law.2.1 498 = .ok (.aload_n 0, 1) := by decide +kernel
theorem d_law_499 : decode M_law.2.1 499 = .ok (.iload_n 3, 1) := by decide +kernel
theorem d_law_500 : decode M_law.2.1 500 = .ok (.iconst 2, 1) := by decide +kernel
theorem d_law_501 : decode M_law.2.1 501 = .ok (.iadd, 1) := by decide +kernel
theorem d_law_502 : decode M_law.2.1 502 = .ok (.iaload, 1) := by decide +kernel
theorem d_law_503 : decode M_law.2.1 503 = .ok (.invokevirtual 62, 3) := by decide +kernel
theorem d_law_506 : decode M_law.2.1 506 = .ok (.if_icmp .eq 535, 3) := by decide +kernel
theorem d_law_509 : decode M_law.2.1 509 = .ok (.iconst 0, 1) := by decide +kernel
theorem d_law_510 : decode M_law.2.1 510 = .ok (.ireturn, 1) := by decide +kernel
theorem d_law_511 : decode M_law.2.1 511 = .ok (.aload_n 1, 1) := by decide +kernel
theorem d_law_512 : decode M_law.2.1 512 = .ok (.aload_n 0, 1) := by decide +kernel
theorem d_law_513 : decode M_law.2.1 513 = .ok (.iload_n 3, 1) := by decide +kernel
theorem d_law_514 : decode M_law.2.1 514 = .ok (.iconst 1, 1) := by decide +kernel
theorem d_law_515 : decode M_law.2.1 515 = .ok (.iadd, 1) := by decide +kernel
theorem d_law_516 : decode M_law.2.1 516 = .ok (.iaload, 1) := by decide +kernel
theorem d_law_517 : decode M_law.2.1 517 = .ok (.aload_n 0, 1) := by decide +kernel
theorem d_law_518 : decode M_law.2.1 518 = .ok (.iload_n 3, 1) := by decide +kernel
theorem d_law_519 : decode M_law.2.1 519 = .ok (.iconst 2, 1) := by decide +kernel
theorem d_law_520 : decode M_law.2.1 520 = .ok (.iadd, 1) := by decide +kernel
theorem d_law_521 : decode M_law.2.1 521 = .ok (.iaload, 1) := by decide +kernel
theorem d_law_522 : decode M_law.2.1 522 = .ok (.invokevirtual 63, 3) := by decide +kernel
theorem d_law_525 : decode M_law.2.1 525 = .ok (.aload_n 2, 1) := by decide +kernel
theorem d_law_526 : decode M_law.2.1 526 = .ok (.aload_n 0, 1) := by decide +kernel
theorem d_law_527 : decode M_law.2.1 527 = .ok (.iload_n 3, 1) := by decide +kernel
theorem d_law_528 : decode M_law.2.1 528 = .ok (.iconst 1, 1) := by decide +kernel
theorem d_law_529 : decode M_law.2.1 529 = .ok (.iadd, 1) := by decide +kernel
theorem d_law_530 : decode M_law.2.1 530 = .ok (.iaload, 1) := by decide +kernel
theorem d_law_531 : decode M_law.2.1 531 = .ok (.aload_n 0, 1) := by decide +kernel
theorem d_law_532 : decode M_law.2.1 532 = .ok (.iload_n 3, 1) := by decide +kernel
theorem d_law_533 : decode M_law.2.1 533 = .ok (.iconst 2, 1) := by decide +kernel
theorem d_law_534 : decode M_law.2.1 534 = .ok (.iadd, 1) := by decide +kernel
theorem d_law_535 : decode M_law.2.1 535 = .ok (.iaload, 1) := by decide +kernel
theorem d_law_536 : decode M_law.2.1 536 = .ok (.invokevirtual 67, 3) := by decide +kernel
theorem d_law_539 : decode M_law.2.1 539 = .ok (.if_icmp .eq 502, 3) := by decide +kernel
theorem d_law_542 : decode M_law.2.1 542 = .ok (.iconst 0, 1) := by decide +kernel
theorem d_law_543 : decode M_law.2.1 543 = .ok (.ireturn, 1) := by decide +kernel
theorem d_law_544 : decode M_law.2.1 544 = .ok (.aload_n 1, 1) := by decide +kernel
theorem d_law_545 : decode M_law.2.1 545 = .ok (.invokevirtual 68, 3) := by decide +kernel
theorem d_law_548 : decode M_law.2.1 548 = .ok (.aload_n 2, 1) := by decide +kernel
theorem d_law_549 : decode M_law.2.1 549 = .ok (.invokevirtual 72, 3) := by decide +kernel
theorem d_law_552 : decode M_law.2.1 552 = .ok (.if_icmp .eq 489, 3) := by decide +kernel
theorem d_law_555 : decode M_law.2.1 555 = .ok (.iconst 0, 1) := by decide +kernel
theorem d_law_556 : decode M_law.2.1 556 = .ok (.ireturn, 1) := by decide +kernel
theorem d_law_557 : decode M_law.2.1 557 = .ok (.aload_n 1, 1) := by decide +kernel
theorem d_law_558 : decode M_law.2.1 558 = .ok (.aload_n 0, 1) := by decide +kernel
theorem d_law_559 : decode M_law.2.1 559 = .ok (.iload_n 3, 1) := by decide +kernel
theorem d_law_560 : decode M_law.2.1 560 = .ok (.iconst 1, 1) := by decide +kernel
theorem d_law_561 : decode M_law.2.1 561 = .ok (.iadd, 1) := by decide +kernel
theorem d_law_562 : decode M_law.2.1 562 = .ok (.iaload, 1) := by decide +kernel
theorem d_law_563 : decode M_law.2.1 563 = .ok (.invokevirtual 73, 3) := by decide +kernel
theorem d_law_566 : decode M_law.2.1 566 = .ok (.aload_n 2, 1) := by decide +kernel
theorem d_law_567 : decode M_law.2.1 567 = .ok (.aload_n 0, 1) := by decide +kernel
theorem d_law_568 : decode M_law.2.1 568 = .ok (.iload_n 3, 1) := by decide +kernel
theorem d_law_569 : decode M_law.2.1 569 = .ok (.iconst 1, 1) := by decide +kernel
theorem d_law_570 : decode M_law.2.1 570 = .ok (.iadd, 1) := by decide +kernel
theorem d_law_571 : decode M_law.2.1 571 = .ok (.iaload, 1) := by decide +kernel
theorem d_law_572 : decode M_law.2.1 572 = .ok (.invokevirtual 76, 3) := by decide +kernel
theorem d_law_575 : decode M_law.2.1 575 = .ok (.if_icmp .eq 466, 3) := by decide +kernel
theorem d_law_578 : decode M_law.2.1 578 = .ok (.iconst 0, 1) := by decide +kernel
theorem d_law_579 : decode M_law.2.1 579 = .ok (.ireturn, 1) := by decide +kernel
theorem d_law_580 : decode M_law.2.1 580 = .ok (.aload_n 1, 1) := by decide +kernel
theorem d_law_581 : decode M_law.2.1 581 = .ok (.invokevirtual 77, 3) := by decide +kernel
theorem d_law_584 : decode M_law.2.1 584 = .ok (.aload_n 2, 1) := by decide +kernel
theorem d_law_585 : decode M_law.2.1 585 = .ok (.invokevirtual 80, 3) := by decide +kernel
theorem d_law_588 : decode M_law.2.1 588 = .ok (.if_icmp .eq 453, 3) := by decide +kernel
theorem d_law_591 : decode M_law.2.1 591 = .ok (.iconst 0, 1) := by decide +kernel
theorem d_law_592 : decode M_law.2.1 592 = .ok (.ireturn, 1) := by decide +kernel
theorem d_law_593 : decode M_law.2.1 593 = .ok (.aload_n 1, 1) := by decide +kernel
theorem d_law_594 : decode M_law.2.1 594 = .ok (.aload_n 0, 1) := by decide +kernel
theorem d_law_595 : decode M_law.2.1 595 = .ok (.iload_n 3, 1) := by decide +kernel
theorem d_law_596 : decode M_law.2.1 596 = .ok (.iconst 1, 1) := by decide +kernel
theorem d_law_597 : decode M_law.2.1 597 = .ok (.iadd, 1) := by decide +kernel
theorem d_law_598 : decode M_law.2.1 598 = .ok (.iaload, 1) := by decide +kernel
theorem d_law_599 : decode M_law.2.1 599 = .ok (.invokevirtual 81, 3) := by decide +kernel
theorem d_law_602 : decode M_law.2.1 602 = .ok (.aload_n 2, 1) := by decide +kernel
theorem d_law_603 : decode M_law.2.1 603 = .ok (.aload_n 0, 1) := by decide +kernel
theorem d_law_604 : decode M_law.2.1 604 = .ok (.iload_n 3, 1) := by decide +kernel
theorem d_law_605 : decode M_law.2.1 605 = .ok (.iconst 1, 1) := by decide +kernel
theorem d_law_606 : decode M_law.2.1 606 = .ok (.iadd, 1) := by decide +kernel
theorem d_law_607 : decode M_law.2.1 607 = .ok (.iaload, 1) := by decide +kernel
theorem d_law_608 : decode M_law.2.1 608 = .ok (.invokevirtual 84, 3) := by decide +kernel
theorem d_law_611 : decode M_law.2.1 611 = .ok (.if_icmp .eq 430, 3) := by decide +kernel
theorem d_law_614 : decode M_law.2.1 614 = .ok (.iconst 0, 1) := by decide +kernel
theorem d_law_615 : decode M_law.2.1 615 = .ok (.ireturn, 1) := by decide +kernel
theorem d_law_616 : decode M_law.2.1 616 = .ok (.aload_n 1, 1) := by decide +kernel
theorem d_law_617 : decode M_law.2.1 617 = .ok (.aload_n 0, 1) := by decide +kernel
theorem d_law_618 : decode M_law.2.1 618 = .ok (.iload_n 3, 1) := by decide +kernel
theorem d_law_619 : decode M_law.2.1 619 = .ok (.iconst 1, 1) := by decide +kernel
theorem d_law_620 : decode M_law.2.1 620 = .ok (.iadd, 1) := by decide +kernel
theorem d_law_621 : decode M_law.2.1 621 = .ok (.iaload, 1) := by decide +kernel
theorem d_law_622 : decode M_law.2.1 622 = .ok (.invokevirtual 85, 3) := by decide +kernel
theorem d_law_625 : decode M_law.2.1 625 = .ok (.aload_n 2, 1) := by decide +kernel
theorem d_law_626 : decode M_law.2.1 626 = .ok (.aload_n 0, 1) := by decide +kernel
theorem d_law_627 : decode M_law.2.1 627 = .ok (.iload_n 3, 1) := by decide +kernel
theorem d_law_628 : decode M_law.2.1 628 = .ok (.iconst 1, 1) := by decide +kernel
theorem d_law_629 : decode M_law.2.1 629 = .ok (.iadd, 1) := by decide +kernel
theorem d_law_630 : decode M_law.2.1 630 = .ok (.iaload, 1) := by decide +kernel
theorem d_law_631 : decode M_law.2.1 631 = .ok (.invokevirtual 88, 3) := by decide +kernel
theorem d_law_634 : decode M_law.2.1 634 = .ok (.if_icmp .eq 407, 3) := by decide +kernel
theorem d_law_637 : decode M_law.2.1 637 = .ok (.iconst 0, 1) := by decide +kernel
theorem d_law_638 : decode M_law.2.1 638 = .ok (.ireturn, 1) := by decide +kernel
theorem d_law_639 : decode M_law.2.1 639 = .ok (.aload_n 1, 1) := by decide +kernel
theorem d_law_640 : decode M_law.2.1 640 = .ok (.aload_n 0, 1) := by decide +kernel
theorem d_law_641 : decode M_law.2.1 641 = .ok (.iload_n 3, 1) := by decide +kernel
theorem d_law_642 : decode M_law.2.1 642 = .ok (.iconst 1, 1) := by decide +kernel
theorem d_law_643 : decode M_law.2.1 643 = .ok (.iadd, 1) := by decide +kernel
theorem d_law_644 : decode M_law.2.1 644 = .ok (.iaload, 1) := by decide +kernel
theorem d_law_645 : decode M_law.2.1 645 = .ok (.aload_n 0, 1) := by decide +kernel
theorem d_law_646 : decode M_law.2.1 646 = .ok (.iload_n 3, 1) := by decide +kernel
theorem d_law_647 : decode M_law.2.1 647 = .ok (.iconst 2, 1) := by decide +kernel
theorem d_law_648 : decode M_law.2.1 648 = .ok (.iadd, 1) := by decide +kernel
theorem d_law_649 : decode M_law.2.1 649 = .ok (.iaload, 1) := by decide +kernel
theorem d_law_650 : decode M_law.2.1 650 = .ok (.invokevirtual 89, 3) := by decide +kernel
theorem d_law_653 : decode M_law.2.1 653 = .ok (.aload_n 2, 1) := by decide +kernel
theorem d_law_654 : decode M_law.2.1 654 = .ok (.aload_n 0, 1) := by decide +kernel
theorem d_law_655 : decode M_law.2.1 655 = .ok (.iload_n 3, 1) := by decide +kernel
theorem d_law_656 : decode M_law.2.1 656 = .ok (.iconst 1, 1) := by decide +kernel
theorem d_law_657 : decode M_law.2.1 657 = .ok (.iadd, 1) := by decide +kernel
theorem d_law_658 : decode M_law.2.1 658 = .ok (.iaload, 1) := by decide +kernel
theorem d_law_659 : decode M_law.2.1 659 = .ok (.aload_n 0, 1) := by decide +kernel
theorem d_law_660 : decode M_law.2.1 660 = .ok (.iload_n 3, 1) := by decide +kernel
theorem d_law_661 : decode M_law.2.1 661 = .ok (.iconst 2, 1) := by decide +kernel
theorem d_law_662 : decode M_law.2.1 662 = .ok (.iadd, 1) := by decide +kernel
theorem d_law_663 : decode M_law.2.1 663 = .ok (.iaload, 1) := by decide +kernel
theorem d_law_664 : decode M_law.2.1 664 = .ok (.invokevirtual 92, 3) := by decide +kernel
theorem d_law_667 : decode M_law.2.1 667 = .ok (.if_icmp .eq 374, 3) := by decide +kernel
theorem d_law_670 : decode M_law.2.1 670 = .ok (.iconst 0, 1) := by decide +kernel
theorem d_law_671 : decode M_law.2.1 671 = .ok (.ireturn, 1) := by decide +kernel
theorem d_law_672 : decode M_law.2.1 672 = .ok (.aload_n 1, 1) := by decide +kernel
theorem d_law_673 : decode M_law.2.1 673 = .ok (.aload_n 0, 1) := by decide +kernel
theorem d_law_674 : decode M_law.2.1 674 = .ok (.iload_n 3, 1) := by decide +kernel
theorem d_law_675 : decode M_law.2.1 675 = .ok (.iconst 1, 1) := by decide +kernel
theorem d_law_676 : decode M_law.2.1 676 = .ok (.iadd, 1) := by decide +kernel
theorem d_law_677 : decode M_law.2.1 677 = .ok (.iaload, 1) := by decide +kernel
theorem d_law_678 : decode M_law.2.1 678 = .ok (.aload_n 0, 1) := by decide +kernel
theorem d_law_679 : decode M_law.2.1 679 = .ok (.iload_n 3, 1) := by decide +kernel
theorem d_law_680 : decode M_law.2.1 680 = .ok (.iconst 2, 1) := by decide +kernel
theorem d_law_681 : decode M_law.2.1 681 = .ok (.iadd, 1) := by decide +kernel
theorem d_law_682 : decode M_law.2.1 682 = .ok (.iaload, 1) := by decide +kernel
theorem d_law_683 : decode M_law.2.1 683 = .ok (.invokevirtual 93, 3) := by decide +kernel
theorem d_law_686 : decode M_law.2.1 686 = .ok (.aload_n 2, 1) := by decide +kernel
theorem d_law_687 : decode M_law.2.1 687 = .ok (.aload_n 0, 1) := by decide +kernel
theorem d_law_688 : decode M_law.2.1 688 = .ok (.iload_n 3, 1) := by decide +kernel
theorem d_law_689 : decode M_law.2.1 689 = .ok (.iconst 1, 1) := by decide +kernel
theorem d_law_690 : decode M_law.2.1 690 = .ok (.iadd, 1) := by decide +kernel
theorem d_law_691 : decode M_law.2.1 691 = .ok (.iaload, 1) := by decide +kernel
theorem d_law_692 : decode M_law.2.1 692 = .ok (.aload_n 0, 1) := by decide +kernel
theorem d_law_693 : decode M_law.2.1 693 = .ok (.iload_n 3, 1) := by decide +kernel
theorem d_law_694 : decode M_law.2.1 694 = .ok (.iconst 2, 1) := by decide +kernel
theorem d_law_695 : decode M_law.2.1 695 = .ok (.iadd, 1) := by decide +kernel
theorem d_law_696 : decode M_law.2.1 696 = .ok (.iaload, 1) := by decide +kernel
theorem d_law_697 : decode M_law.2.1 697 = .ok (.invokevirtual 96, 3) := by decide +kernel
theorem d_law_700 : decode M_law.2.1 700 = .ok (.if_icmp .eq 341, 3) := by decide +kernel
theorem d_law_703 : decode M_law.2.1 703 = .ok (.iconst 0, 1) := by decide +kernel
theorem d_law_704 : decode M_law.2.1 704 = .ok (.ireturn, 1) := by decide +kernel
theorem d_law_705 : decode M_law.2.1 705 = .ok (.aload_n 1, 1) := by decide +kernel
theorem d_law_706 : decode M_law.2.1 706 = .ok (.aload_n 0, 1) := by decide +kernel
theorem d_law_707 : decode M_law.2.1 707 = .ok (.iload_n 3, 1) := by decide +kernel
theorem d_law_708 : decode M_law.2.1 708 = .ok (.iconst 1, 1) := by decide +kernel
theorem d_law_709 : decode M_law.2.1 709 = .ok (.iadd, 1) := by decide +kernel
theorem d_law_710 : decode M_law.2.1 710 = .ok (.iaload, 1) := by decide +kernel
theorem d_law_711 : decode M_law.2.1 711 = .ok (.invokevirtual 97, 3) := by decide +kernel
theorem d_law_714 : decode M_law.2.1 714 = .ok (.aload_n 2, 1) := by decide +kernel
theorem d_law_715 : decode M_law.2.1 715 = .ok (.aload_n 0, 1) := by decide +kernel
theorem d_law_716 : decode M_law.2.1 716 = .ok (.iload_n 3, 1) := by decide +kernel
theorem d_law_717 : decode M_law.2.1 717 = .ok (.iconst 1, 1) := by decide +kernel
theorem d_law_718 : decode M_law.2.1 718 = .ok (.iadd, 1) := by decide +kernel
theorem d_law_719 : decode M_law.2.1 719 = .ok (.iaload, 1) := by decide +kernel
theorem d_law_720 : decode M_law.2.1 720 = .ok (.invokevirtual 100, 3) := by decide +kernel
theorem d_law_723 : decode M_law.2.1 723 = .ok (.if_icmp .eq 318, 3) := by decide +kernel
theorem d_law_726 : decode M_law.2.1 726 = .ok (.iconst 0, 1) := by decide +kernel
theorem d_law_727 : decode M_law.2.1 727 = .ok (.ireturn, 1) := by decide +kernel
theorem d_law_728 : decode M_law.2.1 728 = .ok (.aload_n 1, 1) := by decide +kernel
theorem d_law_729 : decode M_law.2.1 729 = .ok (.aload_n 0, 1) := by decide +kernel
theorem d_law_730 : decode M_law.2.1 730 = .ok (.iload_n 3, 1) := by decide +kernel
theorem d_law_731 : decode M_law.2.1 731 = .ok (.iconst 1, 1) := by decide +kernel
theorem d_law_732 : decode M_law.2.1 732 = .ok (.iadd, 1) := by decide +kernel
theorem d_law_733 : decode M_law.2.1 733 = .ok (.iaload, 1) := by decide +kernel
theorem d_law_734 : decode M_law.2.1 734 = .ok (.invokevirtual 101, 3) := by decide +kernel
theorem d_law_737 : decode M_law.2.1 737 = .ok (.aload_n 2, 1) := by decide +kernel
theorem d_law_738 : decode M_law.2.1 738 = .ok (.aload_n 0, 1) := by decide +kernel
theorem d_law_739 : decode M_law.2.1 739 = .ok (.iload_n 3, 1) := by decide +kernel
theorem d_law_740 : decode M_law.2.1 740 = .ok (.iconst 1, 1) := by decide +kernel
theorem d_law_741 : decode M_law.2.1 741 = .ok (.iadd, 1) := by decide +kernel
theorem d_law_742 : decode M_law.2.1 742 = .ok (.iaload, 1) := by decide +kernel
theorem d_law_743 : decode M_law.2.1 743 = .ok (.invokevirtual 104, 3) := by decide +kernel
theorem d_law_746 : decode M_law.2.1 746 = .ok (.if_icmp .eq 295, 3) := by decide +kernel
theorem d_law_749 : decode M_law.2.1 749 = .ok (.iconst 0, 1) := by decide +kernel
theorem d_law_750 : decode M_law.2.1 750 = .ok (.ireturn, 1) := by decide +kernel
theorem d_law_751 : decode M_law.2.1 751 = .ok (.aload_n 1, 1) := by decide +kernel
theorem d_law_752 : decode M_law.2.1 752 = .ok (.aload_n 0, 1) := by decide +kernel
theorem d_law_753 : decode M_law.2.1 753 = .ok (.iload_n 3, 1) := by decide +kernel
theorem d_law_754 : decode M_law.2.1 754 = .ok (.iconst 1, 1) := by decide +kernel
theorem d_law_755 : decode M_law.2.1 755 = .ok (.iadd, 1) := by decide +kernel
theorem d_law_756 : decode M_law.2.1 756 = .ok (.iaload, 1) := by decide +kernel
theorem d_law_757 : decode M_law.2.1 757 = .ok (.aload_n 0, 1) := by decide +kernel
theorem d_law_758 : decode M_law.2.1 758 = .ok (.iload_n 3, 1) := by decide +kernel
theorem d_law_759 : decode M_law.2.1 759 = .ok (.iconst 2, 1) := by decide +kernel
theorem d_law_760 : decode M_law.2.1 760 = .ok (.iadd, 1) := by decide +kernel
theorem d_law_761 : decode M_law.2.1 761 = .ok (.iaload, 1) := by decide +kernel
theorem d_law_762 : decode M_law.2.1 762 = .ok (.invokevirtual 105, 3) := by decide +kernel
theorem d_law_765 : decode M_law.2.1 765 = .ok (.aload_n 2, 1) := by decide +kernel
theorem d_law_766 : decode M_law.2.1 766 = .ok (.aload_n 0, 1) := by decide +kernel
theorem d_law_767 : decode M_law.2.1 767 = .ok (.iload_n 3, 1) := by decide +kernel
theorem d_law_768 : decode M_law.2.1 768 = .ok (.iconst 1, 1) := by decide +kernel
theorem d_law_769 : decode M_law.2.1 769 = .ok (.iadd, 1) := by decide +kernel
theorem d_law_770 : decode M_law.2.1 770 = .ok (.iaload, 1) := by decide +kernel
theorem d_law_771 : decode M_law.2.1 771 = .ok (.aload_n 0, 1) := by decide +kernel
theorem d_law_772 : decode M_law.2.1 772 = .ok (.iload_n 3, 1) := by decide +kernel
theorem d_law_773 : decode M_law.2.1 773 = .ok (.iconst 2, 1) := by decide +kernel
theorem d_law_774 : decode M_law.2.1 774 = .ok (.iadd, 1) := by decide +kernel
theorem d_law_775 : decode M_law.2.1 775 = .ok (.iaload, 1) := by decide +kernel
theorem d_law_776 : decode M_law.2.1 776 = .ok (.invokevirtual 108, 3) := by decide +kernel
theorem d_law_779 : decode M_law.2.1 779 = .ok (.if_icmp .eq 262, 3) := by decide +kernel
theorem d_law_782 : decode M_law.2.1 782 = .ok (.iconst 0, 1) := by decide +kernel
theorem d_law_783 : decode M_law.2.1 783 = .ok (.ireturn, 1) := by decide +kernel
theorem d_law_784 : decode M_law.2.1 784 = .ok (.aload_n 1, 1) := by decide +kernel
theorem d_law_785 : decode M_law.2.1 785 = .ok (.aload_n 0, 1) := by decide +kernel
theorem d_law_786 : decode M_law.2.1 786 = .ok (.iload_n 3, 1) := by decide +kernel
theorem d_law_787 : decode M_law.2.1 787 = .ok (.iconst 1, 1) := by decide +kernel
theorem d_law_788 : decode M_law.2.1 788 = .ok (.iadd, 1) := by decide +kernel
theorem d_law_789 : decode M_law.2.1 789 = .ok (.iaload, 1) := by decide +kernel
theorem d_law_790 : decode M_law.2.1 790 = .ok (.invokevirtual 109, 3) := by decide +kernel
theorem d_law_793 : decode M_law.2.1 793 = .ok (.aload_n 2, 1) := by decide +kernel
theorem d_law_794 : decode M_law.2.1 794 = .ok (.aload_n 0, 1) := by decide +kernel
theorem d_law_795 : decode M_law.2.1 795 = .ok (.iload_n 3, 1) := by decide +kernel
theorem d_law_796 : decode M_law.2.1 796 = .ok (.iconst 1, 1) := by decide +kernel
theorem d_law_797 : decode M_law.2.1 797 = .ok (.iadd, 1) := by decide +kernel
theorem d_law_798 : decode M_law.2.1 798 = .ok (.iaload, 1) := by decide +kernel
theorem d_law_799 : decode M_law.2.1 799 = .ok (.invokevirtual 112, 3) := by decide +kernel
theorem d_law_802 : decode M_law.2.1 802 = .ok (.if_icmp .eq 239, 3) := by decide +kernel
theorem d_law_805 : decode M_law.2.1 805 = .ok (.iconst 0, 1) := by decide +kernel
theorem d_law_806 : decode M_law.2.1 806 = .ok (.ireturn, 1) := by decide +kernel
theorem d_law_807 : decode M_law.2.1 807 = .ok (.aload_n 1, 1) := by decide +kernel
theorem d_law_808 : decode M_law.2.1 808 = .ok (.aload_n 0, 1) := by decide +kernel
theorem d_law_809 : decode M_law.2.1 809 = .ok (.iload_n 3, 1) := by decide +kernel
theorem d_law_810 : decode M_law.2.1 810 = .ok (.iconst 1, 1) := by decide +kernel
theorem d_law_811 : decode M_law.2.1 811 = .ok (.iadd, 1) := by decide +kernel
theorem d_law_812 : decode M_law.2.1 812 = .ok (.iaload, 1) := by decide +kernel
theorem d_law_813 : decode M_law.2.1 813 = .ok (.aload_n 0, 1) := by decide +kernel
theorem d_law_814 : decode M_law.2.1 814 = .ok (.iload_n 3, 1) := by decide +kernel
theorem d_law_815 : decode M_law.2.1 815 = .ok (.iconst 2, 1) := by decide +kernel
theorem d_law_816 : decode M_law.2.1 816 = .ok (.iadd, 1) := by decide +kernel
theorem d_law_817 : decode M_law.2.1 817 = .ok (.iaload, 1) := by decide +kernel
theorem d_law_818 : decode M_law.2.1 818 = .ok (.aload_n 0, 1) := by decide +kernel
theorem d_law_819 : decode M_law.2.1 819 = .ok (.iload_n 3, 1) := by decide +kernel
theorem d_law_820 : decode M_law.2.1 820 = .ok (.iconst 3, 1) := by decide +kernel
theorem d_law_821 : decode M_law.2.1 821 = .ok (.iadd, 1) := by decide +kernel
theorem d_law_822 : decode M_law.2.1 822 = .ok (.iaload, 1) := by decide +kernel
theorem d_law_823 : decode M_law.2.1 823 = .ok (.invokevirtual 113, 3) := by decide +kernel
theorem d_law_826 : decode M_law.2.1 826 = .ok (.aload_n 2, 1) := by decide +kernel
theorem d_law_827 : decode M_law.2.1 827 = .ok (.aload_n 0, 1) := by decide +kernel
theorem d_law_828 : decode M_law.2.1 828 = .ok (.iload_n 3, 1) := by decide +kernel
theorem d_law_829 : decode M_law.2.1 829 = .ok (.iconst 1, 1) := by decide +kernel
theorem d_law_830 : decode M_law.2.1 830 = .ok (.iadd, 1) := by decide +kernel
theorem d_law_831 : decode M_law.2.1 831 = .ok (.iaload, 1) := by decide +kernel
theorem d_law_832 : decode M_law.2.1 832 = .ok (.aload_n 0, 1) := by decide +kernel
theorem d_law_833 : decode M_law.2.1 833 = .ok (.iload_n 3, 1) := by decide +kernel
theorem d_law_834 : decode M_law.2.1 834 = .ok (.iconst 2, 1) := by decide +kernel
theorem d_law_835 : decode M_law.2.1 835 = .ok (.iadd, 1) := by decide +kernel
theorem d_law_836 : decode M_law.2.1 836 = .ok (.iaload, 1) := by decide +kernel
theorem d_law_837 : decode M_law.2.1 837 = .ok (.aload_n 0, 1) := by decide +kernel
theorem d_law_838 : decode M_law.2.1 838 = .ok (.iload_n 3, 1) := by decide +kernel
theorem d_law_839 : decode M_law.2.1 839 = .ok (.iconst 3, 1) := by decide +kernel
theorem d_law_840 : decode M_law.2.1 840 = .ok (.iadd, 1) := by decide +kernel
theorem d_law_841 : decode M_law.2.1 841 = .ok (.iaload, 1) := by decide +kernel
theorem d_law_842 : decode M_law.2.1 842 = .ok (.invokevirtual 117, 3) := by decide +kernel
theorem d_law_845 : decode M_law.2.1 845 = .ok (.if_icmp .eq 196, 3) := by decide +kernel
theorem d_law_848 : decode M_law.2.1 848 = .ok (.iconst 0, 1) := by decide +kernel
theorem d_law_849 : decode M_law.2.1 849 = .ok (.ireturn, 1) := by decide +kernel
theorem d_law_850 : decode M_law.2.1 850 = .ok (.aload_n 1, 1) := by decide +kernel
theorem d_law_851 : decode M_law.2.1 851 = .ok (.aload_n 0, 1) := by decide +kernel
theorem d_law_852 : decode M_law.2.1 852 = .ok (.iload_n 3, 1) := by decide +kernel
theorem d_law_853 : decode M_law.2.1 853 = .ok (.iconst 1, 1) := by decide +kernel
theorem d_law_854 : decode M_law.2.1 854 = .ok (.iadd, 1) := by decide +kernel
theorem d_law_855 : decode M_law.2.1 855 = .ok (.iaload, 1) := by decide +kernel
theorem d_law_856 : decode M_law.2.1 856 = .ok (.aload_n 0, 1) := by decide +kernel
theorem d_law_857 : decode M_law.2.1 857 = .ok (.iload_n 3, 1) := by decide +kernel
theorem d_law_858 : decode M_law.2.1 858 = .ok (.iconst 2, 1) := by decide +kernel
theorem d_law_859 : decode M_law.2.1 859 = .ok (.iadd, 1) := by decide +kernel
theorem d_law_860 : decode M_law.2.1 860 = .ok (.iaload, 1) := by decide +kernel
theorem d_law_861 : decode M_law.2.1 861 = .ok (.invokevirtual 118, 3) := by decide +kernel
theorem d_law_864 : decode M_law.2.1 864 = .ok (.aload_n 2, 1) := by decide +kernel
theorem d_law_865 : decode M_law.2.1 865 = .ok (.aload_n 0, 1) := by decide +kernel
theorem d_law_866 : decode M_law.2.1 866 = .ok (.iload_n 3, 1) := by decide +kernel
theorem d_law_867 : decode M_law.2.1 867 = .ok (.iconst 1, 1) := by decide +kernel
theorem d_law_868 : decode M_law.2.1 868 = .ok (.iadd, 1) := by decide +kernel
theorem d_law_869 : decode M_law.2.1 869 = .ok (.iaload, 1) := by decide +kernel
theorem d_law_870 : decode M_law.2.1 870 = .ok (.aload_n 0, 1) := by decide +kernel
theorem d_law_871 : decode M_law.2.1 871 = .ok (.iload_n 3, 1) := by decide +kernel
theorem d_law_872 : decode M_law.2.1 872 = .ok (.iconst 2, 1) := by decide +kernel
theorem d_law_873 : decode M_law.2.1 873 = .ok (.iadd, 1) := by decide +kernel
theorem d_law_874 : decode M_law.2.1 874 = .ok (.iaload, 1) := by decide +kernel
theorem d_law_875 : decode M_law.2.1 875 = .ok (.invokevirtual 121, 3) := by decide +kernel
theorem d_law_878 : decode M_law.2.1 878 = .ok (.if_icmp .eq 163, 3) := by decide +kernel
theorem d_law_881 : decode M_law.2.1 881 = .ok (.iconst 0, 1) := by decide +kernel
theorem d_law_882 : decode M_law.2.1 882 = .ok (.ireturn, 1) := by decide +kernel
theorem d_law_883 : decode M_law.2.1 883 = .ok (.aload_n 1, 1) := by decide +kernel
theorem d_law_884 : decode M_law.2.1 884 = .ok (.aload_n 0, 1) := by decide +kernel
theorem d_law_885 : decode M_law.2.1 885 = .ok (.iload_n 3, 1) := by decide +kernel
theorem d_law_886 : decode M_law.2.1 886 = .ok (.iconst 1, 1) := by decide +kernel
theorem d_law_887 : decode M_law.2.1 887 = .ok (.iadd, 1) := by decide +kernel
theorem d_law_888 : decode M_law.2.1 888 = .ok (.iaload, 1) := by decide +kernel
theorem d_law_889 : decode M_law.2.1 889 = .ok (.aload_n 0, 1) := by decide +kernel
theorem d_law_890 : decode M_law.2.1 890 = .ok (.iload_n 3, 1) := by decide +kernel
theorem d_law_891 : decode M_law.2.1 891 = .ok (.iconst 2, 1) := by decide +kernel
theorem d_law_892 : decode M_law.2.1 892 = .ok (.iadd, 1) := by decide +kernel
theorem d_law_893 : decode M_law.2.1 893 = .ok (.iaload, 1) := by decide +kernel
theorem d_law_894 : decode M_law.2.1 894 = .ok (.invokevirtual 122, 3) := by decide +kernel
theorem d_law_897 : decode M_law.2.1 897 = .ok (.aload_n 2, 1) := by decide +kernel
theorem d_law_898 : decode M_law.2.1 898 = .ok (.aload_n 0, 1) := by decide +kernel
theorem d_law_899 : decode M_law.2.1 899 = .ok (.iload_n 3, 1) := by decide +kernel
theorem d_law_900 : decode M_law.2.1 900 = .ok (.iconst 1, 1) := by decide +kernel
theorem d_law_901 : decode M_law.2.1 901 = .ok (.iadd, 1) := by decide +kernel
theorem d_law_902 : decode M_law.2.1 902 = .ok (.iaload, 1) := by decide +kernel
theorem d_law_903 : decode M_law.2.1 903 = .ok (.aload_n 0, 1) := by decide +kernel
theorem d_law_904 : decode M_law.2.1 904 = .ok (.iload_n 3, 1) := by decide +kernel
theorem d_law_905 : decode M_law.2.1 905 = .ok (.iconst 2, 1) := by decide +kernel
theorem d_law_906 : decode M_law.2.1 906 = .ok (.iadd, 1) := by decide +kernel
theorem d_law_907 : decode M_law.2.1 907 = .ok (.iaload, 1) := by decide +kernel
theorem d_law_908 : decode M_law.2.1 908 = .ok (.invokevirtual 125, 3) := by decide +kernel
theorem d_law_911 : decode M_law.2.1 911 = .ok (.if_icmp .eq 130, 3) := by decide +kernel
theorem d_law_914 : decode M_law.2.1 914 = .ok (.iconst 0, 1) := by decide +kernel
theorem d_law_915 : decode M_law.2.1 915 = .ok (.ireturn, 1) := by decide +kernel
theorem d_law_916 : decode M_law.2.1 916 = .ok (.aload_n 1, 1) := by decide +kernel
theorem d_law_917 : decode M_law.2.1 917 = .ok (.invokevirtual 126, 3) := by decide +kernel
theorem d_law_920 : decode M_law.2.1 920 = .ok (.aload_n 2, 1) := by decide +kernel
theorem d_law_921 : decode M_law.2.1 921 = .ok (.invokevirtual 129, 3) := by decide +kernel
theorem d_law_924 : decode M_law.2.1 924 = .ok (.if_icmp .eq 117, 3) := by decide +kernel
theorem d_law_927 : decode M_law.2.1 927 = .ok (.iconst 0, 1) := by decide +kernel
theorem d_law_928 : decode M_law.2.1 928 = .ok (.ireturn, 1) := by decide +kernel
theorem d_law_929 : decode M_law.2.1 929 = .ok (.aload_n 1, 1) := by decide +kernel
theorem d_law_930 : decode M_law.2.1 930 = .ok (.aload_n 0, 1) := by decide +kernel
theorem d_law_931 : decode M_law.2.1 931 = .ok (.iload_n 3, 1) := by decide +kernel
theorem d_law_932 : decode M_law.2.1 932 = .ok (.iconst 1, 1) := by decide +kernel
theorem d_law_933 : decode M_law.2.1 933 = .ok (.iadd, 1) := by decide +kernel
theorem d_law_934 : decode M_law.2.1 934 = .ok (.iaload, 1) := by decide +kernel
theorem d_law_935 : decode M_law.2.1 935 = .ok (.aload_n 0, 1) := by decide +kernel
theorem d_law_936 : decode M_law.2.1 936 = .ok (.iload_n 3, 1) := by decide +kernel
theorem d_law_937 : decode M_law.2.1 937 = .ok (.iconst 2, 1) := by decide +kernel
theorem d_law_938 : decode M_law.2.1 938 = .ok (.iadd, 1) := by decide +kernel
theorem d_law_939 : decode M_law.2.1 939 = .ok (.iaload, 1) := by decide +kernel
theorem d_law_940 : decode M_law.2.1 940 = .ok (.aload_n 0, 1) := by decide +kernel
theorem d_law_941 : decode M_law.2.1 941 = .ok (.iload_n 3, 1) := by decide +kernel
theorem d_law_942 : decode M_law.2.1 942 = .ok (.iconst 3, 1) := by decide +kernel
theorem d_law_943 : decode M_law.2.1 943 = .ok (.iadd, 1) := by decide +kernel
theorem d_law_944 : decode M_law.2.1 944 = .ok (.iaload, 1) := by decide +kernel
theorem d_law_945 : decode M_law.2.1 945 = .ok (.invokevirtual 130, 3) := by decide +kernel
theorem d_law_948 : decode M_law.2.1 948 = .ok (.aload_n 2, 1) := by decide +kernel
theorem d_law_949 : decode M_law.2.1 949 = .ok (.aload_n 0, 1) := by decide +kernel
theorem d_law_950 : decode M_law.2.1 950 = .ok (.iload_n 3, 1) := by decide +kernel
theorem d_law_951 : decode M_law.2.1 951 = .ok (.iconst 1, 1) := by decide +kernel
theorem d_law_952 : decode M_law.2.1 952 = .ok (.iadd, 1) := by decide +kernel
theorem d_law_953 : decode M_law.2.1 953 = .ok (.iaload, 1) := by decide +kernel
theorem d_law_954 : decode M_law.2.1 954 = .ok (.aload_n 0, 1) := by decide +kernel
theorem d_law_955 : decode M_law.2.1 955 = .ok (.iload_n 3, 1) := by decide +kernel
theorem d_law_956 : decode M_law.2.1 956 = .ok (.iconst 2, 1) := by decide +kernel
theorem d_law_957 : decode M_law.2.1 957 = .ok (.iadd, 1) := by decide +kernel
theorem d_law_958 : decode M_law.2.1 958 = .ok (.iaload, 1) := by decide +kernel
theorem d_law_959 : decode M_law.2.1 959 = .ok (.aload_n 0, 1) := by decide +kernel
theorem d_law_960 : decode M_law.2.1 960 = .ok (.iload_n 3, 1) := by decide +kernel
theorem d_law_961 : decode M_law.2.1 961 = .ok (.iconst 3, 1) := by decide +kernel
theorem d_law_962 : decode M_law.2.1 962 = .ok (.iadd, 1) := by decide +kernel
theorem d_law_963 : decode M_law.2.1 963 = .ok (.iaload, 1) := by decide +kernel
theorem d_law_964 : decode M_law.2.1 964 = .ok (.invokevirtual 133, 3) := by decide +kernel
theorem d_law_967 : decode M_law.2.1 967 = .ok (.if_icmp .eq 74, 3) := by decide +kernel
theorem d_law_970 : decode M_law.2.1 970 = .ok (.iconst 0, 1) := by decide +kernel
theorem d_law_971 : decode M_law.2.1 971 = .ok (.ireturn, 1) := by decide +kernel
theorem d_law_972 : decode M_law.2.1 972 = .ok (.aload_n 1, 1) := by decide +kernel
theorem d_law_973 : decode M_law.2.1 973 = .ok (.aload_n 0, 1) := by decide +kernel
theorem d_law_974 : decode M_law.2.1 974 = .ok (.iload_n 3, 1) := by decide +kernel
theorem d_law_975 : decode M_law.2.1 975 = .ok (.iconst 1, 1) := by decide +kernel
theorem d_law_976 : decode M_law.2.1 976 = .ok (.iadd, 1) := by decide +kernel
theorem d_law_977 : decode M_law.2.1 977 = .ok (.iaload, 1) := by decide +kernel
theorem d_law_978 : decode M_law.2.1 978 = .ok (.invokevirtual 134, 3) := by decide +kernel
theorem d_law_981 : decode M_law.2.1 981 = .ok (.aload_n 2, 1) := by decide +kernel
theorem d_law_982 : decode M_law.2.1 982 = .ok (.aload_n 0, 1) := by decide +kernel
theorem d_law_983 : decode M_law.2.1 983 = .ok (.iload_n 3, 1) := by decide +kernel
theorem d_law_984 : decode M_law.2.1 984 = .ok (.iconst 1, 1) := by decide +kernel
theorem d_law_985 : decode M_law.2.1 985 = .ok (.iadd, 1) := by decide +kernel
theorem d_law_986 : decode M_law.2.1 986 = .ok (.iaload, 1) := by decide +kernel
theorem d_law_987 : decode M_law.2.1 987 = .ok (.invokevirtual 137, 3) := by decide +kernel
theorem d_law_990 : decode M_law.2.1 990 = .ok (.if_icmp .eq 51, 3) := by decide +kernel
theorem d_law_993 : decode M_law.2.1 993 = .ok (.iconst 0, 1) := by decide +kernel
theorem d_law_994 : decode M_law.2.1 994 = .ok (.ireturn, 1) := by decide +kernel
theorem d_law_995 : decode M_law.2.1 995 = .ok (.aload_n 1, 1) := by decide +kernel
theorem d_law_996 : decode M_law.2.1 996 = .ok (.aload_n 0, 1) := by decide +kernel
theorem d_law_997 : decode M_law.2.1 997 = .ok (.iload_n 3, 1) := by decide +kernel
theorem d_law_998 : decode M_law.2.1 998 = .ok (.iconst 1, 1) := by decide +kernel
theorem d_law_999 : decode M_law.2.1 999 = .ok (.iadd, 1) := by decide +kernel
theorem d_law_1000 : decode M_law.2.1 1000 = .ok (.iaload, 1) := by decide +kernel
theorem d_law_1001 : decode M_law.2.1 1001 = .ok (.invokevirtual 138, 3) := by decide +kernel
theorem d_law_1004 : decode M_law.2.1 1004 = .ok (.aload_n 2, 1) := by decide +kernel
theorem d_law_1005 : decode M_law.2.1 1005 = .ok (.aload_n 0, 1) := by decide +kernel
theorem d_law_1006 : decode M_law.2.1 1006 = .ok (.iload_n 3, 1) := by decide +kernel
theorem d_law_1007 : decode M_law.2.1 1007 = .ok (.iconst 1, 1) := by decide +kernel
theorem d_law_1008 : decode M_law.2.1 1008 = .ok (.iadd, 1) := by decide +kernel
theorem d_law_1009 : decode M_law.2.1 1009 = .ok (.iaload, 1) := by decide +kernel
theorem d_law_1010 : decode M_law.2.1 1010 = .ok (.invokevirtual 141, 3) := by decide +kernel
theorem d_law_1013 : decode M_law.2.1 1013 = .ok (.if_icmp .eq 28, 3) := by decide +kernel
theorem d_law_1016 : decode M_law.2.1 1016 = .ok (.iconst 0, 1) := by decide +kernel
theorem d_law_1017 : decode M_law.2.1 1017 = .ok (.ireturn, 1) := by decide +kernel
theorem d_law_1018 : decode M_law.2.1 1018 = .ok (.aload_n 1, 1) := by decide +kernel
theorem d_law_1019 : decode M_law.2.1 1019 = .ok (.aload_n 0, 1) := by decide +kernel
theorem d_law_1020 : decode M_law.2.1 1020 = .ok (.iload_n 3, 1) := by decide +kernel
theorem d_law_1021 : decode M_law.2.1 1021 = .ok (.iconst 1, 1) := by decide +kernel
theorem d_law_1022 : decode M_law.2.1 1022 = .ok (.iadd, 1) := by decide +kernel
theorem d_law_1023 : decode M_law.2.1 1023 = .ok (.iaload, 1) := by decide +kernel
theorem d_law_1024 : decode M_law.2.1 1024 = .ok (.invokevirtual 142, 3) := by decide +kernel
theorem d_law_1027 : decode M_law.2.1 1027 = .ok (.aload_n 2, 1) := by decide +kernel
theorem d_law_1028 : decode M_law.2.1 1028 = .ok (.aload_n 0, 1) := by decide +kernel
theorem d_law_1029 : decode M_law.2.1 1029 = .ok (.iload_n 3, 1) := by decide +kernel
theorem d_law_1030 : decode M_law.2.1 1030 = .ok (.iconst 1, 1) := by decide +kernel
theorem d_law_1031 : decode M_law.2.1 1031 = .ok (.iadd, 1) := by decide +kernel
theorem d_law_1032 : decode M_law.2.1 1032 = .ok (.iaload, 1) := by decide +kernel
theorem d_law_1033 : decode M_law.2.1 1033 = .ok (.invokevirtual 145, 3) := by decide +kernel
theorem d_law_1036 : decode M_law.2.1 1036 = .ok (.if_icmp .eq 5, 3) := by decide +kernel
theorem d_law_1039 : decode M_law.2.1 1039 = .ok (.iconst 0, 1) := by decide +kernel
theorem d_law_1040 : decode M_law.2.1 1040 = .ok (.ireturn, 1) := by decide +kernel
theorem d_law_1041 : decode M_law.2.1 1041 = .ok (.iinc 3 6, 3) := by decide +kernel
theorem d_law_1044 : decode M_law.2.1 1044 = .ok (.goto (-1026), 3) := by decide +kernel
theorem d_law_1047 : decode M_law.2.1 1047 = .ok (.iconst 1, 1) := by decide +kernel
theorem d_law_1048 : decode M_law.2.1 1048 = .ok (.ireturn, 1) := by decide +kernel
