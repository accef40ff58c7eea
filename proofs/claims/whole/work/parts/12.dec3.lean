/-! what stands at each place of the code (written by wip/gen/gen10.py) -/
theorem d_Mo_init_0 : decode M_Mo_init.2.1 0 = .ok (.aload_n 0, 1) := by decide +kernel
theorem d_Mo_init_1 : decode M_Mo_init.2.1 1 = .ok (.invokespecial 7, 3) := by decide +kernel
theorem d_Mo_init_4 : decode M_Mo_init.2.1 4 = .ok (.aload_n 0, 1) := by decide +kernel
theorem d_Mo_init_5 : decode M_Mo_init.2.1 5 = .ok (.sipush 2000, 3) := by decide +kernel
theorem d_Mo_init_8 : decode M_Mo_init.2.1 8 = .ok (.newarray .byte, 2) := by decide +kernel
theorem d_Mo_init_10 : decode M_Mo_init.2.1 10 = .ok (.putfield 13, 3) := by decide +kernel
theorem d_Mo_init_13 : decode M_Mo_init.2.1 13 = .ok (.aload_n 0, 1) := by decide +kernel
theorem d_Mo_init_14 : decode M_Mo_init.2.1 14 = .ok (.sipush 2000, 3) := by decide +kernel
theorem d_Mo_init_17 : decode M_Mo_init.2.1 17 = .ok (.newarray .byte, 2) := by decide +kernel
theorem d_Mo_init_19 : decode M_Mo_init.2.1 19 = .ok (.putfield 17, 3) := by decide +kernel
theorem d_Mo_init_22 : decode M_Mo_init.2.1 22 = .ok (.aload_n 0, 1) := by decide +kernel
theorem d_Mo_init_23 : decode M_Mo_init.2.1 23 = .ok (.sipush 403, 3) := by decide +kernel
theorem d_Mo_init_26 : decode M_Mo_init.2.1 26 = .ok (.newarray .int, 2) := by decide +kernel
theorem d_Mo_init_28 : decode M_Mo_init.2.1 28 = .ok (.putfield 20, 3) := by decide +kernel
theorem d_Mo_init_31 : decode M_Mo_init.2.1 31 = .ok (.aload_n 0, 1) := by decide +kernel
theorem d_Mo_init_32 : decode M_Mo_init.2.1 32 = .ok (.sipush 403, 3) := by decide +kernel
theorem d_Mo_init_35 : decode M_Mo_init.2.1 35 = .ok (.newarray .int, 2) := by decide +kernel
theorem d_Mo_init_37 : decode M_Mo_init.2.1 37 = .ok (.putfield 24, 3) := by decide +kernel
theorem d_Mo_init_40 : decode M_Mo_init.2.1 40 = .ok (.aload_n 0, 1) := by decide +kernel
theorem d_Mo_init_41 : decode M_Mo_init.2.1 41 = .ok (.sipush 403, 3) := by decide +kernel
theorem d_Mo_init_44 : decode M_Mo_init.2.1 44 = .ok (.newarray .int, 2) := by decide +kernel
theorem d_Mo_init_46 : decode M_Mo_init.2.1 46 = .ok (.putfield 27, 3) := by decide +kernel
theorem d_Mo_init_49 : decode M_Mo_init.2.1 49 = .ok (.aload_n 0, 1) := by decide +kernel
theorem d_Mo_init_50 : decode M_Mo_init.2.1 50 = .ok (.sipush 403, 3) := by decide +kernel
theorem d_Mo_init_53 : decode M_Mo_init.2.1 53 = .ok (.newarray .long, 2) := by decide +kernel
theorem d_Mo_init_55 : decode M_Mo_init.2.1 55 = .ok (.putfield 30, 3) := by decide +kernel
theorem d_Mo_init_58 : decode M_Mo_init.2.1 58 = .ok (.aload_n 0, 1) := by decide +kernel
theorem d_Mo_init_59 : decode M_Mo_init.2.1 59 = .ok (.bipush 14, 2) := by decide +kernel
theorem d_Mo_init_61 : decode M_Mo_init.2.1 61 = .ok (.newarray .long, 2) := by decide +kernel
theorem d_Mo_init_63 : decode M_Mo_init.2.1 63 = .ok (.putfield 34, 3) := by decide +kernel
theorem d_Mo_init_66 : decode M_Mo_init.2.1 66 = .ok (.aload_n 0, 1) := by decide +kernel
theorem d_Mo_init_67 : decode M_Mo_init.2.1 67 = .ok (.iconst (-1), 1) := by decide +kernel
theorem d_Mo_init_68 : decode M_Mo_init.2.1 68 = .ok (.putfield 37, 3) := by decide +kernel
theorem d_Mo_init_71 : decode M_Mo_init.2.1 71 = .ok (.aload_n 0, 1) := by decide +kernel
theorem d_Mo_init_72 : decode M_Mo_init.2.1 72 = .ok (.bipush 20, 2) := by decide +kernel
theorem d_Mo_init_74 : decode M_Mo_init.2.1 74 = .ok (.newarray .long, 2) := by decide +kernel
theorem d_Mo_init_76 : decode M_Mo_init.2.1 76 = .ok (.putfield 40, 3) := by decide +kernel
theorem d_Mo_init_79 : decode M_Mo_init.2.1 79 = .ok (.aload_n 0, 1) := by decide +kernel
theorem d_Mo_init_80 : decode M_Mo_init.2.1 80 = .ok (.bipush 20, 2) := by decide +kernel
theorem d_Mo_init_82 : decode M_Mo_init.2.1 82 = .ok (.newarray .int, 2) := by decide +kernel
theorem d_Mo_init_84 : decode M_Mo_init.2.1 84 = .ok (.putfield 43, 3) := by decide +kernel
theorem d_Mo_init_87 : decode M_Mo_init.2.1 87 = .ok (.aload_n 0, 1) := by decide +kernel
theorem d_Mo_init_88 : decode M_Mo_init.2.1 88 = .ok (.bipush 20, 2) := by decide +kernel
theorem d_Mo_init_90 : decode M_Mo_init.2.1 90 = .ok (.newarray .int, 2) := by decide +kernel
theorem d_Mo_init_92 : decode M_Mo_init.2.1 92 = .ok (.putfield 46, 3) := by decide +kernel
theorem d_Mo_init_95 : decode M_Mo_init.2.1 95 = .ok (.aload_n 0, 1) := by decide +kernel
theorem d_Mo_init_96 : decode M_Mo_init.2.1 96 = .ok (.iconst 2, 1) := by decide +kernel
theorem d_Mo_init_97 : decode M_Mo_init.2.1 97 = .ok (.newarray .int, 2) := by decide +kernel
theorem d_Mo_init_99 : decode M_Mo_init.2.1 99 = .ok (.putfield 49, 3) := by decide +kernel
theorem d_Mo_init_102 : decode M_Mo_init.2.1 102 = .ok (.aload_n 0, 1) := by decide +kernel
theorem d_Mo_init_103 : decode M_Mo_init.2.1 103 = .ok (.bipush 16, 2) := by decide +kernel
theorem d_Mo_init_105 : decode M_Mo_init.2.1 105 = .ok (.newarray .int, 2) := by decide +kernel
theorem d_Mo_init_107 : decode M_Mo_init.2.1 107 = .ok (.putfield 52, 3) := by decide +kernel
theorem d_Mo_init_110 : decode M_Mo_init.2.1 110 = .ok (.aload_n 0, 1) := by decide +kernel
theorem d_Mo_init_111 : decode M_Mo_init.2.1 111 = .ok (.bipush 16, 2) := by decide +kernel
theorem d_Mo_init_113 : decode M_Mo_init.2.1 113 = .ok (.newarray .int, 2) := by decide +kernel
theorem d_Mo_init_115 : decode M_Mo_init.2.1 115 = .ok (.putfield 55, 3) := by decide +kernel
theorem d_Mo_init_118 : decode M_Mo_init.2.1 118 = .ok (.aload_n 0, 1) := by decide +kernel
theorem d_Mo_init_119 : decode M_Mo_init.2.1 119 = .ok (.bipush 16, 2) := by decide +kernel
theorem d_Mo_init_121 : decode M_Mo_init.2.1 121 = .ok (.newarray .int, 2) := by decide +kernel
theorem d_Mo_init_123 : decode M_Mo_init.2.1 123 = .ok (.putfield 58, 3) := by decide +kernel
theorem d_Mo_init_126 : decode M_Mo_init.2.1 126 = .ok (.aload_n 0, 1) := by decide +kernel
theorem d_Mo_init_127 : decode M_Mo_init.2.1 127 = .ok (.bipush 16, 2) := by decide +kernel
theorem d_Mo_init_129 : decode M_Mo_init.2.1 129 = .ok (.newarray .int, 2) := by decide +kernel
theorem d_Mo_init_131 : decode M_Mo_init.2.1 131 = .ok (.putfield 61, 3) := by decide +kernel
theorem d_Mo_init_134 : decode M_Mo_init.2.1 134 = .ok (.aload_n 0, 1) := by decide +kernel
theorem d_Mo_init_135 : decode M_Mo_init.2.1 135 = .ok (.iconst 2, 1) := by decide +kernel
theorem d_Mo_init_136 : decode M_Mo_init.2.1 136 = .ok (.newarray .int, 2) := by decide +kernel
theorem d_Mo_init_138 : decode M_Mo_init.2.1 138 = .ok (.putfield 64, 3) := by decide +kernel
theorem d_Mo_init_141 : decode M_Mo_init.2.1 141 = .ok (.aload_n 0, 1) := by decide +kernel
theorem d_Mo_init_142 : decode M_Mo_init.2.1 142 = .ok (.bipush 24, 2) := by decide +kernel
theorem d_Mo_init_144 : decode M_Mo_init.2.1 144 = .ok (.newarray .int, 2) := by decide +kernel
theorem d_Mo_init_146 : decode M_Mo_init.2.1 146 = .ok (.putfield 67, 3) := by decide +kernel
theorem d_Mo_init_149 : decode M_Mo_init.2.1 149 = .ok (.aload_n 0, 1) := by decide +kernel
theorem d_Mo_init_150 : decode M_Mo_init.2.1 150 = .ok (.iconst 2, 1) := by decide +kernel
theorem d_Mo_init_151 : decode M_Mo_init.2.1 151 = .ok (.newarray .int, 2) := by decide +kernel
theorem d_Mo_init_153 : decode M_Mo_init.2.1 153 = .ok (.putfield 70, 3) := by decide +kernel
theorem d_Mo_init_156 : decode M_Mo_init.2.1 156 = .ok (.aload_n 0, 1) := by decide +kernel
theorem d_Mo_init_157 : decode M_Mo_init.2.1 157 = .ok (.bipush 48, 2) := by decide +kernel
theorem d_Mo_init_159 : decode M_Mo_init.2.1 159 = .ok (.newarray .int, 2) := by decide +kernel
theorem d_Mo_init_161 : decode M_Mo_init.2.1 161 = .ok (.putfield 73, 3) := by decide +kernel
theorem d_Mo_init_164 : decode M_Mo_init.2.1 164 = .ok (.aload_n 0, 1) := by decide +kernel
theorem d_Mo_init_165 : decode M_Mo_init.2.1 165 = .ok (.iconst 2, 1) := by decide +kernel
theorem d_Mo_init_166 : decode M_Mo_init.2.1 166 = .ok (.newarray .int, 2) := by decide +kernel
theorem d_Mo_init_168 : decode M_Mo_init.2.1 168 = .ok (.putfield 76, 3) := by decide +kernel
theorem d_Mo_init_171 : decode M_Mo_init.2.1 171 = .ok (.aload_n 0, 1) := by decide +kernel
theorem d_Mo_init_172 : decode M_Mo_init.2.1 172 = .ok (.iconst 2, 1) := by decide +kernel
theorem d_Mo_init_173 : decode M_Mo_init.2.1 173 = .ok (.newarray .int, 2) := by decide +kernel
theorem d_Mo_init_175 : decode M_Mo_init.2.1 175 = .ok (.putfield 79, 3) := by decide +kernel
theorem d_Mo_init_178 : decode M_Mo_init.2.1 178 = .ok (.aload_n 0, 1) := by decide +kernel
theorem d_Mo_init_179 : decode M_Mo_init.2.1 179 = .ok (.iconst 2, 1) := by decide +kernel
theorem d_Mo_init_180 : decode M_Mo_init.2.1 180 = .ok (.newarray .int, 2) := by decide +kernel
theorem d_Mo_init_182 : decode M_Mo_init.2.1 182 = .ok (.putfield 82, 3) := by decide +kernel
theorem d_Mo_init_185 : decode M_Mo_init.2.1 185 = .ok (.aload_n 0, 1) := by decide +kernel
theorem d_Mo_init_186 : decode M_Mo_init.2.1 186 = .ok (.sipush 260, 3) := by decide +kernel
theorem d_Mo_init_189 : decode M_Mo_init.2.1 189 = .ok (.newarray .boolean, 2) := by decide +kernel
theorem d_Mo_init_191 : decode M_Mo_init.2.1 191 = .ok (.putfield 85, 3) := by decide +kernel
theorem d_Mo_init_194 : decode M_Mo_init.2.1 194 = .ok (.aload_n 0, 1) := by decide +kernel
theorem d_Mo_init_195 : decode M_Mo_init.2.1 195 = .ok (.sipush 260, 3) := by decide +kernel
theorem d_Mo_init_198 : decode M_Mo_init.2.1 198 = .ok (.newarray .int, 2) := by decide +kernel
theorem d_Mo_init_200 : decode M_Mo_init.2.1 200 = .ok (.putfield 89, 3) := by decide +kernel
theorem d_Mo_init_203 : decode M_Mo_init.2.1 203 = .ok (.aload_n 0, 1) := by decide +kernel
theorem d_Mo_init_204 : decode M_Mo_init.2.1 204 = .ok (.sipush 260, 3) := by decide +kernel
theorem d_Mo_init_207 : decode M_Mo_init.2.1 207 = .ok (.newarray .int, 2) := by decide +kernel
theorem d_Mo_init_209 : decode M_Mo_init.2.1 209 = .ok (.putfield 92, 3) := by decide +kernel
theorem d_Mo_init_212 : decode M_Mo_init.2.1 212 = .ok (.aload_n 0, 1) := by decide +kernel
theorem d_Mo_init_213 : decode M_Mo_init.2.1 213 = .ok (.sipush 260, 3) := by decide +kernel
theorem d_Mo_init_216 : decode M_Mo_init.2.1 216 = .ok (.newarray .int, 2) := by decide +kernel
theorem d_Mo_init_218 : decode M_Mo_init.2.1 218 = .ok (.putfield 95, 3) := by decide +kernel
theorem d_Mo_init_221 : decode M_Mo_init.2.1 221 = .ok (.aload_n 0, 1) := by decide +kernel
theorem d_Mo_init_222 : decode M_Mo_init.2.1 222 = .ok (.sipush 260, 3) := by decide +kernel
theorem d_Mo_init_225 : decode M_Mo_init.2.1 225 = .ok (.newarray .int, 2) := by decide +kernel
theorem d_Mo_init_227 : decode M_Mo_init.2.1 227 = .ok (.putfield 98, 3) := by decide +kernel
theorem d_Mo_init_230 : decode M_Mo_init.2.1 230 = .ok (.aload_n 0, 1) := by decide +kernel
theorem d_Mo_init_231 : decode M_Mo_init.2.1 231 = .ok (.sipush 840, 3) := by decide +kernel
theorem d_Mo_init_234 : decode M_Mo_init.2.1 234 = .ok (.newarray .int, 2) := by decide +kernel
theorem d_Mo_init_236 : decode M_Mo_init.2.1 236 = .ok (.putfield 101, 3) := by decide +kernel
theorem d_Mo_init_239 : decode M_Mo_init.2.1 239 = .ok (.aload_n 0, 1) := by decide +kernel
theorem d_Mo_init_240 : decode M_Mo_init.2.1 240 = .ok (.sipush 840, 3) := by decide +kernel
theorem d_Mo_init_243 : decode M_Mo_init.2.1 243 = .ok (.newarray .int, 2) := by decide +kernel
theorem d_Mo_init_245 : decode M_Mo_init.2.1 245 = .ok (.putfield 104, 3) := by decide +kernel
theorem d_Mo_init_248 : decode M_Mo_init.2.1 248 = .ok (.aload_n 0, 1) := by decide +kernel
theorem d_Mo_init_249 : decode M_Mo_init.2.1 249 = .ok (.bipush 64, 2) := by decide +kernel
theorem d_Mo_init_251 : decode M_Mo_init.2.1 251 = .ok (.newarray .int, 2) := by decide +kernel
theorem d_Mo_init_253 : decode M_Mo_init.2.1 253 = .ok (.putfield 107, 3) := by decide +kernel
theorem d_Mo_init_256 : decode M_Mo_init.2.1 256 = .ok (.aload_n 0, 1) := by decide +kernel
theorem d_Mo_init_257 : decode M_Mo_init.2.1 257 = .ok (.bipush 6, 2) := by decide +kernel
theorem d_Mo_init_259 : decode M_Mo_init.2.1 259 = .ok (.newarray .int, 2) := by decide +kernel
theorem d_Mo_init_261 : decode M_Mo_init.2.1 261 = .ok (.putfield 110, 3) := by decide +kernel
theorem d_Mo_init_264 : decode M_Mo_init.2.1 264 = .ok (.aload_n 0, 1) := by decide +kernel
theorem d_Mo_init_265 : decode M_Mo_init.2.1 265 = .ok (.sipush 400, 3) := by decide +kernel
theorem d_Mo_init_268 : decode M_Mo_init.2.1 268 = .ok (.newarray .int, 2) := by decide +kernel
theorem d_Mo_init_270 : decode M_Mo_init.2.1 270 = .ok (.putfield 113, 3) := by decide +kernel
theorem d_Mo_init_273 : decode M_Mo_init.2.1 273 = .ok (.aload_n 0, 1) := by decide +kernel
theorem d_Mo_init_274 : decode M_Mo_init.2.1 274 = .ok (.bipush 100, 2) := by decide +kernel
theorem d_Mo_init_276 : decode M_Mo_init.2.1 276 = .ok (.newarray .int, 2) := by decide +kernel
theorem d_Mo_init_278 : decode M_Mo_init.2.1 278 = .ok (.putfield 116, 3) := by decide +kernel
theorem d_Mo_init_281 : decode M_Mo_init.2.1 281 = .ok (.aload_n 0, 1) := by decide +kernel
theorem d_Mo_init_282 : decode M_Mo_init.2.1 282 = .ok (.bipush 100, 2) := by decide +kernel
theorem d_Mo_init_284 : decode M_Mo_init.2.1 284 = .ok (.newarray .int, 2) := by decide +kernel
theorem d_Mo_init_286 : decode M_Mo_init.2.1 286 = .ok (.putfield 119, 3) := by decide +kernel
theorem d_Mo_init_289 : decode M_Mo_init.2.1 289 = .ok (.aload_n 0, 1) := by decide +kernel
theorem d_Mo_init_290 : decode M_Mo_init.2.1 290 = .ok (.sipush 4000, 3) := by decide +kernel
theorem d_Mo_init_293 : decode M_Mo_init.2.1 293 = .ok (.newarray .int, 2) := by decide +kernel
theorem d_Mo_init_295 : decode M_Mo_init.2.1 295 = .ok (.putfield 122, 3) := by decide +kernel
theorem d_Mo_init_298 : decode M_Mo_init.2.1 298 = .ok (.aload_n 0, 1) := by decide +kernel
theorem d_Mo_init_299 : decode M_Mo_init.2.1 299 = .ok (.sipush 3072, 3) := by decide +kernel
theorem d_Mo_init_302 : decode M_Mo_init.2.1 302 = .ok (.newarray .int, 2) := by decide +kernel
theorem d_Mo_init_304 : decode M_Mo_init.2.1 304 = .ok (.putfield 125, 3) := by decide +kernel
theorem d_Mo_init_307 : decode M_Mo_init.2.1 307 = .ok (.aload_n 0, 1) := by decide +kernel
theorem d_Mo_init_308 : decode M_Mo_init.2.1 308 = .ok (.bipush 20, 2) := by decide +kernel
theorem d_Mo_init_310 : decode M_Mo_init.2.1 310 = .ok (.newarray .int, 2) := by decide +kernel
theorem d_Mo_init_312 : decode M_Mo_init.2.1 312 = .ok (.putfield 128, 3) := by decide +kernel
theorem d_Mo_init_315 : decode M_Mo_init.2.1 315 = .ok (.aload_n 0, 1) := by decide +kernel
theorem d_Mo_init_316 : decode M_Mo_init.2.1 316 = .ok (.bipush 20, 2) := by decide +kernel
theorem d_Mo_init_318 : decode M_Mo_init.2.1 318 = .ok (.newarray .int, 2) := by decide +kernel
theorem d_Mo_init_320 : decode M_Mo_init.2.1 320 = .ok (.putfield 131, 3) := by decide +kernel
theorem d_Mo_init_323 : decode M_Mo_init.2.1 323 = .ok (.aload_n 0, 1) := by decide +kernel
theorem d_Mo_init_324 : decode M_Mo_init.2.1 324 = .ok (.bipush 8, 2) := by decide +kernel
theorem d_Mo_init_326 : decode M_Mo_init.2.1 326 = .ok (.newarray .int, 2) := by decide +kernel
theorem d_Mo_init_328 : decode M_Mo_init.2.1 328 = .ok (.putfield 134, 3) := by decide +kernel
theorem d_Mo_init_331 : decode M_Mo_init.2.1 331 = .ok (.aload_n 0, 1) := by decide +kernel
theorem d_Mo_init_332 : decode M_Mo_init.2.1 332 = .ok (.iconst 3, 1) := by decide +kernel
theorem d_Mo_init_333 : decode M_Mo_init.2.1 333 = .ok (.newarray .boolean, 2) := by decide +kernel
theorem d_Mo_init_335 : decode M_Mo_init.2.1 335 = .ok (.putfield 137, 3) := by decide +kernel
theorem d_Mo_init_338 : decode M_Mo_init.2.1 338 = .ok (.aload_n 0, 1) := by decide +kernel
theorem d_Mo_init_339 : decode M_Mo_init.2.1 339 = .ok (.sipush 300, 3) := by decide +kernel
theorem d_Mo_init_342 : decode M_Mo_init.2.1 342 = .ok (.newarray .int, 2) := by decide +kernel
theorem d_Mo_init_344 : decode M_Mo_init.2.1 344 = .ok (.putfield 140, 3) := by decide +kernel
theorem d_Mo_init_347 : decode M_Mo_init.2.1 347 = .ok (.aload_n 0, 1) := by decide +kernel
theorem d_Mo_init_348 : decode M_Mo_init.2.1 348 = .ok (.getfield 76, 3) := by decide +kernel
theorem d_Mo_init_351 : decode M_Mo_init.2.1 351 = .ok (.iconst 0, 1) := by decide +kernel
theorem d_Mo_init_352 : decode M_Mo_init.2.1 352 = .ok (.bipush 60, 2) := by decide +kernel
theorem d_Mo_init_354 : decode M_Mo_init.2.1 354 = .ok (.iastore, 1) := by decide +kernel
theorem d_Mo_init_355 : decode M_Mo_init.2.1 355 = .ok (.aload_n 0, 1) := by decide +kernel
theorem d_Mo_init_356 : decode M_Mo_init.2.1 356 = .ok (.getfield 34, 3) := by decide +kernel
theorem d_Mo_init_359 : decode M_Mo_init.2.1 359 = .ok (.iconst 0, 1) := by decide +kernel
theorem d_Mo_init_360 : decode M_Mo_init.2.1 360 = .ok (.bipush 112, 2) := by decide +kernel
theorem d_Mo_init_362 : decode M_Mo_init.2.1 362 = .ok (.bipush 111, 2) := by decide +kernel
theorem d_Mo_init_364 : decode M_Mo_init.2.1 364 = .ok (.bipush 115, 2) := by decide +kernel
theorem d_Mo_init_366 : decode M_Mo_init.2.1 366 = .ok (.bipush 116, 2) := by decide +kernel
theorem d_Mo_init_368 : decode M_Mo_init.2.1 368 = .ok (.iconst 0, 1) := by decide +kernel
theorem d_Mo_init_369 : decode M_Mo_init.2.1 369 = .ok (.iconst 0, 1) := by decide +kernel
theorem d_Mo_init_370 : decode M_Mo_init.2.1 370 = .ok (.iconst 0, 1) := by decide +kernel
theorem d_Mo_init_371 : decode M_Mo_init.2.1 371 = .ok (.invokestatic 143, 3) := by decide +kernel
theorem d_Mo_init_374 : decode M_Mo_init.2.1 374 = .ok (.lastore, 1) := by decide +kernel
theorem d_Mo_init_375 : decode M_Mo_init.2.1 375 = .ok (.aload_n 0, 1) := by decide +kernel
theorem d_Mo_init_376 : decode M_Mo_init.2.1 376 = .ok (.getfield 34, 3) := by decide +kernel
theorem d_Mo_init_379 : decode M_Mo_init.2.1 379 = .ok (.iconst 1, 1) := by decide +kernel
theorem d_Mo_init_380 : decode M_Mo_init.2.1 380 = .ok (.bipush 103, 2) := by decide +kernel
theorem d_Mo_init_382 : decode M_Mo_init.2.1 382 = .ok (.bipush 117, 2) := by decide +kernel
theorem d_Mo_init_384 : decode M_Mo_init.2.1 384 = .ok (.bipush 97, 2) := by decide +kernel
theorem d_Mo_init_386 : decode M_Mo_init.2.1 386 = .ok (.bipush 114, 2) := by decide +kernel
theorem d_Mo_init_388 : decode M_Mo_init.2.1 388 = .ok (.bipush 100, 2) := by decide +kernel
theorem d_Mo_init_390 : decode M_Mo_init.2.1 390 = .ok (.iconst 0, 1) := by decide +kernel
theorem d_Mo_init_391 : decode M_Mo_init.2.1 391 = .ok (.iconst 0, 1) := by decide +kernel
theorem d_Mo_init_392 : decode M_Mo_init.2.1 392 = .ok (.invokestatic 143, 3) := by decide +kernel
theorem d_Mo_init_395 : decode M_Mo_init.2.1 395 = .ok (.lastore, 1) := by decide +kernel
theorem d_Mo_init_396 : decode M_Mo_init.2.1 396 = .ok (.aload_n 0, 1) := by decide +kernel
theorem d_Mo_init_397 : decode M_Mo_init.2.1 397 = .ok (.getfield 34, 3) := by decide +kernel
theorem d_Mo_init_400 : decode M_Mo_init.2.1 400 = .ok (.iconst 2, 1) := by decide +kernel
theorem d_Mo_init_401 : decode M_Mo_init.2.1 401 = .ok (.bipush 97, 2) := by decide +kernel
theorem d_Mo_init_403 : decode M_Mo_init.2.1 403 = .ok (.bipush 116, 2) := by decide +kernel
theorem d_Mo_init_405 : decode M_Mo_init.2.1 405 = .ok (.iconst 0, 1) := by decide +kernel
theorem d_Mo_init_406 : decode M_Mo_init.2.1 406 = .ok (.iconst 0, 1) := by decide +kernel
theorem d_Mo_init_407 : decode M_Mo_init.2.1 407 = .ok (.iconst 0, 1) := by decide +kernel
theorem d_Mo_init_408 : decode M_Mo_init.2.1 408 = .ok (.iconst 0, 1) := by decide +kernel
theorem d_Mo_init_409 : decode M_Mo_init.2.1 409 = .ok (.iconst 0, 1) := by decide +kernel
theorem d_Mo_init_410 : decode M_Mo_init.2.1 410 = .ok (.invokestatic 143, 3) := by decide +kernel
theorem d_Mo_init_413 : decode M_Mo_init.2.1 413 = .ok (.lastore, 1) := by decide +kernel
theorem d_Mo_init_414 : decode M_Mo_init.2.1 414 = .ok (.aload_n 0, 1) := by decide +kernel
theorem d_Mo_init_415 : decode M_Mo_init.2.1 415 = .ok (.getfield 34, 3) := by decide +kernel
theorem d_Mo_init_418 : decode M_Mo_init.2.1 418 = .ok (.iconst 3, 1) := by decide +kernel
theorem d_Mo_init_419 : decode M_Mo_init.2.1 419 = .ok (.bipush 102, 2) := by decide +kernel
theorem d_Mo_init_421 : decode M_Mo_init.2.1 421 = .ok (.bipush 108, 2) := by decide +kernel
theorem d_Mo_init_423 : decode M_Mo_init.2.1 423 = .ok (.bipush 111, 2) := by decide +kernel
theorem d_Mo_init_425 : decode M_Mo_init.2.1 425 = .ok (.bipush 119, 2) := by decide +kernel
theorem d_Mo_init_427 : decode M_Mo_init.2.1 427 = .ok (.iconst 0, 1) := by decide +kernel
theorem d_Mo_init_428 : decode M_Mo_init.2.1 428 = .ok (.iconst 0, 1) := by decide +kernel
theorem d_Mo_init_429 : decode M_Mo_init.2.1 429 = .ok (.iconst 0, 1) := by decide +kernel
theorem d_Mo_init_430 : decode M_Mo_init.2.1 430 = .ok (.invokestatic 143, 3) := by decide +kernel
theorem d_Mo_init_433 : decode M_Mo_init.2.1 433 = .ok (.lastore, 1) := by decide +kernel
theorem d_Mo_init_434 : decode M_Mo_init.2.1 434 = .ok (.aload_n 0, 1) := by decide +kernel
theorem d_Mo_init_435 : decode M_Mo_init.2.1 435 = .ok (.getfield 34, 3) := by decide +kernel
theorem d_Mo_init_438 : decode M_Mo_init.2.1 438 = .ok (.iconst 4, 1) := by decide +kernel
theorem d_Mo_init_439 : decode M_Mo_init.2.1 439 = .ok (.bipush 100, 2) := by decide +kernel
theorem d_Mo_init_441 : decode M_Mo_init.2.1 441 = .ok (.bipush 97, 2) := by decide +kernel
theorem d_Mo_init_443 : decode M_Mo_init.2.1 443 = .ok (.bipush 109, 2) := by decide +kernel
theorem d_Mo_init_445 : decode M_Mo_init.2.1 445 = .ok (.bipush 112, 2) := by decide +kernel
theorem d_Mo_init_447 : decode M_Mo_init.2.1 447 = .ok (.iconst 0, 1) := by decide +kernel
theorem d_Mo_init_448 : decode M_Mo_init.2.1 448 = .ok (.iconst 0, 1) := by decide +kernel
theorem d_Mo_init_449 : decode M_Mo_init.2.1 449 = .ok (.iconst 0, 1) := by decide +kernel
theorem d_Mo_init_450 : decode M_Mo_init.2.1 450 = .ok (.invokestatic 143, 3) := by decide +kernel
theorem d_Mo_init_453 : decode M_Mo_init.2.1 453 = .ok (.lastore, 1) := by decide +kernel
theorem d_Mo_init_454 : decode M_Mo_init.2.1 454 = .ok (.aload_n 0, 1) := by decide +kernel
theorem d_Mo_init_455 : decode M_Mo_init.2.1 455 = .ok (.getfield 34, 3) := by decide +kernel
theorem d_Mo_init_458 : decode M_Mo_init.2.1 458 = .ok (.iconst 5, 1) := by decide +kernel
theorem d_Mo_init_459 : decode M_Mo_init.2.1 459 = .ok (.bipush 115, 2) := by decide +kernel
theorem d_Mo_init_461 : decode M_Mo_init.2.1 461 = .ok (.bipush 108, 2) := by decide +kernel
theorem d_Mo_init_463 : decode M_Mo_init.2.1 463 = .ok (.bipush 101, 2) := by decide +kernel
theorem d_Mo_init_465 : decode M_Mo_init.2.1 465 = .ok (.bipush 101, 2) := by decide +kernel
theorem d_Mo_init_467 : decode M_Mo_init.2.1 467 = .ok (.bipush 112, 2) := by decide +kernel
theorem d_Mo_init_469 : decode M_Mo_init.2.1 469 = .ok (.iconst 0, 1) := by decide +kernel
theorem d_Mo_init_470 : decode M_Mo_init.2.1 470 = .ok (.iconst 0, 1) := by decide +kernel
theorem d_Mo_init_471 : decode M_Mo_init.2.1 471 = .ok (.invokestatic 143, 3) := by decide +kernel
theorem d_Mo_init_474 : decode M_Mo_init.2.1 474 = .ok (.lastore, 1) := by decide +kernel
theorem d_Mo_init_475 : decode M_Mo_init.2.1 475 = .ok (.aload_n 0, 1) := by decide +kernel
theorem d_Mo_init_476 : decode M_Mo_init.2.1 476 = .ok (.getfield 34, 3) := by decide +kernel
theorem d_Mo_init_479 : decode M_Mo_init.2.1 479 = .ok (.bipush 6, 2) := by decide +kernel
theorem d_Mo_init_481 : decode M_Mo_init.2.1 481 = .ok (.bipush 105, 2) := by decide +kernel
theorem d_Mo_init_483 : decode M_Mo_init.2.1 483 = .ok (.bipush 102, 2) := by decide +kernel
theorem d_Mo_init_485 : decode M_Mo_init.2.1 485 = .ok (.iconst 0, 1) := by decide +kernel
theorem d_Mo_init_486 : decode M_Mo_init.2.1 486 = .ok (.iconst 0, 1) := by decide +kernel
theorem d_Mo_init_487 : decode M_Mo_init.2.1 487 = .ok (.iconst 0, 1) := by decide +kernel
theorem d_Mo_init_488 : decode M_Mo_init.2.1 488 = .ok (.iconst 0, 1) := by decide +kernel
theorem d_Mo_init_489 : decode M_Mo_init.2.1 489 = .ok (.iconst 0, 1) := by decide +kernel
theorem d_Mo_init_490 : decode M_Mo_init.2.1 490 = .ok (.invokestatic 143, 3) := by decide +kernel
theorem d_Mo_init_493 : decode M_Mo_init.2.1 493 = .ok (.lastore, 1) := by decide +kernel
theorem d_Mo_init_494 : decode M_Mo_init.2.1 494 = .ok (.aload_n 0, 1) := by decide +kernel
theorem d_Mo_init_495 : decode M_Mo_init.2.1 495 = .ok (.getfield 34, 3) := by decide +kernel
theorem d_Mo_init_498 : decode M_Mo_init.2.1 498 = .ok (.bipush 7, 2) := by decide +kernel
theorem d_Mo_init_500 : decode M_Mo_init.2.1 500 = .ok (.bipush 116, 2) := by decide +kernel
theorem d_Mo_init_502 : decode M_Mo_init.2.1 502 = .ok (.bipush 104, 2) := by decide +kernel
theorem d_Mo_init_504 : decode M_Mo_init.2.1 504 = .ok (.bipush 101, 2) := by decide +kernel
theorem d_Mo_init_506 : decode M_Mo_init.2.1 506 = .ok (.bipush 110, 2) := by decide +kernel
theorem d_Mo_init_508 : decode M_Mo_init.2.1 508 = .ok (.iconst 0, 1) := by decide +kernel
theorem d_Mo_init_509 : decode M_Mo_init.2.1 509 = .ok (.iconst 0, 1) := by decide +kernel
theorem d_Mo_init_510 : decode M_Mo_init.2.1 510 = .ok (.iconst 0, 1) := by decide +kernel
theorem d_Mo_init_511 : decode M_Mo_init.2.1 511 = .ok (.invokestatic 143, 3) := by decide +kernel
theorem d_Mo_init_514 : decode M_Mo_init.2.1 514 = .ok (.lastore, 1) := by decide +kernel
theorem d_Mo_init_515 : decode M_Mo_init.2.1 515 = .ok (.aload_n 0, 1) := by decide +kernel
theorem d_Mo_init_516 : decode M_Mo_init.2.1 516 = .ok (.getfield 34, 3) := by decide +kernel
theorem d_Mo_init_519 : decode M_Mo_init.2.1 519 = .ok (.bipush 8, 2) := by decide +kernel
theorem d_Mo_init_521 : decode M_Mo_init.2.1 521 = .ok (.bipush 101, 2) := by decide +kernel
theorem d_Mo_init_523 : decode M_Mo_init.2.1 523 = .ok (.bipush 108, 2) := by decide +kernel
theorem d_Mo_init_525 : decode M_Mo_init.2.1 525 = .ok (.bipush 115, 2) := by decide +kernel
theorem d_Mo_init_527 : decode M_Mo_init.2.1 527 = .ok (.bipush 101, 2) := by decide +kernel
theorem d_Mo_init_529 : decode M_Mo_init.2.1 529 = .ok (.iconst 0, 1) := by decide +kernel
theorem d_Mo_init_530 : decode M_Mo_init.2.1 530 = .ok (.iconst 0, 1) := by decide +kernel
theorem d_Mo_init_531 : decode M_Mo_init.2.1 531 = .ok (.iconst 0, 1) := by decide +kernel
theorem d_Mo_init_532 : decode M_Mo_init.2.1 532 = .ok (.invokestatic 143, 3) := by decide +kernel
theorem d_Mo_init_535 : decode M_Mo_init.2.1 535 = .ok (.lastore, 1) := by decide +kernel
theorem d_Mo_init_536 : decode M_Mo_init.2.1 536 = .ok (.aload_n 0, 1) := by decide +kernel
theorem d_Mo_init_537 : decode M_Mo_init.2.1 537 = .ok (.getfield 34, 3) := by decide +kernel
theorem d_Mo_init_540 : decode M_Mo_init.2.1 540 = .ok (.bipush 9, 2) := by decide +kernel
theorem d_Mo_init_542 : decode M_Mo_init.2.1 542 = .ok (.bipush 110, 2) := by decide +kernel
theorem d_Mo_init_544 : decode M_Mo_init.2.1 544 = .ok (.bipush 101, 2) := by decide +kernel
theorem d_Mo_init_546 : decode M_Mo_init.2.1 546 = .ok (.bipush 99, 2) := by decide +kernel
theorem d_Mo_init_548 : decode M_Mo_init.2.1 548 = .ok (.bipush 107, 2) := by decide +kernel
theorem d_Mo_init_550 : decode M_Mo_init.2.1 550 = .ok (.iconst 0, 1) := by decide +kernel
theorem d_Mo_init_551 : decode M_Mo_init.2.1 551 = .ok (.iconst 0, 1) := by decide +kernel
theorem d_Mo_init_552 : decode M_Mo_init.2.1 552 = .ok (.iconst 0, 1) := by decide +kernel
theorem d_Mo_init_553 : decode M_Mo_init.2.1 553 = .ok (.invokestatic 143, 3) := by decide +kernel
theorem d_Mo_init_556 : decode M_Mo_init.2.1 556 = .ok (.lastore, 1) := by decide +kernel
theorem d_Mo_init_557 : decode M_Mo_init.2.1 557 = .ok (.aload_n 0, 1) := by decide +kernel
theorem d_Mo_init_558 : decode M_Mo_init.2.1 558 = .ok (.getfield 34, 3) := by decide +kernel
theorem d_Mo_init_561 : decode M_Mo_init.2.1 561 = .ok (.bipush 10, 2) := by decide +kernel
theorem d_Mo_init_563 : decode M_Mo_init.2.1 563 = .ok (.bipush 119, 2) := by decide +kernel
theorem d_Mo_init_565 : decode M_Mo_init.2.1 565 = .ok (.bipush 101, 2) := by decide +kernel
theorem d_Mo_init_567 : decode M_Mo_init.2.1 567 = .ok (.bipush 116, 2) := by decide +kernel
theorem d_Mo_init_569 : decode M_Mo_init.2.1 569 = .ok (.iconst 0, 1) := by decide +kernel
theorem d_Mo_init_570 : decode M_Mo_init.2.1 570 = .ok (.iconst 0, 1) := by decide +kernel
theorem d_Mo_init_571 : decode M_Mo_init.2.1 571 = .ok (.iconst 0, 1) := by decide +kernel
theorem d_Mo_init_572 : decode M_Mo_init.2.1 572 = .ok (.iconst 0, 1) := by decide +kernel
theorem d_Mo_init_573 : decode M_Mo_init.2.1 573 = .ok (.invokestatic 143, 3) := by decide +kernel
theorem d_Mo_init_576 : decode M_Mo_init.2.1 576 = .ok (.lastore, 1) := by decide +kernel
theorem d_Mo_init_577 : decode M_Mo_init.2.1 577 = .ok (.aload_n 0, 1) := by decide +kernel
theorem d_Mo_init_578 : decode M_Mo_init.2.1 578 = .ok (.getfield 34, 3) := by decide +kernel
theorem d_Mo_init_581 : decode M_Mo_init.2.1 581 = .ok (.bipush 11, 2) := by decide +kernel
theorem d_Mo_init_583 : decode M_Mo_init.2.1 583 = .ok (.bipush 97, 2) := by decide +kernel
theorem d_Mo_init_585 : decode M_Mo_init.2.1 585 = .ok (.bipush 98, 2) := by decide +kernel
theorem d_Mo_init_587 : decode M_Mo_init.2.1 587 = .ok (.bipush 111, 2) := by decide +kernel
theorem d_Mo_init_589 : decode M_Mo_init.2.1 589 = .ok (.bipush 118, 2) := by decide +kernel
theorem d_Mo_init_591 : decode M_Mo_init.2.1 591 = .ok (.bipush 101, 2) := by decide +kernel
theorem d_Mo_init_593 : decode M_Mo_init.2.1 593 = .ok (.iconst 0, 1) := by decide +kernel
theorem d_Mo_init_594 : decode M_Mo_init.2.1 594 = .ok (.iconst 0, 1) := by decide +kernel
theorem d_Mo_init_595 : decode M_Mo_init.2.1 595 = .ok (.invokestatic 143, 3) := by decide +kernel
theorem d_Mo_init_598 : decode M_Mo_init.2.1 598 = .ok (.lastore, 1) := by decide +kernel
theorem d_Mo_init_599 : decode M_Mo_init.2.1 599 = .ok (.aload_n 0, 1) := by decide +kernel
theorem d_Mo_init_600 : decode M_Mo_init.2.1 600 = .ok (.getfield 34, 3) := by decide +kernel
theorem d_Mo_init_603 : decode M_Mo_init.2.1 603 = .ok (.bipush 12, 2) := by decide +kernel
theorem d_Mo_init_605 : decode M_Mo_init.2.1 605 = .ok (.bipush 98, 2) := by decide +kernel
theorem d_Mo_init_607 : decode M_Mo_init.2.1 607 = .ok (.bipush 101, 2) := by decide +kernel
theorem d_Mo_init_609 : decode M_Mo_init.2.1 609 = .ok (.bipush 108, 2) := by decide +kernel
theorem d_Mo_init_611 : decode M_Mo_init.2.1 611 = .ok (.bipush 111, 2) := by decide +kernel
theorem d_Mo_init_613 : decode M_Mo_init.2.1 613 = .ok (.bipush 119, 2) := by decide +kernel
theorem d_Mo_init_615 : decode M_Mo_init.2.1 615 = .ok (.iconst 0, 1) := by decide +kernel
theorem d_Mo_init_616 : decode M_Mo_init.2.1 616 = .ok (.iconst 0, 1) := by decide +kernel
theorem d_Mo_init_617 : decode M_Mo_init.2.1 617 = .ok (.invokestatic 143, 3) := by decide +kernel
theorem d_Mo_init_620 : decode M_Mo_init.2.1 620 = .ok (.lastore, 1) := by decide +kernel
theorem d_Mo_init_621 : decode M_Mo_init.2.1 621 = .ok (.aload_n 0, 1) := by decide +kernel
theorem d_Mo_init_622 : decode M_Mo_init.2.1 622 = .ok (.getfield 34, 3) := by decide +kernel
theorem d_Mo_init_625 : decode M_Mo_init.2.1 625 = .ok (.bipush 13, 2) := by decide +kernel
theorem d_Mo_init_627 : decode M_Mo_init.2.1 627 = .ok (.bipush 109, 2) := by decide +kernel
theorem d_Mo_init_629 : decode M_Mo_init.2.1 629 = .ok (.bipush 105, 2) := by decide +kernel
theorem d_Mo_init_631 : decode M_Mo_init.2.1 631 = .ok (.bipush 110, 2) := by decide +kernel
theorem d_Mo_init_633 : decode M_Mo_init.2.1 633 = .ok (.bipush 117, 2) := by decide +kernel
theorem d_Mo_init_635 : decode M_Mo_init.2.1 635 = .ok (.bipush 116, 2) := by decide +kernel
theorem d_Mo_init_637 : decode M_Mo_init.2.1 637 = .ok (.bipush 101, 2) := by decide +kernel
theorem d_Mo_init_639 : decode M_Mo_init.2.1 639 = .ok (.iconst 0, 1) := by decide +kernel
theorem d_Mo_init_640 : decode M_Mo_init.2.1 640 = .ok (.invokestatic 143, 3) := by decide +kernel
theorem d_Mo_init_643 : decode M_Mo_init.2.1 643 = .ok (.lastore, 1) := by decide +kernel
theorem d_Mo_init_644 : decode M_Mo_init.2.1 644 = .ok (.return_, 1) := by decide +kernel
theorem d_Mo_feed_0 : decode M_Mo_feed.2.1 0 = .ok (.aload_n 0, 1) := by decide +kernel
theorem d_Mo_feed_1 : decode M_Mo_feed.2.1 1 = .ok (.getfield 147, 3) := by decide +kernel
theorem d_Mo_feed_4 : decode M_Mo_feed.2.1 4 = .ok (.bipush 20, 2) := by decide +kernel
theorem d_Mo_feed_6 : decode M_Mo_feed.2.1 6 = .ok (.iadd, 1) := by decide +kernel
theorem d_Mo_feed_7 : decode M_Mo_feed.2.1 7 = .ok (.sipush 2000, 3) := by decide +kernel
theorem d_Mo_feed_10 : decode M_Mo_feed.2.1 10 = .ok (.if_icmp .le 5, 3) := by decide +kernel
theorem d_Mo_feed_13 : decode M_Mo_feed.2.1 13 = .ok (.iconst (-1), 1) := by decide +kernel
theorem d_Mo_feed_14 : decode M_Mo_feed.2.1 14 = .ok (.ireturn, 1) := by decide +kernel
theorem d_Mo_feed_15 : decode M_Mo_feed.2.1 15 = .ok (.aload_n 0, 1) := by decide +kernel
theorem d_Mo_feed_16 : decode M_Mo_feed.2.1 16 = .ok (.iload_n 1, 1) := by decide +kernel
theorem d_Mo_feed_17 : decode M_Mo_feed.2.1 17 = .ok (.invokevirtual 150, 3) := by decide +kernel
theorem d_Mo_feed_20 : decode M_Mo_feed.2.1 20 = .ok (.aload_n 0, 1) := by decide +kernel
theorem d_Mo_feed_21 : decode M_Mo_feed.2.1 21 = .ok (.iload_n 2, 1) := by decide +kernel
theorem d_Mo_feed_22 : decode M_Mo_feed.2.1 22 = .ok (.invokevirtual 150, 3) := by decide +kernel
theorem d_Mo_feed_25 : decode M_Mo_feed.2.1 25 = .ok (.aload_n 0, 1) := by decide +kernel
theorem d_Mo_feed_26 : decode M_Mo_feed.2.1 26 = .ok (.iload_n 3, 1) := by decide +kernel
theorem d_Mo_feed_27 : decode M_Mo_feed.2.1 27 = .ok (.invokevirtual 150, 3) := by decide +kernel
theorem d_Mo_feed_30 : decode M_Mo_feed.2.1 30 = .ok (.aload_n 0, 1) := by decide +kernel
theorem d_Mo_feed_31 : decode M_Mo_feed.2.1 31 = .ok (.iload 4, 2) := by decide +kernel
theorem d_Mo_feed_33 : decode M_Mo_feed.2.1 33 = .ok (.invokevirtual 150, 3) := by decide +kernel
theorem d_Mo_feed_36 : decode M_Mo_feed.2.1 36 = .ok (.aload_n 0, 1) := by decide +kernel
theorem d_Mo_feed_37 : decode M_Mo_feed.2.1 37 = .ok (.iload 5, 2) := by decide +kernel
theorem d_Mo_feed_39 : decode M_Mo_feed.2.1 39 = .ok (.invokevirtual 150, 3) := by decide +kernel
theorem d_Mo_feed_42 : decode M_Mo_feed.2.1 42 = .ok (.aload_n 0, 1) := by decide +kernel
theorem d_Mo_feed_43 : decode M_Mo_feed.2.1 43 = .ok (.getfield 147, 3) := by decide +kernel
theorem d_Mo_feed_46 : decode M_Mo_feed.2.1 46 = .ok (.ireturn, 1) := by decide +kernel
theorem d_Mo_put_0 : decode M_Mo_put.2.1 0 = .ok (.bipush 24, 2) := by decide +kernel
theorem d_Mo_put_2 : decode M_Mo_put.2.1 2 = .ok (.istore_n 2, 1) := by decide +kernel
theorem d_Mo_put_3 : decode M_Mo_put.2.1 3 = .ok (.iload_n 2, 1) := by decide +kernel
theorem d_Mo_put_4 : decode M_Mo_put.2.1 4 = .ok (.ifCond .lt 32, 3) := by decide +kernel
theorem d_Mo_put_7 : decode M_Mo_put.2.1 7 = .ok (.aload_n 0, 1) := by decide +kernel
theorem d_Mo_put_8 : decode M_Mo_put.2.1 8 = .ok (.getfield 13, 3) := by decide +kernel
theorem d_Mo_put_11 : decode M_Mo_put.2.1 11 = .ok (.aload_n 0, 1) := by decide +kernel
theorem d_Mo_put_12 : decode M_Mo_put.2.1 12 = .ok (.getfield 147, 3) := by decide +kernel
theorem d_Mo_put_15 : decode M_Mo_put.2.1 15 = .ok (.iload_n 1, 1) := by decide +kernel
theorem d_Mo_put_16 : decode M_Mo_put.2.1 16 = .ok (.iload_n 2, 1) := by decide +kernel
theorem d_Mo_put_17 : decode M_Mo_put.2.1 17 = .ok (.ishr, 1) := by decide +kernel
theorem d_Mo_put_18 : decode M_Mo_put.2.1 18 = .ok (.i2b, 1) := by decide +kernel
theorem d_Mo_put_19 : decode M_Mo_put.2.1 19 = .ok (.bastore, 1) := by decide +kernel
theorem d_Mo_put_20 : decode M_Mo_put.2.1 20 = .ok (.aload_n 0, 1) := by decide +kernel
theorem d_Mo_put_21 : decode M_Mo_put.2.1 21 = .ok (.dup, 1) := by decide +kernel
theorem d_Mo_put_22 : decode M_Mo_put.2.1 22 = .ok (.getfield 147, 3) := by decide +kernel
theorem d_Mo_put_25 : decode M_Mo_put.2.1 25 = .ok (.iconst 1, 1) := by decide +kernel
theorem d_Mo_put_26 : decode M_Mo_put.2.1 26 = .ok (.iadd, 1) := by decide +kernel
theorem d_Mo_put_27 : decode M_Mo_put.2.1 27 = .ok (.putfield 147, 3) := by decide +kernel
theorem d_Mo_put_30 : decode M_Mo_put.2.1 30 = .ok (.iinc 2 (-8), 3) := by decide +kernel
theorem d_Mo_put_33 : decode M_Mo_put.2.1 33 = .ok (.goto (-30), 3) := by decide +kernel
theorem d_Mo_put_36 : decode M_Mo_put.2.1 36 = .ok (.return_, 1) := by decide +kernel
theorem d_Mo_back_0 : decode M_Mo_back.2.1 0 = .ok (.iload_n 1, 1) := by decide +kernel
theorem d_Mo_back_1 : decode M_Mo_back.2.1 1 = .ok (.ifCond .lt 11, 3) := by decide +kernel
theorem d_Mo_back_4 : decode M_Mo_back.2.1 4 = .ok (.iload_n 1, 1) := by decide +kernel
theorem d_Mo_back_5 : decode M_Mo_back.2.1 5 = .ok (.aload_n 0, 1) := by decide +kernel
theorem d_Mo_back_6 : decode M_Mo_back.2.1 6 = .ok (.getfield 147, 3) := by decide +kernel
theorem d_Mo_back_9 : decode M_Mo_back.2.1 9 = .ok (.if_icmp .le 5, 3) := by decide +kernel
theorem d_Mo_back_12 : decode M_Mo_back.2.1 12 = .ok (.iconst (-1), 1) := by decide +kernel
theorem d_Mo_back_13 : decode M_Mo_back.2.1 13 = .ok (.ireturn, 1) := by decide +kernel
theorem d_Mo_back_14 : decode M_Mo_back.2.1 14 = .ok (.aload_n 0, 1) := by decide +kernel
theorem d_Mo_back_15 : decode M_Mo_back.2.1 15 = .ok (.dup, 1) := by decide +kernel
theorem d_Mo_back_16 : decode M_Mo_back.2.1 16 = .ok (.getfield 147, 3) := by decide +kernel
theorem d_Mo_back_19 : decode M_Mo_back.2.1 19 = .ok (.iload_n 1, 1) := by decide +kernel
theorem d_Mo_back_20 : decode M_Mo_back.2.1 20 = .ok (.isub, 1) := by decide +kernel
theorem d_Mo_back_21 : decode M_Mo_back.2.1 21 = .ok (.putfield 147, 3) := by decide +kernel
theorem d_Mo_back_24 : decode M_Mo_back.2.1 24 = .ok (.aload_n 0, 1) := by decide +kernel
theorem d_Mo_back_25 : decode M_Mo_back.2.1 25 = .ok (.getfield 147, 3) := by decide +kernel
theorem d_Mo_back_28 : decode M_Mo_back.2.1 28 = .ok (.ireturn, 1) := by decide +kernel
theorem d_Mo_byteAt_0 : decode M_Mo_byteAt.2.1 0 = .ok (.iload_n 1, 1) := by decide +kernel
theorem d_Mo_byteAt_1 : decode M_Mo_byteAt.2.1 1 = .ok (.aload_n 0, 1) := by decide +kernel
theorem d_Mo_byteAt_2 : decode M_Mo_byteAt.2.1 2 = .ok (.getfield 154, 3) := by decide +kernel
theorem d_Mo_byteAt_5 : decode M_Mo_byteAt.2.1 5 = .ok (.if_icmp .ge 16, 3) := by decide +kernel
theorem d_Mo_byteAt_8 : decode M_Mo_byteAt.2.1 8 = .ok (.aload_n 0, 1) := by decide +kernel
theorem d_Mo_byteAt_9 : decode M_Mo_byteAt.2.1 9 = .ok (.getfield 17, 3) := by decide +kernel
theorem d_Mo_byteAt_12 : decode M_Mo_byteAt.2.1 12 = .ok (.iload_n 1, 1) := by decide +kernel
theorem d_Mo_byteAt_13 : decode M_Mo_byteAt.2.1 13 = .ok (.baload, 1) := by decide +kernel
theorem d_Mo_byteAt_14 : decode M_Mo_byteAt.2.1 14 = .ok (.sipush 255, 3) := by decide +kernel
theorem d_Mo_byteAt_17 : decode M_Mo_byteAt.2.1 17 = .ok (.iand, 1) := by decide +kernel
theorem d_Mo_byteAt_18 : decode M_Mo_byteAt.2.1 18 = .ok (.goto 4, 3) := by decide +kernel
theorem d_Mo_byteAt_21 : decode M_Mo_byteAt.2.1 21 = .ok (.iconst 0, 1) := by decide +kernel
theorem d_Mo_byteAt_22 : decode M_Mo_byteAt.2.1 22 = .ok (.ireturn, 1) := by decide +kernel
theorem d_Mo_isDigit_0 : decode M_Mo_isDigit.2.1 0 = .ok (.iload_n 0, 1) := by decide +kernel
theorem d_Mo_isDigit_1 : decode M_Mo_isDigit.2.1 1 = .ok (.bipush 48, 2) := by decide +kernel
theorem d_Mo_isDigit_3 : decode M_Mo_isDigit.2.1 3 = .ok (.if_icmp .lt 13, 3) := by decide +kernel
theorem d_Mo_isDigit_6 : decode M_Mo_isDigit.2.1 6 = .ok (.iload_n 0, 1) := by decide +kernel
theorem d_Mo_isDigit_7 : decode M_Mo_isDigit.2.1 7 = .ok (.bipush 57, 2) := by decide +kernel
theorem d_Mo_isDigit_9 : decode M_Mo_isDigit.2.1 9 = .ok (.if_icmp .gt 7, 3) := by decide +kernel
theorem d_Mo_isDigit_12 : decode M_Mo_isDigit.2.1 12 = .ok (.iconst 1, 1) := by decide +kernel
theorem d_Mo_isDigit_13 : decode M_Mo_isDigit.2.1 13 = .ok (.goto 4, 3) := by decide +kernel
theorem d_Mo_isDigit_16 : decode M_Mo_isDigit.2.1 16 = .ok (.iconst 0, 1) := by decide +kernel
theorem d_Mo_isDigit_17 : decode M_Mo_isDigit.2.1 17 = .ok (.ireturn, 1) := by decide +kernel
theorem d_Mo_isLetter_0 : decode M_Mo_isLetter.2.1 0 = .ok (.iload_n 0, 1) := by decide +kernel
theorem d_Mo_isLetter_1 : decode M_Mo_isLetter.2.1 1 = .ok (.bipush 97, 2) := by decide +kernel
theorem d_Mo_isLetter_3 : decode M_Mo_isLetter.2.1 3 = .ok (.if_icmp .lt 13, 3) := by decide +kernel
theorem d_Mo_isLetter_6 : decode M_Mo_isLetter.2.1 6 = .ok (.iload_n 0, 1) := by decide +kernel
theorem d_Mo_isLetter_7 : decode M_Mo_isLetter.2.1 7 = .ok (.bipush 122, 2) := by decide +kernel
theorem d_Mo_isLetter_9 : decode M_Mo_isLetter.2.1 9 = .ok (.if_icmp .gt 7, 3) := by decide +kernel
theorem d_Mo_isLetter_12 : decode M_Mo_isLetter.2.1 12 = .ok (.iconst 1, 1) := by decide +kernel
theorem d_Mo_isLetter_13 : decode M_Mo_isLetter.2.1 13 = .ok (.goto 4, 3) := by decide +kernel
theorem d_Mo_isLetter_16 : decode M_Mo_isLetter.2.1 16 = .ok (.iconst 0, 1) := by decide +kernel
theorem d_Mo_isLetter_17 : decode M_Mo_isLetter.2.1 17 = .ok (.ireturn, 1) := by decide +kernel
theorem d_Mo_appends_0 : decode M_Mo_appends.2.1 0 = .ok (.iload_n 2, 1) := by decide +kernel
theorem d_Mo_appends_1 : decode M_Mo_appends.2.1 1 = .ok (.ifCond .ne 7, 3) := by decide +kernel
theorem d_Mo_appends_4 : decode M_Mo_appends.2.1 4 = .ok (.lload_n 0, 1) := by decide +kernel
theorem d_Mo_appends_5 : decode M_Mo_appends.2.1 5 = .ok (.goto 16, 3) := by decide +kernel
theorem d_Mo_appends_8 : decode M_Mo_appends.2.1 8 = .ok (.ldc2_w 157, 3) := by decide +kernel
theorem d_Mo_appends_11 : decode M_Mo_appends.2.1 11 = .ok (.lload_n 0, 1) := by decide +kernel
theorem d_Mo_appends_12 : decode M_Mo_appends.2.1 12 = .ok (.lmul, 1) := by decide +kernel
theorem d_Mo_appends_13 : decode M_Mo_appends.2.1 13 = .ok (.iload_n 2, 1) := by decide +kernel
theorem d_Mo_appends_14 : decode M_Mo_appends.2.1 14 = .ok (.bipush 97, 2) := by decide +kernel
theorem d_Mo_appends_16 : decode M_Mo_appends.2.1 16 = .ok (.isub, 1) := by decide +kernel
theorem d_Mo_appends_17 : decode M_Mo_appends.2.1 17 = .ok (.iconst 1, 1) := by decide +kernel
theorem d_Mo_appends_18 : decode M_Mo_appends.2.1 18 = .ok (.iadd, 1) := by decide +kernel
theorem d_Mo_appends_19 : decode M_Mo_appends.2.1 19 = .ok (.i2l, 1) := by decide +kernel
theorem d_Mo_appends_20 : decode M_Mo_appends.2.1 20 = .ok (.ladd, 1) := by decide +kernel
theorem d_Mo_appends_21 : decode M_Mo_appends.2.1 21 = .ok (.lreturn, 1) := by decide +kernel
theorem d_Mo_word_0 : decode M_Mo_word.2.1 0 = .ok (.lconst 0, 1) := by decide +kernel
theorem d_Mo_word_1 : decode M_Mo_word.2.1 1 = .ok (.iload_n 0, 1) := by decide +kernel
theorem d_Mo_word_2 : decode M_Mo_word.2.1 2 = .ok (.invokestatic 159, 3) := by decide +kernel
theorem d_Mo_word_5 : decode M_Mo_word.2.1 5 = .ok (.iload_n 1, 1) := by decide +kernel
theorem d_Mo_word_6 : decode M_Mo_word.2.1 6 = .ok (.invokestatic 159, 3) := by decide +kernel
theorem d_Mo_word_9 : decode M_Mo_word.2.1 9 = .ok (.iload_n 2, 1) := by decide +kernel
theorem d_Mo_word_10 : decode M_Mo_word.2.1 10 = .ok (.invokestatic 159, 3) := by decide +kernel
theorem d_Mo_word_13 : decode M_Mo_word.2.1 13 = .ok (.iload_n 3, 1) := by decide +kernel
theorem d_Mo_word_14 : decode M_Mo_word.2.1 14 = .ok (.invokestatic 159, 3) := by decide +kernel
theorem d_Mo_word_17 : decode M_Mo_word.2.1 17 = .ok (.iload 4, 2) := by decide +kernel
theorem d_Mo_word_19 : decode M_Mo_word.2.1 19 = .ok (.invokestatic 159, 3) := by decide +kernel
theorem d_Mo_word_22 : decode M_Mo_word.2.1 22 = .ok (.iload 5, 2) := by decide +kernel
theorem d_Mo_word_24 : decode M_Mo_word.2.1 24 = .ok (.invokestatic 159, 3) := by decide +kernel
theorem d_Mo_word_27 : decode M_Mo_word.2.1 27 = .ok (.iload 6, 2) := by decide +kernel
theorem d_Mo_word_29 : decode M_Mo_word.2.1 29 = .ok (.invokestatic 159, 3) := by decide +kernel
theorem d_Mo_word_32 : decode M_Mo_word.2.1 32 = .ok (.lreturn, 1) := by decide +kernel
theorem d_Mo_token_0 : decode M_Mo_token.2.1 0 = .ok (.aload_n 0, 1) := by decide +kernel
theorem d_Mo_token_1 : decode M_Mo_token.2.1 1 = .ok (.getfield 20, 3) := by decide +kernel
theorem d_Mo_token_4 : decode M_Mo_token.2.1 4 = .ok (.aload_n 0, 1) := by decide +kernel
theorem d_Mo_token_5 : decode M_Mo_token.2.1 5 = .ok (.getfield 163, 3) := by decide +kernel
theorem d_Mo_token_8 : decode M_Mo_token.2.1 8 = .ok (.iload_n 1, 1) := by decide +kernel
theorem d_Mo_token_9 : decode M_Mo_token.2.1 9 = .ok (.iastore, 1) := by decide +kernel
theorem d_Mo_token_10 : decode M_Mo_token.2.1 10 = .ok (.aload_n 0, 1) := by decide +kernel
theorem d_Mo_token_11 : decode M_Mo_token.2.1 11 = .ok (.getfield 24, 3) := by decide +kernel
theorem d_Mo_token_14 : decode M_Mo_token.2.1 14 = .ok (.aload_n 0, 1) := by decide +kernel
theorem d_Mo_token_15 : decode M_Mo_token.2.1 15 = .ok (.getfield 163, 3) := by decide +kernel
theorem d_Mo_token_18 : decode M_Mo_token.2.1 18 = .ok (.iload_n 2, 1) := by decide +kernel
theorem d_Mo_token_19 : decode M_Mo_token.2.1 19 = .ok (.iastore, 1) := by decide +kernel
theorem d_Mo_token_20 : decode M_Mo_token.2.1 20 = .ok (.aload_n 0, 1) := by decide +kernel
theorem d_Mo_token_21 : decode M_Mo_token.2.1 21 = .ok (.getfield 27, 3) := by decide +kernel
theorem d_Mo_token_24 : decode M_Mo_token.2.1 24 = .ok (.aload_n 0, 1) := by decide +kernel
theorem d_Mo_token_25 : decode M_Mo_token.2.1 25 = .ok (.getfield 163, 3) := by decide +kernel
theorem d_Mo_token_28 : decode M_Mo_token.2.1 28 = .ok (.iload_n 3, 1) := by decide +kernel
theorem d_Mo_token_29 : decode M_Mo_token.2.1 29 = .ok (.iastore, 1) := by decide +kernel
theorem d_Mo_token_30 : decode M_Mo_token.2.1 30 = .ok (.aload_n 0, 1) := by decide +kernel
theorem d_Mo_token_31 : decode M_Mo_token.2.1 31 = .ok (.getfield 30, 3) := by decide +kernel
theorem d_Mo_token_34 : decode M_Mo_token.2.1 34 = .ok (.aload_n 0, 1) := by decide +kernel
theorem d_Mo_token_35 : decode M_Mo_token.2.1 35 = .ok (.getfield 163, 3) := by decide +kernel
theorem d_Mo_token_38 : decode M_Mo_token.2.1 38 = .ok (.lload 4, 2) := by decide +kernel
theorem d_Mo_token_40 : decode M_Mo_token.2.1 40 = .ok (.lastore, 1) := by decide +kernel
theorem d_Mo_token_41 : decode M_Mo_token.2.1 41 = .ok (.aload_n 0, 1) := by decide +kernel
theorem d_Mo_token_42 : decode M_Mo_token.2.1 42 = .ok (.dup, 1) := by decide +kernel
theorem d_Mo_token_43 : decode M_Mo_token.2.1 43 = .ok (.getfield 163, 3) := by decide +kernel
theorem d_Mo_token_46 : decode M_Mo_token.2.1 46 = .ok (.iconst 1, 1) := by decide +kernel
theorem d_Mo_token_47 : decode M_Mo_token.2.1 47 = .ok (.iadd, 1) := by decide +kernel
theorem d_Mo_token_48 : decode M_Mo_token.2.1 48 = .ok (.putfield 163, 3) := by decide +kernel
theorem d_Mo_token_51 : decode M_Mo_token.2.1 51 = .ok (.return_, 1) := by decide +kernel
theorem d_Mo_cut_0 : decode M_Mo_cut.2.1 0 = .ok (.aload_n 0, 1) := by decide +kernel
theorem d_Mo_cut_1 : decode M_Mo_cut.2.1 1 = .ok (.iconst 0, 1) := by decide +kernel
theorem d_Mo_cut_2 : decode M_Mo_cut.2.1 2 = .ok (.putfield 163, 3) := by decide +kernel
theorem d_Mo_cut_5 : decode M_Mo_cut.2.1 5 = .ok (.iconst 0, 1) := by decide +kernel
theorem d_Mo_cut_6 : decode M_Mo_cut.2.1 6 = .ok (.istore_n 1, 1) := by decide +kernel
theorem d_Mo_cut_7 : decode M_Mo_cut.2.1 7 = .ok (.aload_n 0, 1) := by decide +kernel
theorem d_Mo_cut_8 : decode M_Mo_cut.2.1 8 = .ok (.getfield 163, 3) := by decide +kernel
theorem d_Mo_cut_11 : decode M_Mo_cut.2.1 11 = .ok (.sipush 400, 3) := by decide +kernel
theorem d_Mo_cut_14 : decode M_Mo_cut.2.1 14 = .ok (.if_icmp .gt 280, 3) := by decide +kernel
theorem d_Mo_cut_17 : decode M_Mo_cut.2.1 17 = .ok (.aload_n 0, 1) := by decide +kernel
theorem d_Mo_cut_18 : decode M_Mo_cut.2.1 18 = .ok (.iload_n 1, 1) := by decide +kernel
theorem d_Mo_cut_19 : decode M_Mo_cut.2.1 19 = .ok (.invokevirtual 166, 3) := by decide +kernel
theorem d_Mo_cut_22 : decode M_Mo_cut.2.1 22 = .ok (.istore_n 2, 1) := by decide +kernel
theorem d_Mo_cut_23 : decode M_Mo_cut.2.1 23 = .ok (.iload_n 1, 1) := by decide +kernel
theorem d_Mo_cut_24 : decode M_Mo_cut.2.1 24 = .ok (.aload_n 0, 1) := by decide +kernel
theorem d_Mo_cut_25 : decode M_Mo_cut.2.1 25 = .ok (.getfield 154, 3) := by decide +kernel
theorem d_Mo_cut_28 : decode M_Mo_cut.2.1 28 = .ok (.if_icmp .lt 15, 3) := by decide +kernel
theorem d_Mo_cut_31 : decode M_Mo_cut.2.1 31 = .ok (.aload_n 0, 1) := by decide +kernel
theorem d_Mo_cut_32 : decode M_Mo_cut.2.1 32 = .ok (.iconst 0, 1) := by decide +kernel
theorem d_Mo_cut_33 : decode M_Mo_cut.2.1 33 = .ok (.aload_n 0, 1) := by decide +kernel
theorem d_Mo_cut_34 : decode M_Mo_cut.2.1 34 = .ok (.getfield 154, 3) := by decide +kernel
theorem d_Mo_cut_37 : decode M_Mo_cut.2.1 37 = .ok (.iconst 0, 1) := by decide +kernel
theorem d_Mo_cut_38 : decode M_Mo_cut.2.1 38 = .ok (.lconst 0, 1) := by decide +kernel
theorem d_Mo_cut_39 : decode M_Mo_cut.2.1 39 = .ok (.invokevirtual 170, 3) := by decide +kernel
theorem d_Mo_cut_42 : decode M_Mo_cut.2.1 42 = .ok (.return_, 1) := by decide +kernel
theorem d_Mo_cut_43 : decode M_Mo_cut.2.1 43 = .ok (.iload_n 2, 1) := by decide +kernel
theorem d_Mo_cut_44 : decode M_Mo_cut.2.1 44 = .ok (.bipush 9, 2) := by decide +kernel
theorem d_Mo_cut_46 : decode M_Mo_cut.2.1 46 = .ok (.if_icmp .eq 21, 3) := by decide +kernel
theorem d_Mo_cut_49 : decode M_Mo_cut.2.1 49 = .ok (.iload_n 2, 1) := by decide +kernel
theorem d_Mo_cut_50 : decode M_Mo_cut.2.1 50 = .ok (.bipush 10, 2) := by decide +kernel
theorem d_Mo_cut_52 : decode M_Mo_cut.2.1 52 = .ok (.if_icmp .eq 15, 3) := by decide +kernel
theorem d_Mo_cut_55 : decode M_Mo_cut.2.1 55 = .ok (.iload_n 2, 1) := by decide +kernel
theorem d_Mo_cut_56 : decode M_Mo_cut.2.1 56 = .ok (.bipush 13, 2) := by decide +kernel
theorem d_Mo_cut_58 : decode M_Mo_cut.2.1 58 = .ok (.if_icmp .eq 9, 3) := by decide +kernel
theorem d_Mo_cut_61 : decode M_Mo_cut.2.1 61 = .ok (.iload_n 2, 1) := by decide +kernel
theorem d_Mo_cut_62 : decode M_Mo_cut.2.1 62 = .ok (.bipush 32, 2) := by decide +kernel
theorem d_Mo_cut_64 : decode M_Mo_cut.2.1 64 = .ok (.if_icmp .ne 9, 3) := by decide +kernel
theorem d_Mo_cut_67 : decode M_Mo_cut.2.1 67 = .ok (.iinc 1 1, 3) := by decide +kernel
theorem d_Mo_cut_70 : decode M_Mo_cut.2.1 70 = .ok (.goto 221, 3) := by decide +kernel
theorem d_Mo_cut_73 : decode M_Mo_cut.2.1 73 = .ok (.iload_n 2, 1) := by decide +kernel
theorem d_Mo_cut_74 : decode M_Mo_cut.2.1 74 = .ok (.invokestatic 174, 3) := by decide +kernel
theorem d_Mo_cut_77 : decode M_Mo_cut.2.1 77 = .ok (.ifCond .eq 119, 3) := by decide +kernel
theorem d_Mo_cut_80 : decode M_Mo_cut.2.1 80 = .ok (.iconst 0, 1) := by decide +kernel
theorem d_Mo_cut_81 : decode M_Mo_cut.2.1 81 = .ok (.istore_n 3, 1) := by decide +kernel
theorem d_Mo_cut_82 : decode M_Mo_cut.2.1 82 = .ok (.lconst 0, 1) := by decide +kernel
theorem d_Mo_cut_83 : decode M_Mo_cut.2.1 83 = .ok (.lstore 4, 2) := by decide +kernel
theorem d_Mo_cut_85 : decode M_Mo_cut.2.1 85 = .ok (.aload_n 0, 1) := by decide +kernel
theorem d_Mo_cut_86 : decode M_Mo_cut.2.1 86 = .ok (.iload_n 1, 1) := by decide +kernel
theorem d_Mo_cut_87 : decode M_Mo_cut.2.1 87 = .ok (.iload_n 3, 1) := by decide +kernel
theorem d_Mo_cut_88 : decode M_Mo_cut.2.1 88 = .ok (.iadd, 1) := by decide +kernel
theorem d_Mo_cut_89 : decode M_Mo_cut.2.1 89 = .ok (.invokevirtual 166, 3) := by decide +kernel
theorem d_Mo_cut_92 : decode M_Mo_cut.2.1 92 = .ok (.invokestatic 174, 3) := by decide +kernel
theorem d_Mo_cut_95 : decode M_Mo_cut.2.1 95 = .ok (.ifCond .eq 29, 3) := by decide +kernel
theorem d_Mo_cut_98 : decode M_Mo_cut.2.1 98 = .ok (.iload_n 3, 1) := by decide +kernel
theorem d_Mo_cut_99 : decode M_Mo_cut.2.1 99 = .ok (.bipush 8, 2) := by decide +kernel
theorem d_Mo_cut_101 : decode M_Mo_cut.2.1 101 = .ok (.if_icmp .ge 17, 3) := by decide +kernel
theorem d_Mo_cut_104 : decode M_Mo_cut.2.1 104 = .ok (.lload 4, 2) := by decide +kernel
theorem d_Mo_cut_106 : decode M_Mo_cut.2.1 106 = .ok (.aload_n 0, 1) := by decide +kernel
theorem d_Mo_cut_107 : decode M_Mo_cut.2.1 107 = .ok (.iload_n 1, 1) := by decide +kernel
theorem d_Mo_cut_108 : decode M_Mo_cut.2.1 108 = .ok (.iload_n 3, 1) := by decide +kernel
theorem d_Mo_cut_109 : decode M_Mo_cut.2.1 109 = .ok (.iadd, 1) := by decide +kernel
theorem d_Mo_cut_110 : decode M_Mo_cut.2.1 110 = .ok (.invokevirtual 166, 3) := by decide +kernel
theorem d_Mo_cut_113 : decode M_Mo_cut.2.1 113 = .ok (.invokestatic 159, 3) := by decide +kernel
theorem d_Mo_cut_116 : decode M_Mo_cut.2.1 116 = .ok (.lstore 4, 2) := by decide +kernel
theorem d_Mo_cut_118 : decode M_Mo_cut.2.1 118 = .ok (.iinc 3 1, 3) := by decide +kernel
theorem d_Mo_cut_121 : decode M_Mo_cut.2.1 121 = .ok (.goto (-36), 3) := by decide +kernel
theorem d_Mo_cut_124 : decode M_Mo_cut.2.1 124 = .ok (.iload_n 3, 1) := by decide +kernel
theorem d_Mo_cut_125 : decode M_Mo_cut.2.1 125 = .ok (.bipush 8, 2) := by decide +kernel
theorem d_Mo_cut_127 : decode M_Mo_cut.2.1 127 = .ok (.if_icmp .le 7, 3) := by decide +kernel
theorem d_Mo_cut_130 : decode M_Mo_cut.2.1 130 = .ok (.iconst 3, 1) := by decide +kernel
theorem d_Mo_cut_131 : decode M_Mo_cut.2.1 131 = .ok (.goto 4, 3) := by decide +kernel
theorem d_Mo_cut_134 : decode M_Mo_cut.2.1 134 = .ok (.iconst 1, 1) := by decide +kernel
theorem d_Mo_cut_135 : decode M_Mo_cut.2.1 135 = .ok (.istore 6, 2) := by decide +kernel
theorem d_Mo_cut_137 : decode M_Mo_cut.2.1 137 = .ok (.iload_n 3, 1) := by decide +kernel
theorem d_Mo_cut_138 : decode M_Mo_cut.2.1 138 = .ok (.bipush 7, 2) := by decide +kernel
theorem d_Mo_cut_140 : decode M_Mo_cut.2.1 140 = .ok (.if_icmp .gt 39, 3) := by decide +kernel
theorem d_Mo_cut_143 : decode M_Mo_cut.2.1 143 = .ok (.iconst 0, 1) := by decide +kernel
theorem d_Mo_cut_144 : decode M_Mo_cut.2.1 144 = .ok (.istore 7, 2) := by decide +kernel
theorem d_Mo_cut_146 : decode M_Mo_cut.2.1 146 = .ok (.iload 7, 2) := by decide +kernel
theorem d_Mo_cut_148 : decode M_Mo_cut.2.1 148 = .ok (.bipush 14, 2) := by decide +kernel
theorem d_Mo_cut_150 : decode M_Mo_cut.2.1 150 = .ok (.if_icmp .ge 29, 3) := by decide +kernel
theorem d_Mo_cut_153 : decode M_Mo_cut.2.1 153 = .ok (.aload_n 0, 1) := by decide +kernel
theorem d_Mo_cut_154 : decode M_Mo_cut.2.1 154 = .ok (.getfield 34, 3) := by decide +kernel
theorem d_Mo_cut_157 : decode M_Mo_cut.2.1 157 = .ok (.iload 7, 2) := by decide +kernel
theorem d_Mo_cut_159 : decode M_Mo_cut.2.1 159 = .ok (.laload, 1) := by decide +kernel
theorem d_Mo_cut_160 : decode M_Mo_cut.2.1 160 = .ok (.lload 4, 2) := by decide +kernel
theorem d_Mo_cut_162 : decode M_Mo_cut.2.1 162 = .ok (.lcmp, 1) := by decide +kernel
theorem d_Mo_cut_163 : decode M_Mo_cut.2.1 163 = .ok (.ifCond .ne 10, 3) := by decide +kernel
theorem d_Mo_cut_166 : decode M_Mo_cut.2.1 166 = .ok (.bipush 20, 2) := by decide +kernel
theorem d_Mo_cut_168 : decode M_Mo_cut.2.1 168 = .ok (.iload 7, 2) := by decide +kernel
theorem d_Mo_cut_170 : decode M_Mo_cut.2.1 170 = .ok (.iadd, 1) := by decide +kernel
theorem d_Mo_cut_171 : decode M_Mo_cut.2.1 171 = .ok (.istore 6, 2) := by decide +kernel
theorem d_Mo_cut_173 : decode M_Mo_cut.2.1 173 = .ok (.iinc 7 1, 3) := by decide +kernel
theorem d_Mo_cut_176 : decode M_Mo_cut.2.1 176 = .ok (.goto (-30), 3) := by decide +kernel
theorem d_Mo_cut_179 : decode M_Mo_cut.2.1 179 = .ok (.aload_n 0, 1) := by decide +kernel
theorem d_Mo_cut_180 : decode M_Mo_cut.2.1 180 = .ok (.iload 6, 2) := by decide +kernel
theorem d_Mo_cut_182 : decode M_Mo_cut.2.1 182 = .ok (.iload_n 1, 1) := by decide +kernel
theorem d_Mo_cut_183 : decode M_Mo_cut.2.1 183 = .ok (.iconst 0, 1) := by decide +kernel
theorem d_Mo_cut_184 : decode M_Mo_cut.2.1 184 = .ok (.lload 4, 2) := by decide +kernel
theorem d_Mo_cut_186 : decode M_Mo_cut.2.1 186 = .ok (.invokevirtual 170, 3) := by decide +kernel
theorem d_Mo_cut_189 : decode M_Mo_cut.2.1 189 = .ok (.iload_n 1, 1) := by decide +kernel
theorem d_Mo_cut_190 : decode M_Mo_cut.2.1 190 = .ok (.iload_n 3, 1) := by decide +kernel
theorem d_Mo_cut_191 : decode M_Mo_cut.2.1 191 = .ok (.iadd, 1) := by decide +kernel
theorem d_Mo_cut_192 : decode M_Mo_cut.2.1 192 = .ok (.istore_n 1, 1) := by decide +kernel
theorem d_Mo_cut_193 : decode M_Mo_cut.2.1 193 = .ok (.goto 98, 3) := by decide +kernel
theorem d_Mo_cut_196 : decode M_Mo_cut.2.1 196 = .ok (.iload_n 2, 1) := by decide +kernel
theorem d_Mo_cut_197 : decode M_Mo_cut.2.1 197 = .ok (.invokestatic 178, 3) := by decide +kernel
theorem d_Mo_cut_200 : decode M_Mo_cut.2.1 200 = .ok (.ifCond .eq 75, 3) := by decide +kernel
theorem d_Mo_cut_203 : decode M_Mo_cut.2.1 203 = .ok (.iconst 0, 1) := by decide +kernel
theorem d_Mo_cut_204 : decode M_Mo_cut.2.1 204 = .ok (.istore_n 3, 1) := by decide +kernel
theorem d_Mo_cut_205 : decode M_Mo_cut.2.1 205 = .ok (.iconst 0, 1) := by decide +kernel
theorem d_Mo_cut_206 : decode M_Mo_cut.2.1 206 = .ok (.istore 4, 2) := by decide +kernel
theorem d_Mo_cut_208 : decode M_Mo_cut.2.1 208 = .ok (.aload_n 0, 1) := by decide +kernel
theorem d_Mo_cut_209 : decode M_Mo_cut.2.1 209 = .ok (.iload_n 1, 1) := by decide +kernel
theorem d_Mo_cut_210 : decode M_Mo_cut.2.1 210 = .ok (.iload_n 3, 1) := by decide +kernel
theorem d_Mo_cut_211 : decode M_Mo_cut.2.1 211 = .ok (.iadd, 1) := by decide +kernel
theorem d_Mo_cut_212 : decode M_Mo_cut.2.1 212 = .ok (.invokevirtual 166, 3) := by decide +kernel
theorem d_Mo_cut_215 : decode M_Mo_cut.2.1 215 = .ok (.invokestatic 178, 3) := by decide +kernel
theorem d_Mo_cut_218 : decode M_Mo_cut.2.1 218 = .ok (.ifCond .eq 32, 3) := by decide +kernel
theorem d_Mo_cut_221 : decode M_Mo_cut.2.1 221 = .ok (.iload_n 3, 1) := by decide +kernel
theorem d_Mo_cut_222 : decode M_Mo_cut.2.1 222 = .ok (.iconst 4, 1) := by decide +kernel
theorem d_Mo_cut_223 : decode M_Mo_cut.2.1 223 = .ok (.if_icmp .ge 21, 3) := by decide +kernel
theorem d_Mo_cut_226 : decode M_Mo_cut.2.1 226 = .ok (.bipush 10, 2) := by decide +kernel
theorem d_Mo_cut_228 : decode M_Mo_cut.2.1 228 = .ok (.iload 4, 2) := by decide +kernel
theorem d_Mo_cut_230 : decode M_Mo_cut.2.1 230 = .ok (.imul, 1) := by decide +kernel
theorem d_Mo_cut_231 : decode M_Mo_cut.2.1 231 = .ok (.aload_n 0, 1) := by decide +kernel
theorem d_Mo_cut_232 : decode M_Mo_cut.2.1 232 = .ok (.iload_n 1, 1) := by decide +kernel
theorem d_Mo_cut_233 : decode M_Mo_cut.2.1 233 = .ok (.iload_n 3, 1) := by decide +kernel
theorem d_Mo_cut_234 : decode M_Mo_cut.2.1 234 = .ok (.iadd, 1) := by decide +kernel
theorem d_Mo_cut_235 : decode M_Mo_cut.2.1 235 = .ok (.invokevirtual 166, 3) := by decide +kernel
theorem d_Mo_cut_238 : decode M_Mo_cut.2.1 238 = .ok (.iadd, 1) := by decide +kernel
theorem d_Mo_cut_239 : decode M_Mo_cut.2.1 239 = .ok (.bipush 48, 2) := by decide +kernel
theorem d_Mo_cut_241 : decode M_Mo_cut.2.1 241 = .ok (.isub, 1) := by decide +kernel
theorem d_Mo_cut_242 : decode M_Mo_cut.2.1 242 = .ok (.istore 4, 2) := by decide +kernel
theorem d_Mo_cut_244 : decode M_Mo_cut.2.1 244 = .ok (.iinc 3 1, 3) := by decide +kernel
theorem d_Mo_cut_247 : decode M_Mo_cut.2.1 247 = .ok (.goto (-39), 3) := by decide +kernel
theorem d_Mo_cut_250 : decode M_Mo_cut.2.1 250 = .ok (.aload_n 0, 1) := by decide +kernel
theorem d_Mo_cut_251 : decode M_Mo_cut.2.1 251 = .ok (.iload_n 3, 1) := by decide +kernel
theorem d_Mo_cut_252 : decode M_Mo_cut.2.1 252 = .ok (.iconst 4, 1) := by decide +kernel
theorem d_Mo_cut_253 : decode M_Mo_cut.2.1 253 = .ok (.if_icmp .le 7, 3) := by decide +kernel
theorem d_Mo_cut_256 : decode M_Mo_cut.2.1 256 = .ok (.iconst 3, 1) := by decide +kernel
theorem d_Mo_cut_257 : decode M_Mo_cut.2.1 257 = .ok (.goto 4, 3) := by decide +kernel
theorem d_Mo_cut_260 : decode M_Mo_cut.2.1 260 = .ok (.iconst 2, 1) := by decide +kernel
theorem d_Mo_cut_261 : decode M_Mo_cut.2.1 261 = .ok (.iload_n 1, 1) := by decide +kernel
theorem d_Mo_cut_262 : decode M_Mo_cut.2.1 262 = .ok (.iload 4, 2) := by decide +kernel
theorem d_Mo_cut_264 : decode M_Mo_cut.2.1 264 = .ok (.lconst 0, 1) := by decide +kernel
theorem d_Mo_cut_265 : decode M_Mo_cut.2.1 265 = .ok (.invokevirtual 170, 3) := by decide +kernel
theorem d_Mo_cut_268 : decode M_Mo_cut.2.1 268 = .ok (.iload_n 1, 1) := by decide +kernel
theorem d_Mo_cut_269 : decode M_Mo_cut.2.1 269 = .ok (.iload_n 3, 1) := by decide +kernel
theorem d_Mo_cut_270 : decode M_Mo_cut.2.1 270 = .ok (.iadd, 1) := by decide +kernel
theorem d_Mo_cut_271 : decode M_Mo_cut.2.1 271 = .ok (.istore_n 1, 1) := by decide +kernel
theorem d_Mo_cut_272 : decode M_Mo_cut.2.1 272 = .ok (.goto 19, 3) := by decide +kernel
theorem d_Mo_cut_275 : decode M_Mo_cut.2.1 275 = .ok (.iload_n 1, 1) := by decide +kernel
theorem d_Mo_cut_276 : decode M_Mo_cut.2.1 276 = .ok (.aload_n 0, 1) := by decide +kernel
theorem d_Mo_cut_277 : decode M_Mo_cut.2.1 277 = .ok (.iload_n 1, 1) := by decide +kernel
theorem d_Mo_cut_278 : decode M_Mo_cut.2.1 278 = .ok (.iload_n 2, 1) := by decide +kernel
theorem d_Mo_cut_279 : decode M_Mo_cut.2.1 279 = .ok (.aload_n 0, 1) := by decide +kernel
theorem d_Mo_cut_280 : decode M_Mo_cut.2.1 280 = .ok (.iload_n 1, 1) := by decide +kernel
theorem d_Mo_cut_281 : decode M_Mo_cut.2.1 281 = .ok (.iconst 1, 1) := by decide +kernel
theorem d_Mo_cut_282 : decode M_Mo_cut.2.1 282 = .ok (.iadd, 1) := by decide +kernel
theorem d_Mo_cut_283 : decode M_Mo_cut.2.1 283 = .ok (.invokevirtual 166, 3) := by decide +kernel
theorem d_Mo_cut_286 : decode M_Mo_cut.2.1 286 = .ok (.invokevirtual 181, 3) := by decide +kernel
theorem d_Mo_cut_289 : decode M_Mo_cut.2.1 289 = .ok (.iadd, 1) := by decide +kernel
theorem d_Mo_cut_290 : decode M_Mo_cut.2.1 290 = .ok (.istore_n 1, 1) := by decide +kernel
theorem d_Mo_cut_291 : decode M_Mo_cut.2.1 291 = .ok (.goto (-284), 3) := by decide +kernel
theorem d_Mo_cut_294 : decode M_Mo_cut.2.1 294 = .ok (.return_, 1) := by decide +kernel
theorem d_Mo_sign_0 : decode M_Mo_sign.2.1 0 = .ok (.iload_n 2, 1) := by decide +kernel
theorem d_Mo_sign_1 : decode M_Mo_sign.2.1 1 = .ok (.bipush 59, 2) := by decide +kernel
theorem d_Mo_sign_3 : decode M_Mo_sign.2.1 3 = .ok (.if_icmp .ne 7, 3) := by decide +kernel
theorem d_Mo_sign_6 : decode M_Mo_sign.2.1 6 = .ok (.iconst 4, 1) := by decide +kernel
theorem d_Mo_sign_7 : decode M_Mo_sign.2.1 7 = .ok (.goto 36, 3) := by decide +kernel
theorem d_Mo_sign_10 : decode M_Mo_sign.2.1 10 = .ok (.iload_n 2, 1) := by decide +kernel
theorem d_Mo_sign_11 : decode M_Mo_sign.2.1 11 = .ok (.bipush 61, 2) := by decide +kernel
theorem d_Mo_sign_13 : decode M_Mo_sign.2.1 13 = .ok (.if_icmp .ne 7, 3) := by decide +kernel
theorem d_Mo_sign_16 : decode M_Mo_sign.2.1 16 = .ok (.iconst 5, 1) := by decide +kernel
theorem d_Mo_sign_17 : decode M_Mo_sign.2.1 17 = .ok (.goto 26, 3) := by decide +kernel
theorem d_Mo_sign_20 : decode M_Mo_sign.2.1 20 = .ok (.iload_n 2, 1) := by decide +kernel
theorem d_Mo_sign_21 : decode M_Mo_sign.2.1 21 = .ok (.bipush 40, 2) := by decide +kernel
theorem d_Mo_sign_23 : decode M_Mo_sign.2.1 23 = .ok (.if_icmp .ne 8, 3) := by decide +kernel
theorem d_Mo_sign_26 : decode M_Mo_sign.2.1 26 = .ok (.bipush 6, 2) := by decide +kernel
theorem d_Mo_sign_28 : decode M_Mo_sign.2.1 28 = .ok (.goto 15, 3) := by decide +kernel
theorem d_Mo_sign_31 : decode M_Mo_sign.2.1 31 = .ok (.iload_n 2, 1) := by decide +kernel
theorem d_Mo_sign_32 : decode M_Mo_sign.2.1 32 = .ok (.bipush 41, 2) := by decide +kernel
theorem d_Mo_sign_34 : decode M_Mo_sign.2.1 34 = .ok (.if_icmp .ne 8, 3) := by decide +kernel
theorem d_Mo_sign_37 : decode M_Mo_sign.2.1 37 = .ok (.bipush 7, 2) := by decide +kernel
theorem d_Mo_sign_39 : decode M_Mo_sign.2.1 39 = .ok (.goto 4, 3) := by decide +kernel
theorem d_Mo_sign_42 : decode M_Mo_sign.2.1 42 = .ok (.iconst 3, 1) := by decide +kernel
theorem d_Mo_sign_43 : decode M_Mo_sign.2.1 43 = .ok (.istore 4, 2) := by decide +kernel
theorem d_Mo_sign_45 : decode M_Mo_sign.2.1 45 = .ok (.iload_n 2, 1) := by decide +kernel
theorem d_Mo_sign_46 : decode M_Mo_sign.2.1 46 = .ok (.bipush 43, 2) := by decide +kernel
theorem d_Mo_sign_48 : decode M_Mo_sign.2.1 48 = .ok (.if_icmp .ne 7, 3) := by decide +kernel
theorem d_Mo_sign_51 : decode M_Mo_sign.2.1 51 = .ok (.bipush 8, 2) := by decide +kernel
theorem d_Mo_sign_53 : decode M_Mo_sign.2.1 53 = .ok (.istore 4, 2) := by decide +kernel
theorem d_Mo_sign_55 : decode M_Mo_sign.2.1 55 = .ok (.iload_n 2, 1) := by decide +kernel
theorem d_Mo_sign_56 : decode M_Mo_sign.2.1 56 = .ok (.bipush 45, 2) := by decide +kernel
theorem d_Mo_sign_58 : decode M_Mo_sign.2.1 58 = .ok (.if_icmp .ne 7, 3) := by decide +kernel
theorem d_Mo_sign_61 : decode M_Mo_sign.2.1 61 = .ok (.bipush 9, 2) := by decide +kernel
theorem d_Mo_sign_63 : decode M_Mo_sign.2.1 63 = .ok (.istore 4, 2) := by decide +kernel
theorem d_Mo_sign_65 : decode M_Mo_sign.2.1 65 = .ok (.iload_n 2, 1) := by decide +kernel
theorem d_Mo_sign_66 : decode M_Mo_sign.2.1 66 = .ok (.bipush 42, 2) := by decide +kernel
theorem d_Mo_sign_68 : decode M_Mo_sign.2.1 68 = .ok (.if_icmp .ne 7, 3) := by decide +kernel
theorem d_Mo_sign_71 : decode M_Mo_sign.2.1 71 = .ok (.bipush 10, 2) := by decide +kernel
theorem d_Mo_sign_73 : decode M_Mo_sign.2.1 73 = .ok (.istore 4, 2) := by decide +kernel
theorem d_Mo_sign_75 : decode M_Mo_sign.2.1 75 = .ok (.iload_n 2, 1) := by decide +kernel
theorem d_Mo_sign_76 : decode M_Mo_sign.2.1 76 = .ok (.bipush 47, 2) := by decide +kernel
theorem d_Mo_sign_78 : decode M_Mo_sign.2.1 78 = .ok (.if_icmp .ne 7, 3) := by decide +kernel
theorem d_Mo_sign_81 : decode M_Mo_sign.2.1 81 = .ok (.bipush 15, 2) := by decide +kernel
theorem d_Mo_sign_83 : decode M_Mo_sign.2.1 83 = .ok (.istore 4, 2) := by decide +kernel
theorem d_Mo_sign_85 : decode M_Mo_sign.2.1 85 = .ok (.iload_n 2, 1) := by decide +kernel
theorem d_Mo_sign_86 : decode M_Mo_sign.2.1 86 = .ok (.bipush 60, 2) := by decide +kernel
theorem d_Mo_sign_88 : decode M_Mo_sign.2.1 88 = .ok (.if_icmp .ne 7, 3) := by decide +kernel
theorem d_Mo_sign_91 : decode M_Mo_sign.2.1 91 = .ok (.bipush 13, 2) := by decide +kernel
theorem d_Mo_sign_93 : decode M_Mo_sign.2.1 93 = .ok (.istore 4, 2) := by decide +kernel
theorem d_Mo_sign_95 : decode M_Mo_sign.2.1 95 = .ok (.aload_n 0, 1) := by decide +kernel
theorem d_Mo_sign_96 : decode M_Mo_sign.2.1 96 = .ok (.iload 4, 2) := by decide +kernel
theorem d_Mo_sign_98 : decode M_Mo_sign.2.1 98 = .ok (.iload_n 1, 1) := by decide +kernel
theorem d_Mo_sign_99 : decode M_Mo_sign.2.1 99 = .ok (.iconst 0, 1) := by decide +kernel
theorem d_Mo_sign_100 : decode M_Mo_sign.2.1 100 = .ok (.lconst 0, 1) := by decide +kernel
theorem d_Mo_sign_101 : decode M_Mo_sign.2.1 101 = .ok (.invokevirtual 170, 3) := by decide +kernel
theorem d_Mo_sign_104 : decode M_Mo_sign.2.1 104 = .ok (.iconst 1, 1) := by decide +kernel
theorem d_Mo_sign_105 : decode M_Mo_sign.2.1 105 = .ok (.ireturn, 1) := by decide +kernel
theorem d_Mo_is_0 : decode M_Mo_is.2.1 0 = .ok (.aload_n 0, 1) := by decide +kernel
theorem d_Mo_is_1 : decode M_Mo_is.2.1 1 = .ok (.getfield 185, 3) := by decide +kernel
theorem d_Mo_is_4 : decode M_Mo_is.2.1 4 = .ok (.ifCond .ne 20, 3) := by decide +kernel
theorem d_Mo_is_7 : decode M_Mo_is.2.1 7 = .ok (.aload_n 0, 1) := by decide +kernel
theorem d_Mo_is_8 : decode M_Mo_is.2.1 8 = .ok (.getfield 20, 3) := by decide +kernel
theorem d_Mo_is_11 : decode M_Mo_is.2.1 11 = .ok (.aload_n 0, 1) := by decide +kernel
theorem d_Mo_is_12 : decode M_Mo_is.2.1 12 = .ok (.getfield 188, 3) := by decide +kernel
theorem d_Mo_is_15 : decode M_Mo_is.2.1 15 = .ok (.iaload, 1) := by decide +kernel
theorem d_Mo_is_16 : decode M_Mo_is.2.1 16 = .ok (.iload_n 1, 1) := by decide +kernel
theorem d_Mo_is_17 : decode M_Mo_is.2.1 17 = .ok (.if_icmp .ne 7, 3) := by decide +kernel
theorem d_Mo_is_20 : decode M_Mo_is.2.1 20 = .ok (.iconst 1, 1) := by decide +kernel
theorem d_Mo_is_21 : decode M_Mo_is.2.1 21 = .ok (.goto 4, 3) := by decide +kernel
theorem d_Mo_is_24 : decode M_Mo_is.2.1 24 = .ok (.iconst 0, 1) := by decide +kernel
theorem d_Mo_is_25 : decode M_Mo_is.2.1 25 = .ok (.ireturn, 1) := by decide +kernel
theorem d_Mo_fail_0 : decode M_Mo_fail.2.1 0 = .ok (.aload_n 0, 1) := by decide +kernel
theorem d_Mo_fail_1 : decode M_Mo_fail.2.1 1 = .ok (.getfield 185, 3) := by decide +kernel
theorem d_Mo_fail_4 : decode M_Mo_fail.2.1 4 = .ok (.ifCond .le 4, 3) := by decide +kernel
theorem d_Mo_fail_7 : decode M_Mo_fail.2.1 7 = .ok (.return_, 1) := by decide +kernel
theorem d_Mo_fail_8 : decode M_Mo_fail.2.1 8 = .ok (.aload_n 0, 1) := by decide +kernel
theorem d_Mo_fail_9 : decode M_Mo_fail.2.1 9 = .ok (.iload_n 1, 1) := by decide +kernel
theorem d_Mo_fail_10 : decode M_Mo_fail.2.1 10 = .ok (.putfield 185, 3) := by decide +kernel
theorem d_Mo_fail_13 : decode M_Mo_fail.2.1 13 = .ok (.aload_n 0, 1) := by decide +kernel
theorem d_Mo_fail_14 : decode M_Mo_fail.2.1 14 = .ok (.aload_n 0, 1) := by decide +kernel
theorem d_Mo_fail_15 : decode M_Mo_fail.2.1 15 = .ok (.getfield 24, 3) := by decide +kernel
theorem d_Mo_fail_18 : decode M_Mo_fail.2.1 18 = .ok (.aload_n 0, 1) := by decide +kernel
theorem d_Mo_fail_19 : decode M_Mo_fail.2.1 19 = .ok (.getfield 188, 3) := by decide +kernel
theorem d_Mo_fail_22 : decode M_Mo_fail.2.1 22 = .ok (.iaload, 1) := by decide +kernel
theorem d_Mo_fail_23 : decode M_Mo_fail.2.1 23 = .ok (.putfield 191, 3) := by decide +kernel
theorem d_Mo_fail_26 : decode M_Mo_fail.2.1 26 = .ok (.return_, 1) := by decide +kernel
theorem d_Mo_wrong_0 : decode M_Mo_wrong.2.1 0 = .ok (.aload_n 0, 1) := by decide +kernel
theorem d_Mo_wrong_1 : decode M_Mo_wrong.2.1 1 = .ok (.getfield 24, 3) := by decide +kernel
theorem d_Mo_wrong_4 : decode M_Mo_wrong.2.1 4 = .ok (.iload_n 2, 1) := by decide +kernel
theorem d_Mo_wrong_5 : decode M_Mo_wrong.2.1 5 = .ok (.iaload, 1) := by decide +kernel
theorem d_Mo_wrong_6 : decode M_Mo_wrong.2.1 6 = .ok (.istore_n 3, 1) := by decide +kernel
theorem d_Mo_wrong_7 : decode M_Mo_wrong.2.1 7 = .ok (.aload_n 0, 1) := by decide +kernel
theorem d_Mo_wrong_8 : decode M_Mo_wrong.2.1 8 = .ok (.getfield 185, 3) := by decide +kernel
theorem d_Mo_wrong_11 : decode M_Mo_wrong.2.1 11 = .ok (.ifCond .gt 34, 3) := by decide +kernel
theorem d_Mo_wrong_14 : decode M_Mo_wrong.2.1 14 = .ok (.aload_n 0, 1) := by decide +kernel
theorem d_Mo_wrong_15 : decode M_Mo_wrong.2.1 15 = .ok (.getfield 194, 3) := by decide +kernel
theorem d_Mo_wrong_18 : decode M_Mo_wrong.2.1 18 = .ok (.ifCond .eq 28, 3) := by decide +kernel
theorem d_Mo_wrong_21 : decode M_Mo_wrong.2.1 21 = .ok (.iload_n 3, 1) := by decide +kernel
theorem d_Mo_wrong_22 : decode M_Mo_wrong.2.1 22 = .ok (.aload_n 0, 1) := by decide +kernel
theorem d_Mo_wrong_23 : decode M_Mo_wrong.2.1 23 = .ok (.getfield 197, 3) := by decide +kernel
theorem d_Mo_wrong_26 : decode M_Mo_wrong.2.1 26 = .ok (.if_icmp .gt 19, 3) := by decide +kernel
theorem d_Mo_wrong_29 : decode M_Mo_wrong.2.1 29 = .ok (.iload_n 3, 1) := by decide +kernel
theorem d_Mo_wrong_30 : decode M_Mo_wrong.2.1 30 = .ok (.aload_n 0, 1) := by decide +kernel
theorem d_Mo_wrong_31 : decode M_Mo_wrong.2.1 31 = .ok (.getfield 197, 3) := by decide +kernel
theorem d_Mo_wrong_34 : decode M_Mo_wrong.2.1 34 = .ok (.if_icmp .ne 12, 3) := by decide +kernel
theorem d_Mo_wrong_37 : decode M_Mo_wrong.2.1 37 = .ok (.iload_n 1, 1) := by decide +kernel
theorem d_Mo_wrong_38 : decode M_Mo_wrong.2.1 38 = .ok (.aload_n 0, 1) := by decide +kernel
theorem d_Mo_wrong_39 : decode M_Mo_wrong.2.1 39 = .ok (.getfield 194, 3) := by decide +kernel
theorem d_Mo_wrong_42 : decode M_Mo_wrong.2.1 42 = .ok (.if_icmp .lt 4, 3) := by decide +kernel
theorem d_Mo_wrong_45 : decode M_Mo_wrong.2.1 45 = .ok (.return_, 1) := by decide +kernel
theorem d_Mo_wrong_46 : decode M_Mo_wrong.2.1 46 = .ok (.aload_n 0, 1) := by decide +kernel
theorem d_Mo_wrong_47 : decode M_Mo_wrong.2.1 47 = .ok (.iload_n 1, 1) := by decide +kernel
theorem d_Mo_wrong_48 : decode M_Mo_wrong.2.1 48 = .ok (.putfield 194, 3) := by decide +kernel
theorem d_Mo_wrong_51 : decode M_Mo_wrong.2.1 51 = .ok (.aload_n 0, 1) := by decide +kernel
theorem d_Mo_wrong_52 : decode M_Mo_wrong.2.1 52 = .ok (.iload_n 3, 1) := by decide +kernel
theorem d_Mo_wrong_53 : decode M_Mo_wrong.2.1 53 = .ok (.putfield 197, 3) := by decide +kernel
theorem d_Mo_wrong_56 : decode M_Mo_wrong.2.1 56 = .ok (.return_, 1) := by decide +kernel
theorem d_Mo_goesOn_0 : decode M_Mo_goesOn.2.1 0 = .ok (.aload_n 0, 1) := by decide +kernel
theorem d_Mo_goesOn_1 : decode M_Mo_goesOn.2.1 1 = .ok (.getfield 188, 3) := by decide +kernel
theorem d_Mo_goesOn_4 : decode M_Mo_goesOn.2.1 4 = .ok (.sipush 400, 3) := by decide +kernel
theorem d_Mo_goesOn_7 : decode M_Mo_goesOn.2.1 7 = .ok (.if_icmp .ne 11, 3) := by decide +kernel
theorem d_Mo_goesOn_10 : decode M_Mo_goesOn.2.1 10 = .ok (.aload_n 0, 1) := by decide +kernel
theorem d_Mo_goesOn_11 : decode M_Mo_goesOn.2.1 11 = .ok (.iconst 2, 1) := by decide +kernel
theorem d_Mo_goesOn_12 : decode M_Mo_goesOn.2.1 12 = .ok (.invokevirtual 200, 3) := by decide +kernel
theorem d_Mo_goesOn_15 : decode M_Mo_goesOn.2.1 15 = .ok (.goto 13, 3) := by decide +kernel
theorem d_Mo_goesOn_18 : decode M_Mo_goesOn.2.1 18 = .ok (.aload_n 0, 1) := by decide +kernel
theorem d_Mo_goesOn_19 : decode M_Mo_goesOn.2.1 19 = .ok (.dup, 1) := by decide +kernel
theorem d_Mo_goesOn_20 : decode M_Mo_goesOn.2.1 20 = .ok (.getfield 188, 3) := by decide +kernel
theorem d_Mo_goesOn_23 : decode M_Mo_goesOn.2.1 23 = .ok (.iconst 1, 1) := by decide +kernel
theorem d_Mo_goesOn_24 : decode M_Mo_goesOn.2.1 24 = .ok (.iadd, 1) := by decide +kernel
theorem d_Mo_goesOn_25 : decode M_Mo_goesOn.2.1 25 = .ok (.putfield 188, 3) := by decide +kernel
theorem d_Mo_goesOn_28 : decode M_Mo_goesOn.2.1 28 = .ok (.return_, 1) := by decide +kernel
theorem d_Mo_must_0 : decode M_Mo_must.2.1 0 = .ok (.aload_n 0, 1) := by decide +kernel
theorem d_Mo_must_1 : decode M_Mo_must.2.1 1 = .ok (.iload_n 1, 1) := by decide +kernel
theorem d_Mo_must_2 : decode M_Mo_must.2.1 2 = .ok (.invokevirtual 203, 3) := by decide +kernel
theorem d_Mo_must_5 : decode M_Mo_must.2.1 5 = .ok (.ifCond .eq 10, 3) := by decide +kernel
theorem d_Mo_must_8 : decode M_Mo_must.2.1 8 = .ok (.aload_n 0, 1) := by decide +kernel
theorem d_Mo_must_9 : decode M_Mo_must.2.1 9 = .ok (.invokevirtual 206, 3) := by decide +kernel
theorem d_Mo_must_12 : decode M_Mo_must.2.1 12 = .ok (.goto 8, 3) := by decide +kernel
theorem d_Mo_must_15 : decode M_Mo_must.2.1 15 = .ok (.aload_n 0, 1) := by decide +kernel
theorem d_Mo_must_16 : decode M_Mo_must.2.1 16 = .ok (.iconst 1, 1) := by decide +kernel
theorem d_Mo_must_17 : decode M_Mo_must.2.1 17 = .ok (.invokevirtual 200, 3) := by decide +kernel
theorem d_Mo_must_20 : decode M_Mo_must.2.1 20 = .ok (.return_, 1) := by decide +kernel
theorem d_Mo_read_0 : decode M_Mo_read.2.1 0 = .ok (.aload_n 0, 1) := by decide +kernel
theorem d_Mo_read_1 : decode M_Mo_read.2.1 1 = .ok (.aload_n 0, 1) := by decide +kernel
theorem d_Mo_read_2 : decode M_Mo_read.2.1 2 = .ok (.getfield 147, 3) := by decide +kernel
theorem d_Mo_read_5 : decode M_Mo_read.2.1 5 = .ok (.putfield 154, 3) := by decide +kernel
theorem d_Mo_read_8 : decode M_Mo_read.2.1 8 = .ok (.iconst 0, 1) := by decide +kernel
theorem d_Mo_read_9 : decode M_Mo_read.2.1 9 = .ok (.istore_n 1, 1) := by decide +kernel
theorem d_Mo_read_10 : decode M_Mo_read.2.1 10 = .ok (.iload_n 1, 1) := by decide +kernel
theorem d_Mo_read_11 : decode M_Mo_read.2.1 11 = .ok (.aload_n 0, 1) := by decide +kernel
theorem d_Mo_read_12 : decode M_Mo_read.2.1 12 = .ok (.getfield 154, 3) := by decide +kernel
theorem d_Mo_read_15 : decode M_Mo_read.2.1 15 = .ok (.if_icmp .ge 21, 3) := by decide +kernel
theorem d_Mo_read_18 : decode M_Mo_read.2.1 18 = .ok (.aload_n 0, 1) := by decide +kernel
theorem d_Mo_read_19 : decode M_Mo_read.2.1 19 = .ok (.getfield 17, 3) := by decide +kernel
theorem d_Mo_read_22 : decode M_Mo_read.2.1 22 = .ok (.iload_n 1, 1) := by decide +kernel
theorem d_Mo_read_23 : decode M_Mo_read.2.1 23 = .ok (.aload_n 0, 1) := by decide +kernel
theorem d_Mo_read_24 : decode M_Mo_read.2.1 24 = .ok (.getfield 13, 3) := by decide +kernel
theorem d_Mo_read_27 : decode M_Mo_read.2.1 27 = .ok (.iload_n 1, 1) := by decide +kernel
theorem d_Mo_read_28 : decode M_Mo_read.2.1 28 = .ok (.baload, 1) := by decide +kernel
theorem d_Mo_read_29 : decode M_Mo_read.2.1 29 = .ok (.bastore, 1) := by decide +kernel
theorem d_Mo_read_30 : decode M_Mo_read.2.1 30 = .ok (.iinc 1 1, 3) := by decide +kernel
theorem d_Mo_read_33 : decode M_Mo_read.2.1 33 = .ok (.goto (-23), 3) := by decide +kernel
theorem d_Mo_read_36 : decode M_Mo_read.2.1 36 = .ok (.aload_n 0, 1) := by decide +kernel
theorem d_Mo_read_37 : decode M_Mo_read.2.1 37 = .ok (.iconst 0, 1) := by decide +kernel
theorem d_Mo_read_38 : decode M_Mo_read.2.1 38 = .ok (.putfield 147, 3) := by decide +kernel
theorem d_Mo_read_41 : decode M_Mo_read.2.1 41 = .ok (.aload_n 0, 1) := by decide +kernel
theorem d_Mo_read_42 : decode M_Mo_read.2.1 42 = .ok (.invokevirtual 209, 3) := by decide +kernel
theorem d_Mo_read_45 : decode M_Mo_read.2.1 45 = .ok (.aload_n 0, 1) := by decide +kernel
theorem d_Mo_read_46 : decode M_Mo_read.2.1 46 = .ok (.iconst 0, 1) := by decide +kernel
theorem d_Mo_read_47 : decode M_Mo_read.2.1 47 = .ok (.putfield 188, 3) := by decide +kernel
theorem d_Mo_read_50 : decode M_Mo_read.2.1 50 = .ok (.aload_n 0, 1) := by decide +kernel
theorem d_Mo_read_51 : decode M_Mo_read.2.1 51 = .ok (.iconst 0, 1) := by decide +kernel
theorem d_Mo_read_52 : decode M_Mo_read.2.1 52 = .ok (.putfield 212, 3) := by decide +kernel
theorem d_Mo_read_55 : decode M_Mo_read.2.1 55 = .ok (.aload_n 0, 1) := by decide +kernel
theorem d_Mo_read_56 : decode M_Mo_read.2.1 56 = .ok (.iconst 0, 1) := by decide +kernel
theorem d_Mo_read_57 : decode M_Mo_read.2.1 57 = .ok (.putfield 185, 3) := by decide +kernel
theorem d_Mo_read_60 : decode M_Mo_read.2.1 60 = .ok (.aload_n 0, 1) := by decide +kernel
theorem d_Mo_read_61 : decode M_Mo_read.2.1 61 = .ok (.iconst 0, 1) := by decide +kernel
theorem d_Mo_read_62 : decode M_Mo_read.2.1 62 = .ok (.putfield 194, 3) := by decide +kernel
theorem d_Mo_read_65 : decode M_Mo_read.2.1 65 = .ok (.aload_n 0, 1) := by decide +kernel
theorem d_Mo_read_66 : decode M_Mo_read.2.1 66 = .ok (.iconst 1, 1) := by decide +kernel
theorem d_Mo_read_67 : decode M_Mo_read.2.1 67 = .ok (.aload_n 0, 1) := by decide +kernel
theorem d_Mo_read_68 : decode M_Mo_read.2.1 68 = .ok (.getfield 215, 3) := by decide +kernel
theorem d_Mo_read_71 : decode M_Mo_read.2.1 71 = .ok (.isub, 1) := by decide +kernel
theorem d_Mo_read_72 : decode M_Mo_read.2.1 72 = .ok (.putfield 218, 3) := by decide +kernel
theorem d_Mo_read_75 : decode M_Mo_read.2.1 75 = .ok (.aload_n 0, 1) := by decide +kernel
theorem d_Mo_read_76 : decode M_Mo_read.2.1 76 = .ok (.iconst 0, 1) := by decide +kernel
theorem d_Mo_read_77 : decode M_Mo_read.2.1 77 = .ok (.putfield 221, 3) := by decide +kernel
theorem d_Mo_read_80 : decode M_Mo_read.2.1 80 = .ok (.aload_n 0, 1) := by decide +kernel
theorem d_Mo_read_81 : decode M_Mo_read.2.1 81 = .ok (.getfield 49, 3) := by decide +kernel
theorem d_Mo_read_84 : decode M_Mo_read.2.1 84 = .ok (.aload_n 0, 1) := by decide +kernel
theorem d_Mo_read_85 : decode M_Mo_read.2.1 85 = .ok (.getfield 218, 3) := by decide +kernel
theorem d_Mo_read_88 : decode M_Mo_read.2.1 88 = .ok (.iconst 0, 1) := by decide +kernel
theorem d_Mo_read_89 : decode M_Mo_read.2.1 89 = .ok (.iastore, 1) := by decide +kernel
theorem d_Mo_read_90 : decode M_Mo_read.2.1 90 = .ok (.aload_n 0, 1) := by decide +kernel
theorem d_Mo_read_91 : decode M_Mo_read.2.1 91 = .ok (.getfield 64, 3) := by decide +kernel
theorem d_Mo_read_94 : decode M_Mo_read.2.1 94 = .ok (.aload_n 0, 1) := by decide +kernel
theorem d_Mo_read_95 : decode M_Mo_read.2.1 95 = .ok (.getfield 218, 3) := by decide +kernel
theorem d_Mo_read_98 : decode M_Mo_read.2.1 98 = .ok (.iconst 0, 1) := by decide +kernel
theorem d_Mo_read_99 : decode M_Mo_read.2.1 99 = .ok (.iastore, 1) := by decide +kernel
theorem d_Mo_read_100 : decode M_Mo_read.2.1 100 = .ok (.aload_n 0, 1) := by decide +kernel
theorem d_Mo_read_101 : decode M_Mo_read.2.1 101 = .ok (.getfield 70, 3) := by decide +kernel
theorem d_Mo_read_104 : decode M_Mo_read.2.1 104 = .ok (.aload_n 0, 1) := by decide +kernel
theorem d_Mo_read_105 : decode M_Mo_read.2.1 105 = .ok (.getfield 218, 3) := by decide +kernel
theorem d_Mo_read_108 : decode M_Mo_read.2.1 108 = .ok (.iconst 0, 1) := by decide +kernel
theorem d_Mo_read_109 : decode M_Mo_read.2.1 109 = .ok (.iastore, 1) := by decide +kernel
theorem d_Mo_read_110 : decode M_Mo_read.2.1 110 = .ok (.aload_n 0, 1) := by decide +kernel
theorem d_Mo_read_111 : decode M_Mo_read.2.1 111 = .ok (.getfield 76, 3) := by decide +kernel
theorem d_Mo_read_114 : decode M_Mo_read.2.1 114 = .ok (.aload_n 0, 1) := by decide +kernel
theorem d_Mo_read_115 : decode M_Mo_read.2.1 115 = .ok (.getfield 218, 3) := by decide +kernel
theorem d_Mo_read_118 : decode M_Mo_read.2.1 118 = .ok (.bipush 60, 2) := by decide +kernel
theorem d_Mo_read_120 : decode M_Mo_read.2.1 120 = .ok (.iastore, 1) := by decide +kernel
theorem d_Mo_read_121 : decode M_Mo_read.2.1 121 = .ok (.aload_n 0, 1) := by decide +kernel
theorem d_Mo_read_122 : decode M_Mo_read.2.1 122 = .ok (.sipush 130, 3) := by decide +kernel
theorem d_Mo_read_125 : decode M_Mo_read.2.1 125 = .ok (.aload_n 0, 1) := by decide +kernel
theorem d_Mo_read_126 : decode M_Mo_read.2.1 126 = .ok (.getfield 218, 3) := by decide +kernel
theorem d_Mo_read_129 : decode M_Mo_read.2.1 129 = .ok (.imul, 1) := by decide +kernel
theorem d_Mo_read_130 : decode M_Mo_read.2.1 130 = .ok (.putfield 224, 3) := by decide +kernel
theorem d_Mo_read_133 : decode M_Mo_read.2.1 133 = .ok (.aload_n 0, 1) := by decide +kernel
theorem d_Mo_read_134 : decode M_Mo_read.2.1 134 = .ok (.sipush 420, 3) := by decide +kernel
theorem d_Mo_read_137 : decode M_Mo_read.2.1 137 = .ok (.aload_n 0, 1) := by decide +kernel
theorem d_Mo_read_138 : decode M_Mo_read.2.1 138 = .ok (.getfield 218, 3) := by decide +kernel
theorem d_Mo_read_141 : decode M_Mo_read.2.1 141 = .ok (.imul, 1) := by decide +kernel
theorem d_Mo_read_142 : decode M_Mo_read.2.1 142 = .ok (.putfield 227, 3) := by decide +kernel
theorem d_Mo_read_145 : decode M_Mo_read.2.1 145 = .ok (.aload_n 0, 1) := by decide +kernel
theorem d_Mo_read_146 : decode M_Mo_read.2.1 146 = .ok (.getfield 79, 3) := by decide +kernel
theorem d_Mo_read_149 : decode M_Mo_read.2.1 149 = .ok (.aload_n 0, 1) := by decide +kernel
theorem d_Mo_read_150 : decode M_Mo_read.2.1 150 = .ok (.getfield 218, 3) := by decide +kernel
theorem d_Mo_read_153 : decode M_Mo_read.2.1 153 = .ok (.iconst 0, 1) := by decide +kernel
theorem d_Mo_read_154 : decode M_Mo_read.2.1 154 = .ok (.iastore, 1) := by decide +kernel
theorem d_Mo_read_155 : decode M_Mo_read.2.1 155 = .ok (.aload_n 0, 1) := by decide +kernel
theorem d_Mo_read_156 : decode M_Mo_read.2.1 156 = .ok (.getfield 82, 3) := by decide +kernel
theorem d_Mo_read_159 : decode M_Mo_read.2.1 159 = .ok (.aload_n 0, 1) := by decide +kernel
theorem d_Mo_read_160 : decode M_Mo_read.2.1 160 = .ok (.getfield 218, 3) := by decide +kernel
theorem d_Mo_read_163 : decode M_Mo_read.2.1 163 = .ok (.iconst 0, 1) := by decide +kernel
theorem d_Mo_read_164 : decode M_Mo_read.2.1 164 = .ok (.iastore, 1) := by decide +kernel
theorem d_Mo_read_165 : decode M_Mo_read.2.1 165 = .ok (.aload_n 0, 1) := by decide +kernel
theorem d_Mo_read_166 : decode M_Mo_read.2.1 166 = .ok (.getfield 185, 3) := by decide +kernel
theorem d_Mo_read_169 : decode M_Mo_read.2.1 169 = .ok (.ifCond .ne 18, 3) := by decide +kernel
theorem d_Mo_read_172 : decode M_Mo_read.2.1 172 = .ok (.aload_n 0, 1) := by decide +kernel
theorem d_Mo_read_173 : decode M_Mo_read.2.1 173 = .ok (.iconst 0, 1) := by decide +kernel
theorem d_Mo_read_174 : decode M_Mo_read.2.1 174 = .ok (.invokevirtual 203, 3) := by decide +kernel
theorem d_Mo_read_177 : decode M_Mo_read.2.1 177 = .ok (.ifCond .ne 10, 3) := by decide +kernel
theorem d_Mo_read_180 : decode M_Mo_read.2.1 180 = .ok (.aload_n 0, 1) := by decide +kernel
theorem d_Mo_read_181 : decode M_Mo_read.2.1 181 = .ok (.invokevirtual 230, 3) := by decide +kernel
theorem d_Mo_read_184 : decode M_Mo_read.2.1 184 = .ok (.goto (-19), 3) := by decide +kernel
theorem d_Mo_read_187 : decode M_Mo_read.2.1 187 = .ok (.aload_n 0, 1) := by decide +kernel
theorem d_Mo_read_188 : decode M_Mo_read.2.1 188 = .ok (.aload_n 0, 1) := by decide +kernel
theorem d_Mo_read_189 : decode M_Mo_read.2.1 189 = .ok (.getfield 185, 3) := by decide +kernel
theorem d_Mo_read_192 : decode M_Mo_read.2.1 192 = .ok (.ifCond .le 10, 3) := by decide +kernel
theorem d_Mo_read_195 : decode M_Mo_read.2.1 195 = .ok (.aload_n 0, 1) := by decide +kernel
theorem d_Mo_read_196 : decode M_Mo_read.2.1 196 = .ok (.getfield 191, 3) := by decide +kernel
theorem d_Mo_read_199 : decode M_Mo_read.2.1 199 = .ok (.goto 18, 3) := by decide +kernel
theorem d_Mo_read_202 : decode M_Mo_read.2.1 202 = .ok (.aload_n 0, 1) := by decide +kernel
theorem d_Mo_read_203 : decode M_Mo_read.2.1 203 = .ok (.getfield 194, 3) := by decide +kernel
theorem d_Mo_read_206 : decode M_Mo_read.2.1 206 = .ok (.ifCond .le 10, 3) := by decide +kernel
theorem d_Mo_read_209 : decode M_Mo_read.2.1 209 = .ok (.aload_n 0, 1) := by decide +kernel
theorem d_Mo_read_210 : decode M_Mo_read.2.1 210 = .ok (.getfield 197, 3) := by decide +kernel
theorem d_Mo_read_213 : decode M_Mo_read.2.1 213 = .ok (.goto 4, 3) := by decide +kernel
theorem d_Mo_read_216 : decode M_Mo_read.2.1 216 = .ok (.iconst (-1), 1) := by decide +kernel
theorem d_Mo_read_217 : decode M_Mo_read.2.1 217 = .ok (.putfield 37, 3) := by decide +kernel
theorem d_Mo_read_220 : decode M_Mo_read.2.1 220 = .ok (.aload_n 0, 1) := by decide +kernel
theorem d_Mo_read_221 : decode M_Mo_read.2.1 221 = .ok (.getfield 185, 3) := by decide +kernel
theorem d_Mo_read_224 : decode M_Mo_read.2.1 224 = .ok (.ifCond .le 8, 3) := by decide +kernel
theorem d_Mo_read_227 : decode M_Mo_read.2.1 227 = .ok (.aload_n 0, 1) := by decide +kernel
theorem d_Mo_read_228 : decode M_Mo_read.2.1 228 = .ok (.getfield 185, 3) := by decide +kernel
theorem d_Mo_read_231 : decode M_Mo_read.2.1 231 = .ok (.ireturn, 1) := by decide +kernel
theorem d_Mo_read_232 : decode M_Mo_read.2.1 232 = .ok (.aload_n 0, 1) := by decide +kernel
theorem d_Mo_read_233 : decode M_Mo_read.2.1 233 = .ok (.getfield 194, 3) := by decide +kernel
theorem d_Mo_read_236 : decode M_Mo_read.2.1 236 = .ok (.ifCond .le 8, 3) := by decide +kernel
theorem d_Mo_read_239 : decode M_Mo_read.2.1 239 = .ok (.aload_n 0, 1) := by decide +kernel
theorem d_Mo_read_240 : decode M_Mo_read.2.1 240 = .ok (.getfield 194, 3) := by decide +kernel
theorem d_Mo_read_243 : decode M_Mo_read.2.1 243 = .ok (.ireturn, 1) := by decide +kernel
theorem d_Mo_read_244 : decode M_Mo_read.2.1 244 = .ok (.aload_n 0, 1) := by decide +kernel
theorem d_Mo_read_245 : decode M_Mo_read.2.1 245 = .ok (.aload_n 0, 1) := by decide +kernel
theorem d_Mo_read_246 : decode M_Mo_read.2.1 246 = .ok (.getfield 218, 3) := by decide +kernel
theorem d_Mo_read_249 : decode M_Mo_read.2.1 249 = .ok (.putfield 215, 3) := by decide +kernel
theorem d_Mo_read_252 : decode M_Mo_read.2.1 252 = .ok (.aload_n 0, 1) := by decide +kernel
theorem d_Mo_read_253 : decode M_Mo_read.2.1 253 = .ok (.invokevirtual 233, 3) := by decide +kernel
theorem d_Mo_read_256 : decode M_Mo_read.2.1 256 = .ok (.iconst 0, 1) := by decide +kernel
theorem d_Mo_read_257 : decode M_Mo_read.2.1 257 = .ok (.istore_n 1, 1) := by decide +kernel
theorem d_Mo_read_258 : decode M_Mo_read.2.1 258 = .ok (.iload_n 1, 1) := by decide +kernel
theorem d_Mo_read_259 : decode M_Mo_read.2.1 259 = .ok (.bipush 100, 2) := by decide +kernel
theorem d_Mo_read_261 : decode M_Mo_read.2.1 261 = .ok (.if_icmp .ge 21, 3) := by decide +kernel
theorem d_Mo_read_264 : decode M_Mo_read.2.1 264 = .ok (.aload_n 0, 1) := by decide +kernel
theorem d_Mo_read_265 : decode M_Mo_read.2.1 265 = .ok (.getfield 116, 3) := by decide +kernel
theorem d_Mo_read_268 : decode M_Mo_read.2.1 268 = .ok (.iload_n 1, 1) := by decide +kernel
theorem d_Mo_read_269 : decode M_Mo_read.2.1 269 = .ok (.aload_n 0, 1) := by decide +kernel
theorem d_Mo_read_270 : decode M_Mo_read.2.1 270 = .ok (.getfield 119, 3) := by decide +kernel
theorem d_Mo_read_273 : decode M_Mo_read.2.1 273 = .ok (.iload_n 1, 1) := by decide +kernel
theorem d_Mo_read_274 : decode M_Mo_read.2.1 274 = .ok (.iaload, 1) := by decide +kernel
theorem d_Mo_read_275 : decode M_Mo_read.2.1 275 = .ok (.iastore, 1) := by decide +kernel
theorem d_Mo_read_276 : decode M_Mo_read.2.1 276 = .ok (.iinc 1 1, 3) := by decide +kernel
theorem d_Mo_read_279 : decode M_Mo_read.2.1 279 = .ok (.goto (-21), 3) := by decide +kernel
theorem d_Mo_read_282 : decode M_Mo_read.2.1 282 = .ok (.aload_n 0, 1) := by decide +kernel
theorem d_Mo_read_283 : decode M_Mo_read.2.1 283 = .ok (.iconst 0, 1) := by decide +kernel
theorem d_Mo_read_284 : decode M_Mo_read.2.1 284 = .ok (.putfield 236, 3) := by decide +kernel
theorem d_Mo_read_287 : decode M_Mo_read.2.1 287 = .ok (.aload_n 0, 1) := by decide +kernel
theorem d_Mo_read_288 : decode M_Mo_read.2.1 288 = .ok (.iconst 0, 1) := by decide +kernel
theorem d_Mo_read_289 : decode M_Mo_read.2.1 289 = .ok (.putfield 239, 3) := by decide +kernel
theorem d_Mo_read_292 : decode M_Mo_read.2.1 292 = .ok (.iconst 0, 1) := by decide +kernel
theorem d_Mo_read_293 : decode M_Mo_read.2.1 293 = .ok (.istore_n 1, 1) := by decide +kernel
theorem d_Mo_read_294 : decode M_Mo_read.2.1 294 = .ok (.iload_n 1, 1) := by decide +kernel
theorem d_Mo_read_295 : decode M_Mo_read.2.1 295 = .ok (.iconst 3, 1) := by decide +kernel
theorem d_Mo_read_296 : decode M_Mo_read.2.1 296 = .ok (.if_icmp .ge 16, 3) := by decide +kernel
theorem d_Mo_read_299 : decode M_Mo_read.2.1 299 = .ok (.aload_n 0, 1) := by decide +kernel
theorem d_Mo_read_300 : decode M_Mo_read.2.1 300 = .ok (.getfield 137, 3) := by decide +kernel
theorem d_Mo_read_303 : decode M_Mo_read.2.1 303 = .ok (.iload_n 1, 1) := by decide +kernel
theorem d_Mo_read_304 : decode M_Mo_read.2.1 304 = .ok (.iconst 0, 1) := by decide +kernel
theorem d_Mo_read_305 : decode M_Mo_read.2.1 305 = .ok (.bastore, 1) := by decide +kernel
theorem d_Mo_read_306 : decode M_Mo_read.2.1 306 = .ok (.iinc 1 1, 3) := by decide +kernel
theorem d_Mo_read_309 : decode M_Mo_read.2.1 309 = .ok (.goto (-15), 3) := by decide +kernel
theorem d_Mo_read_312 : decode M_Mo_read.2.1 312 = .ok (.iconst 0, 1) := by decide +kernel
theorem d_Mo_read_313 : decode M_Mo_read.2.1 313 = .ok (.ireturn, 1) := by decide +kernel
theorem d_Mo_place_0 : decode M_Mo_place.2.1 0 = .ok (.aload_n 0, 1) := by decide +kernel
theorem d_Mo_place_1 : decode M_Mo_place.2.1 1 = .ok (.getfield 37, 3) := by decide +kernel
theorem d_Mo_place_4 : decode M_Mo_place.2.1 4 = .ok (.ireturn, 1) := by decide +kernel
theorem d_Mo_roomFor_0 : decode M_Mo_roomFor.2.1 0 = .ok (.iload_n 1, 1) := by decide +kernel
theorem d_Mo_roomFor_1 : decode M_Mo_roomFor.2.1 1 = .ok (.iload_n 2, 1) := by decide +kernel
theorem d_Mo_roomFor_2 : decode M_Mo_roomFor.2.1 2 = .ok (.if_icmp .ne 8, 3) := by decide +kernel
theorem d_Mo_roomFor_5 : decode M_Mo_roomFor.2.1 5 = .ok (.aload_n 0, 1) := by decide +kernel
theorem d_Mo_roomFor_6 : decode M_Mo_roomFor.2.1 6 = .ok (.iconst 2, 1) := by decide +kernel
theorem d_Mo_roomFor_7 : decode M_Mo_roomFor.2.1 7 = .ok (.invokevirtual 200, 3) := by decide +kernel
theorem d_Mo_roomFor_10 : decode M_Mo_roomFor.2.1 10 = .ok (.aload_n 0, 1) := by decide +kernel
theorem d_Mo_roomFor_11 : decode M_Mo_roomFor.2.1 11 = .ok (.getfield 185, 3) := by decide +kernel
theorem d_Mo_roomFor_14 : decode M_Mo_roomFor.2.1 14 = .ok (.ifCond .ne 7, 3) := by decide +kernel
theorem d_Mo_roomFor_17 : decode M_Mo_roomFor.2.1 17 = .ok (.aload_n 0, 1) := by decide +kernel
theorem d_Mo_roomFor_18 : decode M_Mo_roomFor.2.1 18 = .ok (.invokevirtual 206, 3) := by decide +kernel
theorem d_Mo_roomFor_21 : decode M_Mo_roomFor.2.1 21 = .ok (.return_, 1) := by decide +kernel
theorem d_Mo_tell_0 : decode M_Mo_tell.2.1 0 = .ok (.aload_n 0, 1) := by decide +kernel
theorem d_Mo_tell_1 : decode M_Mo_tell.2.1 1 = .ok (.getfield 20, 3) := by decide +kernel
theorem d_Mo_tell_4 : decode M_Mo_tell.2.1 4 = .ok (.aload_n 0, 1) := by decide +kernel
theorem d_Mo_tell_5 : decode M_Mo_tell.2.1 5 = .ok (.getfield 188, 3) := by decide +kernel
theorem d_Mo_tell_8 : decode M_Mo_tell.2.1 8 = .ok (.iaload, 1) := by decide +kernel
theorem d_Mo_tell_9 : decode M_Mo_tell.2.1 9 = .ok (.tableswitch 153 20 25 #[39, 68, 153, 97, 113, 124], 39) := by decide +kernel
theorem d_Mo_tell_48 : decode M_Mo_tell.2.1 48 = .ok (.aload_n 0, 1) := by decide +kernel
theorem d_Mo_tell_49 : decode M_Mo_tell.2.1 49 = .ok (.aload_n 0, 1) := by decide +kernel
theorem d_Mo_tell_50 : decode M_Mo_tell.2.1 50 = .ok (.getfield 49, 3) := by decide +kernel
theorem d_Mo_tell_53 : decode M_Mo_tell.2.1 53 = .ok (.aload_n 0, 1) := by decide +kernel
theorem d_Mo_tell_54 : decode M_Mo_tell.2.1 54 = .ok (.getfield 218, 3) := by decide +kernel
theorem d_Mo_tell_57 : decode M_Mo_tell.2.1 57 = .ok (.iaload, 1) := by decide +kernel
theorem d_Mo_tell_58 : decode M_Mo_tell.2.1 58 = .ok (.bipush 8, 2) := by decide +kernel
theorem d_Mo_tell_60 : decode M_Mo_tell.2.1 60 = .ok (.invokevirtual 242, 3) := by decide +kernel
theorem d_Mo_tell_63 : decode M_Mo_tell.2.1 63 = .ok (.aload_n 0, 1) := by decide +kernel
theorem d_Mo_tell_64 : decode M_Mo_tell.2.1 64 = .ok (.getfield 185, 3) := by decide +kernel
theorem d_Mo_tell_67 : decode M_Mo_tell.2.1 67 = .ok (.ifCond .ne 100, 3) := by decide +kernel
theorem d_Mo_tell_70 : decode M_Mo_tell.2.1 70 = .ok (.aload_n 0, 1) := by decide +kernel
theorem d_Mo_tell_71 : decode M_Mo_tell.2.1 71 = .ok (.invokevirtual 246, 3) := by decide +kernel
theorem d_Mo_tell_74 : decode M_Mo_tell.2.1 74 = .ok (.goto 93, 3) := by decide +kernel
theorem d_Mo_tell_77 : decode M_Mo_tell.2.1 77 = .ok (.aload_n 0, 1) := by decide +kernel
theorem d_Mo_tell_78 : decode M_Mo_tell.2.1 78 = .ok (.aload_n 0, 1) := by decide +kernel
theorem d_Mo_tell_79 : decode M_Mo_tell.2.1 79 = .ok (.getfield 64, 3) := by decide +kernel
theorem d_Mo_tell_82 : decode M_Mo_tell.2.1 82 = .ok (.aload_n 0, 1) := by decide +kernel
theorem d_Mo_tell_83 : decode M_Mo_tell.2.1 83 = .ok (.getfield 218, 3) := by decide +kernel
theorem d_Mo_tell_86 : decode M_Mo_tell.2.1 86 = .ok (.iaload, 1) := by decide +kernel
theorem d_Mo_tell_87 : decode M_Mo_tell.2.1 87 = .ok (.bipush 12, 2) := by decide +kernel
theorem d_Mo_tell_89 : decode M_Mo_tell.2.1 89 = .ok (.invokevirtual 242, 3) := by decide +kernel
theorem d_Mo_tell_92 : decode M_Mo_tell.2.1 92 = .ok (.aload_n 0, 1) := by decide +kernel
theorem d_Mo_tell_93 : decode M_Mo_tell.2.1 93 = .ok (.getfield 185, 3) := by decide +kernel
theorem d_Mo_tell_96 : decode M_Mo_tell.2.1 96 = .ok (.ifCond .ne 71, 3) := by decide +kernel
theorem d_Mo_tell_99 : decode M_Mo_tell.2.1 99 = .ok (.aload_n 0, 1) := by decide +kernel
theorem d_Mo_tell_100 : decode M_Mo_tell.2.1 100 = .ok (.invokevirtual 249, 3) := by decide +kernel
theorem d_Mo_tell_103 : decode M_Mo_tell.2.1 103 = .ok (.goto 64, 3) := by decide +kernel
theorem d_Mo_tell_106 : decode M_Mo_tell.2.1 106 = .ok (.aload_n 0, 1) := by decide +kernel
theorem d_Mo_tell_107 : decode M_Mo_tell.2.1 107 = .ok (.invokevirtual 206, 3) := by decide +kernel
theorem d_Mo_tell_110 : decode M_Mo_tell.2.1 110 = .ok (.aload_n 0, 1) := by decide +kernel
theorem d_Mo_tell_111 : decode M_Mo_tell.2.1 111 = .ok (.iconst 5, 1) := by decide +kernel
theorem d_Mo_tell_112 : decode M_Mo_tell.2.1 112 = .ok (.invokevirtual 252, 3) := by decide +kernel
theorem d_Mo_tell_115 : decode M_Mo_tell.2.1 115 = .ok (.aload_n 0, 1) := by decide +kernel
theorem d_Mo_tell_116 : decode M_Mo_tell.2.1 116 = .ok (.invokevirtual 255, 3) := by decide +kernel
theorem d_Mo_tell_119 : decode M_Mo_tell.2.1 119 = .ok (.goto 48, 3) := by decide +kernel
theorem d_Mo_tell_122 : decode M_Mo_tell.2.1 122 = .ok (.aload_n 0, 1) := by decide +kernel
theorem d_Mo_tell_123 : decode M_Mo_tell.2.1 123 = .ok (.invokevirtual 206, 3) := by decide +kernel
theorem d_Mo_tell_126 : decode M_Mo_tell.2.1 126 = .ok (.aload_n 0, 1) := by decide +kernel
theorem d_Mo_tell_127 : decode M_Mo_tell.2.1 127 = .ok (.invokevirtual 258, 3) := by decide +kernel
theorem d_Mo_tell_130 : decode M_Mo_tell.2.1 130 = .ok (.goto 37, 3) := by decide +kernel
theorem d_Mo_tell_133 : decode M_Mo_tell.2.1 133 = .ok (.aload_n 0, 1) := by decide +kernel
theorem d_Mo_tell_134 : decode M_Mo_tell.2.1 134 = .ok (.invokevirtual 206, 3) := by decide +kernel
theorem d_Mo_tell_137 : decode M_Mo_tell.2.1 137 = .ok (.aload_n 0, 1) := by decide +kernel
theorem d_Mo_tell_138 : decode M_Mo_tell.2.1 138 = .ok (.getfield 76, 3) := by decide +kernel
theorem d_Mo_tell_141 : decode M_Mo_tell.2.1 141 = .ok (.aload_n 0, 1) := by decide +kernel
theorem d_Mo_tell_142 : decode M_Mo_tell.2.1 142 = .ok (.getfield 218, 3) := by decide +kernel
theorem d_Mo_tell_145 : decode M_Mo_tell.2.1 145 = .ok (.aload_n 0, 1) := by decide +kernel
theorem d_Mo_tell_146 : decode M_Mo_tell.2.1 146 = .ok (.iconst 0, 1) := by decide +kernel
theorem d_Mo_tell_147 : decode M_Mo_tell.2.1 147 = .ok (.sipush 9999, 3) := by decide +kernel
theorem d_Mo_tell_150 : decode M_Mo_tell.2.1 150 = .ok (.invokevirtual 261, 3) := by decide +kernel
theorem d_Mo_tell_153 : decode M_Mo_tell.2.1 153 = .ok (.iastore, 1) := by decide +kernel
theorem d_Mo_tell_154 : decode M_Mo_tell.2.1 154 = .ok (.aload_n 0, 1) := by decide +kernel
theorem d_Mo_tell_155 : decode M_Mo_tell.2.1 155 = .ok (.iconst 4, 1) := by decide +kernel
theorem d_Mo_tell_156 : decode M_Mo_tell.2.1 156 = .ok (.invokevirtual 252, 3) := by decide +kernel
theorem d_Mo_tell_159 : decode M_Mo_tell.2.1 159 = .ok (.goto 8, 3) := by decide +kernel
theorem d_Mo_tell_162 : decode M_Mo_tell.2.1 162 = .ok (.aload_n 0, 1) := by decide +kernel
theorem d_Mo_tell_163 : decode M_Mo_tell.2.1 163 = .ok (.iconst 1, 1) := by decide +kernel
theorem d_Mo_tell_164 : decode M_Mo_tell.2.1 164 = .ok (.invokevirtual 200, 3) := by decide +kernel
theorem d_Mo_tell_167 : decode M_Mo_tell.2.1 167 = .ok (.return_, 1) := by decide +kernel
theorem d_Mo_named_0 : decode M_Mo_named.2.1 0 = .ok (.aload_n 0, 1) := by decide +kernel
theorem d_Mo_named_1 : decode M_Mo_named.2.1 1 = .ok (.getfield 188, 3) := by decide +kernel
theorem d_Mo_named_4 : decode M_Mo_named.2.1 4 = .ok (.istore_n 1, 1) := by decide +kernel
theorem d_Mo_named_5 : decode M_Mo_named.2.1 5 = .ok (.aload_n 0, 1) := by decide +kernel
theorem d_Mo_named_6 : decode M_Mo_named.2.1 6 = .ok (.iconst 1, 1) := by decide +kernel
theorem d_Mo_named_7 : decode M_Mo_named.2.1 7 = .ok (.invokevirtual 252, 3) := by decide +kernel
theorem d_Mo_named_10 : decode M_Mo_named.2.1 10 = .ok (.iconst 0, 1) := by decide +kernel
theorem d_Mo_named_11 : decode M_Mo_named.2.1 11 = .ok (.istore_n 2, 1) := by decide +kernel
theorem d_Mo_named_12 : decode M_Mo_named.2.1 12 = .ok (.iload_n 2, 1) := by decide +kernel
theorem d_Mo_named_13 : decode M_Mo_named.2.1 13 = .ok (.aload_n 0, 1) := by decide +kernel
theorem d_Mo_named_14 : decode M_Mo_named.2.1 14 = .ok (.getfield 221, 3) := by decide +kernel
theorem d_Mo_named_17 : decode M_Mo_named.2.1 17 = .ok (.if_icmp .ge 38, 3) := by decide +kernel
theorem d_Mo_named_20 : decode M_Mo_named.2.1 20 = .ok (.aload_n 0, 1) := by decide +kernel
theorem d_Mo_named_21 : decode M_Mo_named.2.1 21 = .ok (.getfield 185, 3) := by decide +kernel
theorem d_Mo_named_24 : decode M_Mo_named.2.1 24 = .ok (.ifCond .ne 31, 3) := by decide +kernel
theorem d_Mo_named_27 : decode M_Mo_named.2.1 27 = .ok (.aload_n 0, 1) := by decide +kernel
theorem d_Mo_named_28 : decode M_Mo_named.2.1 28 = .ok (.getfield 40, 3) := by decide +kernel
theorem d_Mo_named_31 : decode M_Mo_named.2.1 31 = .ok (.iload_n 2, 1) := by decide +kernel
theorem d_Mo_named_32 : decode M_Mo_named.2.1 32 = .ok (.laload, 1) := by decide +kernel
theorem d_Mo_named_33 : decode M_Mo_named.2.1 33 = .ok (.aload_n 0, 1) := by decide +kernel
theorem d_Mo_named_34 : decode M_Mo_named.2.1 34 = .ok (.getfield 30, 3) := by decide +kernel
theorem d_Mo_named_37 : decode M_Mo_named.2.1 37 = .ok (.iload_n 1, 1) := by decide +kernel
theorem d_Mo_named_38 : decode M_Mo_named.2.1 38 = .ok (.laload, 1) := by decide +kernel
theorem d_Mo_named_39 : decode M_Mo_named.2.1 39 = .ok (.lcmp, 1) := by decide +kernel
theorem d_Mo_named_40 : decode M_Mo_named.2.1 40 = .ok (.ifCond .ne 9, 3) := by decide +kernel
theorem d_Mo_named_43 : decode M_Mo_named.2.1 43 = .ok (.aload_n 0, 1) := by decide +kernel
theorem d_Mo_named_44 : decode M_Mo_named.2.1 44 = .ok (.iconst 3, 1) := by decide +kernel
theorem d_Mo_named_45 : decode M_Mo_named.2.1 45 = .ok (.iload_n 1, 1) := by decide +kernel
theorem d_Mo_named_46 : decode M_Mo_named.2.1 46 = .ok (.invokevirtual 265, 3) := by decide +kernel
theorem d_Mo_named_49 : decode M_Mo_named.2.1 49 = .ok (.iinc 2 1, 3) := by decide +kernel
theorem d_Mo_named_52 : decode M_Mo_named.2.1 52 = .ok (.goto (-40), 3) := by decide +kernel
theorem d_Mo_named_55 : decode M_Mo_named.2.1 55 = .ok (.iload_n 1, 1) := by decide +kernel
theorem d_Mo_named_56 : decode M_Mo_named.2.1 56 = .ok (.ireturn, 1) := by decide +kernel
theorem d_Mo_notes_0 : decode M_Mo_notes.2.1 0 = .ok (.aload_n 0, 1) := by decide +kernel
theorem d_Mo_notes_1 : decode M_Mo_notes.2.1 1 = .ok (.getfield 40, 3) := by decide +kernel
theorem d_Mo_notes_4 : decode M_Mo_notes.2.1 4 = .ok (.aload_n 0, 1) := by decide +kernel
theorem d_Mo_notes_5 : decode M_Mo_notes.2.1 5 = .ok (.getfield 221, 3) := by decide +kernel
theorem d_Mo_notes_8 : decode M_Mo_notes.2.1 8 = .ok (.aload_n 0, 1) := by decide +kernel
theorem d_Mo_notes_9 : decode M_Mo_notes.2.1 9 = .ok (.getfield 30, 3) := by decide +kernel
theorem d_Mo_notes_12 : decode M_Mo_notes.2.1 12 = .ok (.iload_n 1, 1) := by decide +kernel
theorem d_Mo_notes_13 : decode M_Mo_notes.2.1 13 = .ok (.laload, 1) := by decide +kernel
theorem d_Mo_notes_14 : decode M_Mo_notes.2.1 14 = .ok (.lastore, 1) := by decide +kernel
theorem d_Mo_notes_15 : decode M_Mo_notes.2.1 15 = .ok (.aload_n 0, 1) := by decide +kernel
theorem d_Mo_notes_16 : decode M_Mo_notes.2.1 16 = .ok (.getfield 43, 3) := by decide +kernel
theorem d_Mo_notes_19 : decode M_Mo_notes.2.1 19 = .ok (.aload_n 0, 1) := by decide +kernel
theorem d_Mo_notes_20 : decode M_Mo_notes.2.1 20 = .ok (.getfield 221, 3) := by decide +kernel
theorem d_Mo_notes_23 : decode M_Mo_notes.2.1 23 = .ok (.iload_n 2, 1) := by decide +kernel
theorem d_Mo_notes_24 : decode M_Mo_notes.2.1 24 = .ok (.iastore, 1) := by decide +kernel
theorem d_Mo_notes_25 : decode M_Mo_notes.2.1 25 = .ok (.aload_n 0, 1) := by decide +kernel
theorem d_Mo_notes_26 : decode M_Mo_notes.2.1 26 = .ok (.getfield 46, 3) := by decide +kernel
theorem d_Mo_notes_29 : decode M_Mo_notes.2.1 29 = .ok (.aload_n 0, 1) := by decide +kernel
theorem d_Mo_notes_30 : decode M_Mo_notes.2.1 30 = .ok (.getfield 221, 3) := by decide +kernel
theorem d_Mo_notes_33 : decode M_Mo_notes.2.1 33 = .ok (.iload_n 3, 1) := by decide +kernel
theorem d_Mo_notes_34 : decode M_Mo_notes.2.1 34 = .ok (.iastore, 1) := by decide +kernel
theorem d_Mo_notes_35 : decode M_Mo_notes.2.1 35 = .ok (.aload_n 0, 1) := by decide +kernel
theorem d_Mo_notes_36 : decode M_Mo_notes.2.1 36 = .ok (.dup, 1) := by decide +kernel
theorem d_Mo_notes_37 : decode M_Mo_notes.2.1 37 = .ok (.getfield 221, 3) := by decide +kernel
theorem d_Mo_notes_40 : decode M_Mo_notes.2.1 40 = .ok (.iconst 1, 1) := by decide +kernel
theorem d_Mo_notes_41 : decode M_Mo_notes.2.1 41 = .ok (.iadd, 1) := by decide +kernel
theorem d_Mo_notes_42 : decode M_Mo_notes.2.1 42 = .ok (.putfield 221, 3) := by decide +kernel
theorem d_Mo_notes_45 : decode M_Mo_notes.2.1 45 = .ok (.return_, 1) := by decide +kernel
theorem d_Mo_bounded_0 : decode M_Mo_bounded.2.1 0 = .ok (.aload_n 0, 1) := by decide +kernel
theorem d_Mo_bounded_1 : decode M_Mo_bounded.2.1 1 = .ok (.getfield 185, 3) := by decide +kernel
theorem d_Mo_bounded_4 : decode M_Mo_bounded.2.1 4 = .ok (.ifCond .gt 11, 3) := by decide +kernel
theorem d_Mo_bounded_7 : decode M_Mo_bounded.2.1 7 = .ok (.aload_n 0, 1) := by decide +kernel
theorem d_Mo_bounded_8 : decode M_Mo_bounded.2.1 8 = .ok (.iconst 2, 1) := by decide +kernel
theorem d_Mo_bounded_9 : decode M_Mo_bounded.2.1 9 = .ok (.invokevirtual 203, 3) := by decide +kernel
theorem d_Mo_bounded_12 : decode M_Mo_bounded.2.1 12 = .ok (.ifCond .ne 10, 3) := by decide +kernel
theorem d_Mo_bounded_15 : decode M_Mo_bounded.2.1 15 = .ok (.aload_n 0, 1) := by decide +kernel
theorem d_Mo_bounded_16 : decode M_Mo_bounded.2.1 16 = .ok (.iconst 1, 1) := by decide +kernel
theorem d_Mo_bounded_17 : decode M_Mo_bounded.2.1 17 = .ok (.invokevirtual 200, 3) := by decide +kernel
theorem d_Mo_bounded_20 : decode M_Mo_bounded.2.1 20 = .ok (.iload_n 1, 1) := by decide +kernel
theorem d_Mo_bounded_21 : decode M_Mo_bounded.2.1 21 = .ok (.ireturn, 1) := by decide +kernel
theorem d_Mo_bounded_22 : decode M_Mo_bounded.2.1 22 = .ok (.aload_n 0, 1) := by decide +kernel
theorem d_Mo_bounded_23 : decode M_Mo_bounded.2.1 23 = .ok (.getfield 27, 3) := by decide +kernel
theorem d_Mo_bounded_26 : decode M_Mo_bounded.2.1 26 = .ok (.aload_n 0, 1) := by decide +kernel
theorem d_Mo_bounded_27 : decode M_Mo_bounded.2.1 27 = .ok (.getfield 188, 3) := by decide +kernel
theorem d_Mo_bounded_30 : decode M_Mo_bounded.2.1 30 = .ok (.iaload, 1) := by decide +kernel
theorem d_Mo_bounded_31 : decode M_Mo_bounded.2.1 31 = .ok (.istore_n 3, 1) := by decide +kernel
theorem d_Mo_bounded_32 : decode M_Mo_bounded.2.1 32 = .ok (.iload_n 3, 1) := by decide +kernel
theorem d_Mo_bounded_33 : decode M_Mo_bounded.2.1 33 = .ok (.iload_n 1, 1) := by decide +kernel
theorem d_Mo_bounded_34 : decode M_Mo_bounded.2.1 34 = .ok (.if_icmp .lt 8, 3) := by decide +kernel
theorem d_Mo_bounded_37 : decode M_Mo_bounded.2.1 37 = .ok (.iload_n 3, 1) := by decide +kernel
theorem d_Mo_bounded_38 : decode M_Mo_bounded.2.1 38 = .ok (.iload_n 2, 1) := by decide +kernel
theorem d_Mo_bounded_39 : decode M_Mo_bounded.2.1 39 = .ok (.if_icmp .le 12, 3) := by decide +kernel
theorem d_Mo_bounded_42 : decode M_Mo_bounded.2.1 42 = .ok (.aload_n 0, 1) := by decide +kernel
theorem d_Mo_bounded_43 : decode M_Mo_bounded.2.1 43 = .ok (.iconst 5, 1) := by decide +kernel
theorem d_Mo_bounded_44 : decode M_Mo_bounded.2.1 44 = .ok (.aload_n 0, 1) := by decide +kernel
theorem d_Mo_bounded_45 : decode M_Mo_bounded.2.1 45 = .ok (.getfield 188, 3) := by decide +kernel
theorem d_Mo_bounded_48 : decode M_Mo_bounded.2.1 48 = .ok (.invokevirtual 265, 3) := by decide +kernel
theorem d_Mo_bounded_51 : decode M_Mo_bounded.2.1 51 = .ok (.aload_n 0, 1) := by decide +kernel
theorem d_Mo_bounded_52 : decode M_Mo_bounded.2.1 52 = .ok (.invokevirtual 206, 3) := by decide +kernel
theorem d_Mo_bounded_55 : decode M_Mo_bounded.2.1 55 = .ok (.iload_n 3, 1) := by decide +kernel
theorem d_Mo_bounded_56 : decode M_Mo_bounded.2.1 56 = .ok (.ireturn, 1) := by decide +kernel
theorem d_Mo_tellPost_0 : decode M_Mo_tellPost.2.1 0 = .ok (.bipush 8, 2) := by decide +kernel
theorem d_Mo_tellPost_2 : decode M_Mo_tellPost.2.1 2 = .ok (.aload_n 0, 1) := by decide +kernel
theorem d_Mo_tellPost_3 : decode M_Mo_tellPost.2.1 3 = .ok (.getfield 218, 3) := by decide +kernel
theorem d_Mo_tellPost_6 : decode M_Mo_tellPost.2.1 6 = .ok (.imul, 1) := by decide +kernel
theorem d_Mo_tellPost_7 : decode M_Mo_tellPost.2.1 7 = .ok (.aload_n 0, 1) := by decide +kernel
theorem d_Mo_tellPost_8 : decode M_Mo_tellPost.2.1 8 = .ok (.getfield 49, 3) := by decide +kernel
theorem d_Mo_tellPost_11 : decode M_Mo_tellPost.2.1 11 = .ok (.aload_n 0, 1) := by decide +kernel
theorem d_Mo_tellPost_12 : decode M_Mo_tellPost.2.1 12 = .ok (.getfield 218, 3) := by decide +kernel
theorem d_Mo_tellPost_15 : decode M_Mo_tellPost.2.1 15 = .ok (.iaload, 1) := by decide +kernel
theorem d_Mo_tellPost_16 : decode M_Mo_tellPost.2.1 16 = .ok (.iadd, 1) := by decide +kernel
theorem d_Mo_tellPost_17 : decode M_Mo_tellPost.2.1 17 = .ok (.istore_n 1, 1) := by decide +kernel
theorem d_Mo_tellPost_18 : decode M_Mo_tellPost.2.1 18 = .ok (.aload_n 0, 1) := by decide +kernel
theorem d_Mo_tellPost_19 : decode M_Mo_tellPost.2.1 19 = .ok (.invokevirtual 268, 3) := by decide +kernel
theorem d_Mo_tellPost_22 : decode M_Mo_tellPost.2.1 22 = .ok (.istore_n 2, 1) := by decide +kernel
theorem d_Mo_tellPost_23 : decode M_Mo_tellPost.2.1 23 = .ok (.aload_n 0, 1) := by decide +kernel
theorem d_Mo_tellPost_24 : decode M_Mo_tellPost.2.1 24 = .ok (.getfield 52, 3) := by decide +kernel
theorem d_Mo_tellPost_27 : decode M_Mo_tellPost.2.1 27 = .ok (.iload_n 1, 1) := by decide +kernel
theorem d_Mo_tellPost_28 : decode M_Mo_tellPost.2.1 28 = .ok (.aload_n 0, 1) := by decide +kernel
theorem d_Mo_tellPost_29 : decode M_Mo_tellPost.2.1 29 = .ok (.iconst 0, 1) := by decide +kernel
theorem d_Mo_tellPost_30 : decode M_Mo_tellPost.2.1 30 = .ok (.sipush 999, 3) := by decide +kernel
theorem d_Mo_tellPost_33 : decode M_Mo_tellPost.2.1 33 = .ok (.invokevirtual 261, 3) := by decide +kernel
theorem d_Mo_tellPost_36 : decode M_Mo_tellPost.2.1 36 = .ok (.iastore, 1) := by decide +kernel
theorem d_Mo_tellPost_37 : decode M_Mo_tellPost.2.1 37 = .ok (.aload_n 0, 1) := by decide +kernel
theorem d_Mo_tellPost_38 : decode M_Mo_tellPost.2.1 38 = .ok (.getfield 55, 3) := by decide +kernel
theorem d_Mo_tellPost_41 : decode M_Mo_tellPost.2.1 41 = .ok (.iload_n 1, 1) := by decide +kernel
theorem d_Mo_tellPost_42 : decode M_Mo_tellPost.2.1 42 = .ok (.aload_n 0, 1) := by decide +kernel
theorem d_Mo_tellPost_43 : decode M_Mo_tellPost.2.1 43 = .ok (.iconst 0, 1) := by decide +kernel
theorem d_Mo_tellPost_44 : decode M_Mo_tellPost.2.1 44 = .ok (.sipush 999, 3) := by decide +kernel
theorem d_Mo_tellPost_47 : decode M_Mo_tellPost.2.1 47 = .ok (.invokevirtual 261, 3) := by decide +kernel
theorem d_Mo_tellPost_50 : decode M_Mo_tellPost.2.1 50 = .ok (.iastore, 1) := by decide +kernel
theorem d_Mo_tellPost_51 : decode M_Mo_tellPost.2.1 51 = .ok (.aload_n 0, 1) := by decide +kernel
theorem d_Mo_tellPost_52 : decode M_Mo_tellPost.2.1 52 = .ok (.getfield 58, 3) := by decide +kernel
theorem d_Mo_tellPost_55 : decode M_Mo_tellPost.2.1 55 = .ok (.iload_n 1, 1) := by decide +kernel
theorem d_Mo_tellPost_56 : decode M_Mo_tellPost.2.1 56 = .ok (.aload_n 0, 1) := by decide +kernel
theorem d_Mo_tellPost_57 : decode M_Mo_tellPost.2.1 57 = .ok (.iconst 0, 1) := by decide +kernel
theorem d_Mo_tellPost_58 : decode M_Mo_tellPost.2.1 58 = .ok (.bipush 99, 2) := by decide +kernel
theorem d_Mo_tellPost_60 : decode M_Mo_tellPost.2.1 60 = .ok (.invokevirtual 261, 3) := by decide +kernel
theorem d_Mo_tellPost_63 : decode M_Mo_tellPost.2.1 63 = .ok (.iastore, 1) := by decide +kernel
theorem d_Mo_tellPost_64 : decode M_Mo_tellPost.2.1 64 = .ok (.aload_n 0, 1) := by decide +kernel
theorem d_Mo_tellPost_65 : decode M_Mo_tellPost.2.1 65 = .ok (.getfield 61, 3) := by decide +kernel
theorem d_Mo_tellPost_68 : decode M_Mo_tellPost.2.1 68 = .ok (.iload_n 1, 1) := by decide +kernel
theorem d_Mo_tellPost_69 : decode M_Mo_tellPost.2.1 69 = .ok (.iconst (-1), 1) := by decide +kernel
theorem d_Mo_tellPost_70 : decode M_Mo_tellPost.2.1 70 = .ok (.iastore, 1) := by decide +kernel
theorem d_Mo_tellPost_71 : decode M_Mo_tellPost.2.1 71 = .ok (.aload_n 0, 1) := by decide +kernel
theorem d_Mo_tellPost_72 : decode M_Mo_tellPost.2.1 72 = .ok (.iconst 4, 1) := by decide +kernel
theorem d_Mo_tellPost_73 : decode M_Mo_tellPost.2.1 73 = .ok (.invokevirtual 252, 3) := by decide +kernel
theorem d_Mo_tellPost_76 : decode M_Mo_tellPost.2.1 76 = .ok (.aload_n 0, 1) := by decide +kernel
theorem d_Mo_tellPost_77 : decode M_Mo_tellPost.2.1 77 = .ok (.getfield 185, 3) := by decide +kernel
theorem d_Mo_tellPost_80 : decode M_Mo_tellPost.2.1 80 = .ok (.ifCond .le 4, 3) := by decide +kernel
theorem d_Mo_tellPost_83 : decode M_Mo_tellPost.2.1 83 = .ok (.return_, 1) := by decide +kernel
theorem d_Mo_tellPost_84 : decode M_Mo_tellPost.2.1 84 = .ok (.aload_n 0, 1) := by decide +kernel
theorem d_Mo_tellPost_85 : decode M_Mo_tellPost.2.1 85 = .ok (.iload_n 2, 1) := by decide +kernel
theorem d_Mo_tellPost_86 : decode M_Mo_tellPost.2.1 86 = .ok (.iconst 0, 1) := by decide +kernel
theorem d_Mo_tellPost_87 : decode M_Mo_tellPost.2.1 87 = .ok (.aload_n 0, 1) := by decide +kernel
theorem d_Mo_tellPost_88 : decode M_Mo_tellPost.2.1 88 = .ok (.getfield 49, 3) := by decide +kernel
theorem d_Mo_tellPost_91 : decode M_Mo_tellPost.2.1 91 = .ok (.aload_n 0, 1) := by decide +kernel
theorem d_Mo_tellPost_92 : decode M_Mo_tellPost.2.1 92 = .ok (.getfield 218, 3) := by decide +kernel
theorem d_Mo_tellPost_95 : decode M_Mo_tellPost.2.1 95 = .ok (.iaload, 1) := by decide +kernel
theorem d_Mo_tellPost_96 : decode M_Mo_tellPost.2.1 96 = .ok (.invokevirtual 272, 3) := by decide +kernel
theorem d_Mo_tellPost_99 : decode M_Mo_tellPost.2.1 99 = .ok (.aload_n 0, 1) := by decide +kernel
theorem d_Mo_tellPost_100 : decode M_Mo_tellPost.2.1 100 = .ok (.getfield 49, 3) := by decide +kernel
theorem d_Mo_tellPost_103 : decode M_Mo_tellPost.2.1 103 = .ok (.aload_n 0, 1) := by decide +kernel
theorem d_Mo_tellPost_104 : decode M_Mo_tellPost.2.1 104 = .ok (.getfield 218, 3) := by decide +kernel
theorem d_Mo_tellPost_107 : decode M_Mo_tellPost.2.1 107 = .ok (.dup2, 1) := by decide +kernel
theorem d_Mo_tellPost_108 : decode M_Mo_tellPost.2.1 108 = .ok (.iaload, 1) := by decide +kernel
theorem d_Mo_tellPost_109 : decode M_Mo_tellPost.2.1 109 = .ok (.iconst 1, 1) := by decide +kernel
theorem d_Mo_tellPost_110 : decode M_Mo_tellPost.2.1 110 = .ok (.iadd, 1) := by decide +kernel
theorem d_Mo_tellPost_111 : decode M_Mo_tellPost.2.1 111 = .ok (.iastore, 1) := by decide +kernel
theorem d_Mo_tellPost_112 : decode M_Mo_tellPost.2.1 112 = .ok (.return_, 1) := by decide +kernel
theorem d_Mo_tellGuard_0 : decode M_Mo_tellGuard.2.1 0 = .ok (.bipush 12, 2) := by decide +kernel
theorem d_Mo_tellGuard_2 : decode M_Mo_tellGuard.2.1 2 = .ok (.aload_n 0, 1) := by decide +kernel
theorem d_Mo_tellGuard_3 : decode M_Mo_tellGuard.2.1 3 = .ok (.getfield 218, 3) := by decide +kernel
theorem d_Mo_tellGuard_6 : decode M_Mo_tellGuard.2.1 6 = .ok (.imul, 1) := by decide +kernel
theorem d_Mo_tellGuard_7 : decode M_Mo_tellGuard.2.1 7 = .ok (.aload_n 0, 1) := by decide +kernel
theorem d_Mo_tellGuard_8 : decode M_Mo_tellGuard.2.1 8 = .ok (.getfield 64, 3) := by decide +kernel
theorem d_Mo_tellGuard_11 : decode M_Mo_tellGuard.2.1 11 = .ok (.aload_n 0, 1) := by decide +kernel
theorem d_Mo_tellGuard_12 : decode M_Mo_tellGuard.2.1 12 = .ok (.getfield 218, 3) := by decide +kernel
theorem d_Mo_tellGuard_15 : decode M_Mo_tellGuard.2.1 15 = .ok (.iaload, 1) := by decide +kernel
theorem d_Mo_tellGuard_16 : decode M_Mo_tellGuard.2.1 16 = .ok (.iadd, 1) := by decide +kernel
theorem d_Mo_tellGuard_17 : decode M_Mo_tellGuard.2.1 17 = .ok (.istore_n 1, 1) := by decide +kernel
theorem d_Mo_tellGuard_18 : decode M_Mo_tellGuard.2.1 18 = .ok (.aload_n 0, 1) := by decide +kernel
theorem d_Mo_tellGuard_19 : decode M_Mo_tellGuard.2.1 19 = .ok (.invokevirtual 268, 3) := by decide +kernel
theorem d_Mo_tellGuard_22 : decode M_Mo_tellGuard.2.1 22 = .ok (.istore_n 2, 1) := by decide +kernel
theorem d_Mo_tellGuard_23 : decode M_Mo_tellGuard.2.1 23 = .ok (.aload_n 0, 1) := by decide +kernel
theorem d_Mo_tellGuard_24 : decode M_Mo_tellGuard.2.1 24 = .ok (.getfield 67, 3) := by decide +kernel
theorem d_Mo_tellGuard_27 : decode M_Mo_tellGuard.2.1 27 = .ok (.iload_n 1, 1) := by decide +kernel
theorem d_Mo_tellGuard_28 : decode M_Mo_tellGuard.2.1 28 = .ok (.iconst (-1), 1) := by decide +kernel
theorem d_Mo_tellGuard_29 : decode M_Mo_tellGuard.2.1 29 = .ok (.iastore, 1) := by decide +kernel
theorem d_Mo_tellGuard_30 : decode M_Mo_tellGuard.2.1 30 = .ok (.aload_n 0, 1) := by decide +kernel
theorem d_Mo_tellGuard_31 : decode M_Mo_tellGuard.2.1 31 = .ok (.getfield 185, 3) := by decide +kernel
theorem d_Mo_tellGuard_34 : decode M_Mo_tellGuard.2.1 34 = .ok (.ifCond .ne 26, 3) := by decide +kernel
theorem d_Mo_tellGuard_37 : decode M_Mo_tellGuard.2.1 37 = .ok (.aload_n 0, 1) := by decide +kernel
theorem d_Mo_tellGuard_38 : decode M_Mo_tellGuard.2.1 38 = .ok (.bipush 22, 2) := by decide +kernel
theorem d_Mo_tellGuard_40 : decode M_Mo_tellGuard.2.1 40 = .ok (.invokevirtual 203, 3) := by decide +kernel
theorem d_Mo_tellGuard_43 : decode M_Mo_tellGuard.2.1 43 = .ok (.ifCond .eq 17, 3) := by decide +kernel
theorem d_Mo_tellGuard_46 : decode M_Mo_tellGuard.2.1 46 = .ok (.aload_n 0, 1) := by decide +kernel
theorem d_Mo_tellGuard_47 : decode M_Mo_tellGuard.2.1 47 = .ok (.invokevirtual 206, 3) := by decide +kernel
theorem d_Mo_tellGuard_50 : decode M_Mo_tellGuard.2.1 50 = .ok (.aload_n 0, 1) := by decide +kernel
theorem d_Mo_tellGuard_51 : decode M_Mo_tellGuard.2.1 51 = .ok (.getfield 67, 3) := by decide +kernel
theorem d_Mo_tellGuard_54 : decode M_Mo_tellGuard.2.1 54 = .ok (.iload_n 1, 1) := by decide +kernel
theorem d_Mo_tellGuard_55 : decode M_Mo_tellGuard.2.1 55 = .ok (.aload_n 0, 1) := by decide +kernel
theorem d_Mo_tellGuard_56 : decode M_Mo_tellGuard.2.1 56 = .ok (.invokevirtual 276, 3) := by decide +kernel
theorem d_Mo_tellGuard_59 : decode M_Mo_tellGuard.2.1 59 = .ok (.iastore, 1) := by decide +kernel
theorem d_Mo_tellGuard_60 : decode M_Mo_tellGuard.2.1 60 = .ok (.aload_n 0, 1) := by decide +kernel
theorem d_Mo_tellGuard_61 : decode M_Mo_tellGuard.2.1 61 = .ok (.iconst 4, 1) := by decide +kernel
theorem d_Mo_tellGuard_62 : decode M_Mo_tellGuard.2.1 62 = .ok (.invokevirtual 252, 3) := by decide +kernel
theorem d_Mo_tellGuard_65 : decode M_Mo_tellGuard.2.1 65 = .ok (.aload_n 0, 1) := by decide +kernel
theorem d_Mo_tellGuard_66 : decode M_Mo_tellGuard.2.1 66 = .ok (.getfield 185, 3) := by decide +kernel
theorem d_Mo_tellGuard_69 : decode M_Mo_tellGuard.2.1 69 = .ok (.ifCond .le 4, 3) := by decide +kernel
theorem d_Mo_tellGuard_72 : decode M_Mo_tellGuard.2.1 72 = .ok (.return_, 1) := by decide +kernel
theorem d_Mo_tellGuard_73 : decode M_Mo_tellGuard.2.1 73 = .ok (.aload_n 0, 1) := by decide +kernel
theorem d_Mo_tellGuard_74 : decode M_Mo_tellGuard.2.1 74 = .ok (.getfield 67, 3) := by decide +kernel
theorem d_Mo_tellGuard_77 : decode M_Mo_tellGuard.2.1 77 = .ok (.iload_n 1, 1) := by decide +kernel
theorem d_Mo_tellGuard_78 : decode M_Mo_tellGuard.2.1 78 = .ok (.iaload, 1) := by decide +kernel
theorem d_Mo_tellGuard_79 : decode M_Mo_tellGuard.2.1 79 = .ok (.ifCond .lt 31, 3) := by decide +kernel
theorem d_Mo_tellGuard_82 : decode M_Mo_tellGuard.2.1 82 = .ok (.aload_n 0, 1) := by decide +kernel
theorem d_Mo_tellGuard_83 : decode M_Mo_tellGuard.2.1 83 = .ok (.getfield 61, 3) := by decide +kernel
theorem d_Mo_tellGuard_86 : decode M_Mo_tellGuard.2.1 86 = .ok (.bipush 8, 2) := by decide +kernel
theorem d_Mo_tellGuard_88 : decode M_Mo_tellGuard.2.1 88 = .ok (.aload_n 0, 1) := by decide +kernel
theorem d_Mo_tellGuard_89 : decode M_Mo_tellGuard.2.1 89 = .ok (.getfield 218, 3) := by decide +kernel
theorem d_Mo_tellGuard_92 : decode M_Mo_tellGuard.2.1 92 = .ok (.imul, 1) := by decide +kernel
theorem d_Mo_tellGuard_93 : decode M_Mo_tellGuard.2.1 93 = .ok (.aload_n 0, 1) := by decide +kernel
theorem d_Mo_tellGuard_94 : decode M_Mo_tellGuard.2.1 94 = .ok (.getfield 67, 3) := by decide +kernel
theorem d_Mo_tellGuard_97 : decode M_Mo_tellGuard.2.1 97 = .ok (.iload_n 1, 1) := by decide +kernel
theorem d_Mo_tellGuard_98 : decode M_Mo_tellGuard.2.1 98 = .ok (.iaload, 1) := by decide +kernel
theorem d_Mo_tellGuard_99 : decode M_Mo_tellGuard.2.1 99 = .ok (.iadd, 1) := by decide +kernel
theorem d_Mo_tellGuard_100 : decode M_Mo_tellGuard.2.1 100 = .ok (.aload_n 0, 1) := by decide +kernel
theorem d_Mo_tellGuard_101 : decode M_Mo_tellGuard.2.1 101 = .ok (.getfield 64, 3) := by decide +kernel
theorem d_Mo_tellGuard_104 : decode M_Mo_tellGuard.2.1 104 = .ok (.aload_n 0, 1) := by decide +kernel
theorem d_Mo_tellGuard_105 : decode M_Mo_tellGuard.2.1 105 = .ok (.getfield 218, 3) := by decide +kernel
theorem d_Mo_tellGuard_108 : decode M_Mo_tellGuard.2.1 108 = .ok (.iaload, 1) := by decide +kernel
theorem d_Mo_tellGuard_109 : decode M_Mo_tellGuard.2.1 109 = .ok (.iastore, 1) := by decide +kernel
theorem d_Mo_tellGuard_110 : decode M_Mo_tellGuard.2.1 110 = .ok (.aload_n 0, 1) := by decide +kernel
theorem d_Mo_tellGuard_111 : decode M_Mo_tellGuard.2.1 111 = .ok (.iload_n 2, 1) := by decide +kernel
theorem d_Mo_tellGuard_112 : decode M_Mo_tellGuard.2.1 112 = .ok (.iconst 1, 1) := by decide +kernel
theorem d_Mo_tellGuard_113 : decode M_Mo_tellGuard.2.1 113 = .ok (.aload_n 0, 1) := by decide +kernel
theorem d_Mo_tellGuard_114 : decode M_Mo_tellGuard.2.1 114 = .ok (.getfield 64, 3) := by decide +kernel
theorem d_Mo_tellGuard_117 : decode M_Mo_tellGuard.2.1 117 = .ok (.aload_n 0, 1) := by decide +kernel
theorem d_Mo_tellGuard_118 : decode M_Mo_tellGuard.2.1 118 = .ok (.getfield 218, 3) := by decide +kernel
theorem d_Mo_tellGuard_121 : decode M_Mo_tellGuard.2.1 121 = .ok (.iaload, 1) := by decide +kernel
theorem d_Mo_tellGuard_122 : decode M_Mo_tellGuard.2.1 122 = .ok (.invokevirtual 272, 3) := by decide +kernel
theorem d_Mo_tellGuard_125 : decode M_Mo_tellGuard.2.1 125 = .ok (.aload_n 0, 1) := by decide +kernel
theorem d_Mo_tellGuard_126 : decode M_Mo_tellGuard.2.1 126 = .ok (.getfield 64, 3) := by decide +kernel
theorem d_Mo_tellGuard_129 : decode M_Mo_tellGuard.2.1 129 = .ok (.aload_n 0, 1) := by decide +kernel
theorem d_Mo_tellGuard_130 : decode M_Mo_tellGuard.2.1 130 = .ok (.getfield 218, 3) := by decide +kernel
theorem d_Mo_tellGuard_133 : decode M_Mo_tellGuard.2.1 133 = .ok (.dup2, 1) := by decide +kernel
theorem d_Mo_tellGuard_134 : decode M_Mo_tellGuard.2.1 134 = .ok (.iaload, 1) := by decide +kernel
theorem d_Mo_tellGuard_135 : decode M_Mo_tellGuard.2.1 135 = .ok (.iconst 1, 1) := by decide +kernel
theorem d_Mo_tellGuard_136 : decode M_Mo_tellGuard.2.1 136 = .ok (.iadd, 1) := by decide +kernel
theorem d_Mo_tellGuard_137 : decode M_Mo_tellGuard.2.1 137 = .ok (.iastore, 1) := by decide +kernel
theorem d_Mo_tellGuard_138 : decode M_Mo_tellGuard.2.1 138 = .ok (.return_, 1) := by decide +kernel
theorem d_Mo_atPost_0 : decode M_Mo_atPost.2.1 0 = .ok (.aload_n 0, 1) := by decide +kernel
theorem d_Mo_atPost_1 : decode M_Mo_atPost.2.1 1 = .ok (.getfield 188, 3) := by decide +kernel
theorem d_Mo_atPost_4 : decode M_Mo_atPost.2.1 4 = .ok (.istore_n 1, 1) := by decide +kernel
theorem d_Mo_atPost_5 : decode M_Mo_atPost.2.1 5 = .ok (.aload_n 0, 1) := by decide +kernel
theorem d_Mo_atPost_6 : decode M_Mo_atPost.2.1 6 = .ok (.iconst 1, 1) := by decide +kernel
theorem d_Mo_atPost_7 : decode M_Mo_atPost.2.1 7 = .ok (.invokevirtual 252, 3) := by decide +kernel
theorem d_Mo_atPost_10 : decode M_Mo_atPost.2.1 10 = .ok (.aload_n 0, 1) := by decide +kernel
theorem d_Mo_atPost_11 : decode M_Mo_atPost.2.1 11 = .ok (.getfield 185, 3) := by decide +kernel
theorem d_Mo_atPost_14 : decode M_Mo_atPost.2.1 14 = .ok (.ifCond .le 5, 3) := by decide +kernel
theorem d_Mo_atPost_17 : decode M_Mo_atPost.2.1 17 = .ok (.iconst (-1), 1) := by decide +kernel
theorem d_Mo_atPost_18 : decode M_Mo_atPost.2.1 18 = .ok (.ireturn, 1) := by decide +kernel
theorem d_Mo_atPost_19 : decode M_Mo_atPost.2.1 19 = .ok (.iconst 0, 1) := by decide +kernel
theorem d_Mo_atPost_20 : decode M_Mo_atPost.2.1 20 = .ok (.istore_n 2, 1) := by decide +kernel
theorem d_Mo_atPost_21 : decode M_Mo_atPost.2.1 21 = .ok (.iload_n 2, 1) := by decide +kernel
theorem d_Mo_atPost_22 : decode M_Mo_atPost.2.1 22 = .ok (.aload_n 0, 1) := by decide +kernel
theorem d_Mo_atPost_23 : decode M_Mo_atPost.2.1 23 = .ok (.getfield 221, 3) := by decide +kernel
theorem d_Mo_atPost_26 : decode M_Mo_atPost.2.1 26 = .ok (.if_icmp .ge 74, 3) := by decide +kernel
theorem d_Mo_atPost_29 : decode M_Mo_atPost.2.1 29 = .ok (.aload_n 0, 1) := by decide +kernel
theorem d_Mo_atPost_30 : decode M_Mo_atPost.2.1 30 = .ok (.getfield 40, 3) := by decide +kernel
theorem d_Mo_atPost_33 : decode M_Mo_atPost.2.1 33 = .ok (.iload_n 2, 1) := by decide +kernel
theorem d_Mo_atPost_34 : decode M_Mo_atPost.2.1 34 = .ok (.laload, 1) := by decide +kernel
theorem d_Mo_atPost_35 : decode M_Mo_atPost.2.1 35 = .ok (.aload_n 0, 1) := by decide +kernel
theorem d_Mo_atPost_36 : decode M_Mo_atPost.2.1 36 = .ok (.getfield 30, 3) := by decide +kernel
theorem d_Mo_atPost_39 : decode M_Mo_atPost.2.1 39 = .ok (.iload_n 1, 1) := by decide +kernel
theorem d_Mo_atPost_40 : decode M_Mo_atPost.2.1 40 = .ok (.laload, 1) := by decide +kernel
theorem d_Mo_atPost_41 : decode M_Mo_atPost.2.1 41 = .ok (.lcmp, 1) := by decide +kernel
theorem d_Mo_atPost_42 : decode M_Mo_atPost.2.1 42 = .ok (.ifCond .ne 52, 3) := by decide +kernel
theorem d_Mo_atPost_45 : decode M_Mo_atPost.2.1 45 = .ok (.aload_n 0, 1) := by decide +kernel
theorem d_Mo_atPost_46 : decode M_Mo_atPost.2.1 46 = .ok (.getfield 43, 3) := by decide +kernel
theorem d_Mo_atPost_49 : decode M_Mo_atPost.2.1 49 = .ok (.iload_n 2, 1) := by decide +kernel
theorem d_Mo_atPost_50 : decode M_Mo_atPost.2.1 50 = .ok (.iaload, 1) := by decide +kernel
theorem d_Mo_atPost_51 : decode M_Mo_atPost.2.1 51 = .ok (.ifCond .eq 6, 3) := by decide +kernel
theorem d_Mo_atPost_54 : decode M_Mo_atPost.2.1 54 = .ok (.goto 40, 3) := by decide +kernel
theorem d_Mo_atPost_57 : decode M_Mo_atPost.2.1 57 = .ok (.aload_n 0, 1) := by decide +kernel
theorem d_Mo_atPost_58 : decode M_Mo_atPost.2.1 58 = .ok (.getfield 61, 3) := by decide +kernel
theorem d_Mo_atPost_61 : decode M_Mo_atPost.2.1 61 = .ok (.bipush 8, 2) := by decide +kernel
theorem d_Mo_atPost_63 : decode M_Mo_atPost.2.1 63 = .ok (.aload_n 0, 1) := by decide +kernel
theorem d_Mo_atPost_64 : decode M_Mo_atPost.2.1 64 = .ok (.getfield 218, 3) := by decide +kernel
theorem d_Mo_atPost_67 : decode M_Mo_atPost.2.1 67 = .ok (.imul, 1) := by decide +kernel
theorem d_Mo_atPost_68 : decode M_Mo_atPost.2.1 68 = .ok (.aload_n 0, 1) := by decide +kernel
theorem d_Mo_atPost_69 : decode M_Mo_atPost.2.1 69 = .ok (.getfield 46, 3) := by decide +kernel
theorem d_Mo_atPost_72 : decode M_Mo_atPost.2.1 72 = .ok (.iload_n 2, 1) := by decide +kernel
theorem d_Mo_atPost_73 : decode M_Mo_atPost.2.1 73 = .ok (.iaload, 1) := by decide +kernel
theorem d_Mo_atPost_74 : decode M_Mo_atPost.2.1 74 = .ok (.iadd, 1) := by decide +kernel
theorem d_Mo_atPost_75 : decode M_Mo_atPost.2.1 75 = .ok (.iaload, 1) := by decide +kernel
theorem d_Mo_atPost_76 : decode M_Mo_atPost.2.1 76 = .ok (.ifCond .ge 10, 3) := by decide +kernel
theorem d_Mo_atPost_79 : decode M_Mo_atPost.2.1 79 = .ok (.aload_n 0, 1) := by decide +kernel
theorem d_Mo_atPost_80 : decode M_Mo_atPost.2.1 80 = .ok (.getfield 46, 3) := by decide +kernel
theorem d_Mo_atPost_83 : decode M_Mo_atPost.2.1 83 = .ok (.iload_n 2, 1) := by decide +kernel
theorem d_Mo_atPost_84 : decode M_Mo_atPost.2.1 84 = .ok (.iaload, 1) := by decide +kernel
theorem d_Mo_atPost_85 : decode M_Mo_atPost.2.1 85 = .ok (.ireturn, 1) := by decide +kernel
theorem d_Mo_atPost_86 : decode M_Mo_atPost.2.1 86 = .ok (.aload_n 0, 1) := by decide +kernel
theorem d_Mo_atPost_87 : decode M_Mo_atPost.2.1 87 = .ok (.iconst 3, 1) := by decide +kernel
theorem d_Mo_atPost_88 : decode M_Mo_atPost.2.1 88 = .ok (.iload_n 1, 1) := by decide +kernel
theorem d_Mo_atPost_89 : decode M_Mo_atPost.2.1 89 = .ok (.invokevirtual 265, 3) := by decide +kernel
theorem d_Mo_atPost_92 : decode M_Mo_atPost.2.1 92 = .ok (.iconst (-1), 1) := by decide +kernel
theorem d_Mo_atPost_93 : decode M_Mo_atPost.2.1 93 = .ok (.ireturn, 1) := by decide +kernel
theorem d_Mo_atPost_94 : decode M_Mo_atPost.2.1 94 = .ok (.iinc 2 1, 3) := by decide +kernel
theorem d_Mo_atPost_97 : decode M_Mo_atPost.2.1 97 = .ok (.goto (-76), 3) := by decide +kernel
theorem d_Mo_atPost_100 : decode M_Mo_atPost.2.1 100 = .ok (.aload_n 0, 1) := by decide +kernel
theorem d_Mo_atPost_101 : decode M_Mo_atPost.2.1 101 = .ok (.iconst 4, 1) := by decide +kernel
theorem d_Mo_atPost_102 : decode M_Mo_atPost.2.1 102 = .ok (.iload_n 1, 1) := by decide +kernel
theorem d_Mo_atPost_103 : decode M_Mo_atPost.2.1 103 = .ok (.invokevirtual 265, 3) := by decide +kernel
theorem d_Mo_atPost_106 : decode M_Mo_atPost.2.1 106 = .ok (.iconst (-1), 1) := by decide +kernel
theorem d_Mo_atPost_107 : decode M_Mo_atPost.2.1 107 = .ok (.ireturn, 1) := by decide +kernel
theorem d_Mo_tellDamp_0 : decode M_Mo_tellDamp.2.1 0 = .ok (.iconst 0, 1) := by decide +kernel
theorem d_Mo_tellDamp_1 : decode M_Mo_tellDamp.2.1 1 = .ok (.istore_n 1, 1) := by decide +kernel
theorem d_Mo_tellDamp_2 : decode M_Mo_tellDamp.2.1 2 = .ok (.aload_n 0, 1) := by decide +kernel
theorem d_Mo_tellDamp_3 : decode M_Mo_tellDamp.2.1 3 = .ok (.getfield 185, 3) := by decide +kernel
theorem d_Mo_tellDamp_6 : decode M_Mo_tellDamp.2.1 6 = .ok (.ifCond .ne 57, 3) := by decide +kernel
theorem d_Mo_tellDamp_9 : decode M_Mo_tellDamp.2.1 9 = .ok (.aload_n 0, 1) := by decide +kernel
theorem d_Mo_tellDamp_10 : decode M_Mo_tellDamp.2.1 10 = .ok (.iconst 2, 1) := by decide +kernel
theorem d_Mo_tellDamp_11 : decode M_Mo_tellDamp.2.1 11 = .ok (.invokevirtual 203, 3) := by decide +kernel
theorem d_Mo_tellDamp_14 : decode M_Mo_tellDamp.2.1 14 = .ok (.ifCond .eq 49, 3) := by decide +kernel
theorem d_Mo_tellDamp_17 : decode M_Mo_tellDamp.2.1 17 = .ok (.iload_n 1, 1) := by decide +kernel
theorem d_Mo_tellDamp_18 : decode M_Mo_tellDamp.2.1 18 = .ok (.bipush 24, 2) := by decide +kernel
theorem d_Mo_tellDamp_20 : decode M_Mo_tellDamp.2.1 20 = .ok (.if_icmp .ne 8, 3) := by decide +kernel
theorem d_Mo_tellDamp_23 : decode M_Mo_tellDamp.2.1 23 = .ok (.aload_n 0, 1) := by decide +kernel
theorem d_Mo_tellDamp_24 : decode M_Mo_tellDamp.2.1 24 = .ok (.iconst 2, 1) := by decide +kernel
theorem d_Mo_tellDamp_25 : decode M_Mo_tellDamp.2.1 25 = .ok (.invokevirtual 200, 3) := by decide +kernel
theorem d_Mo_tellDamp_28 : decode M_Mo_tellDamp.2.1 28 = .ok (.aload_n 0, 1) := by decide +kernel
theorem d_Mo_tellDamp_29 : decode M_Mo_tellDamp.2.1 29 = .ok (.getfield 185, 3) := by decide +kernel
theorem d_Mo_tellDamp_32 : decode M_Mo_tellDamp.2.1 32 = .ok (.ifCond .le 4, 3) := by decide +kernel
theorem d_Mo_tellDamp_35 : decode M_Mo_tellDamp.2.1 35 = .ok (.return_, 1) := by decide +kernel
theorem d_Mo_tellDamp_36 : decode M_Mo_tellDamp.2.1 36 = .ok (.aload_n 0, 1) := by decide +kernel
theorem d_Mo_tellDamp_37 : decode M_Mo_tellDamp.2.1 37 = .ok (.getfield 73, 3) := by decide +kernel
theorem d_Mo_tellDamp_40 : decode M_Mo_tellDamp.2.1 40 = .ok (.bipush 24, 2) := by decide +kernel
theorem d_Mo_tellDamp_42 : decode M_Mo_tellDamp.2.1 42 = .ok (.aload_n 0, 1) := by decide +kernel
theorem d_Mo_tellDamp_43 : decode M_Mo_tellDamp.2.1 43 = .ok (.getfield 218, 3) := by decide +kernel
theorem d_Mo_tellDamp_46 : decode M_Mo_tellDamp.2.1 46 = .ok (.imul, 1) := by decide +kernel
theorem d_Mo_tellDamp_47 : decode M_Mo_tellDamp.2.1 47 = .ok (.iload_n 1, 1) := by decide +kernel
theorem d_Mo_tellDamp_48 : decode M_Mo_tellDamp.2.1 48 = .ok (.iadd, 1) := by decide +kernel
theorem d_Mo_tellDamp_49 : decode M_Mo_tellDamp.2.1 49 = .ok (.aload_n 0, 1) := by decide +kernel
theorem d_Mo_tellDamp_50 : decode M_Mo_tellDamp.2.1 50 = .ok (.iconst 0, 1) := by decide +kernel
theorem d_Mo_tellDamp_51 : decode M_Mo_tellDamp.2.1 51 = .ok (.bipush 99, 2) := by decide +kernel
theorem d_Mo_tellDamp_53 : decode M_Mo_tellDamp.2.1 53 = .ok (.invokevirtual 261, 3) := by decide +kernel
theorem d_Mo_tellDamp_56 : decode M_Mo_tellDamp.2.1 56 = .ok (.iastore, 1) := by decide +kernel
theorem d_Mo_tellDamp_57 : decode M_Mo_tellDamp.2.1 57 = .ok (.iinc 1 1, 3) := by decide +kernel
theorem d_Mo_tellDamp_60 : decode M_Mo_tellDamp.2.1 60 = .ok (.goto (-58), 3) := by decide +kernel
theorem d_Mo_tellDamp_63 : decode M_Mo_tellDamp.2.1 63 = .ok (.aload_n 0, 1) := by decide +kernel
theorem d_Mo_tellDamp_64 : decode M_Mo_tellDamp.2.1 64 = .ok (.iconst 4, 1) := by decide +kernel
theorem d_Mo_tellDamp_65 : decode M_Mo_tellDamp.2.1 65 = .ok (.invokevirtual 252, 3) := by decide +kernel
theorem d_Mo_tellDamp_68 : decode M_Mo_tellDamp.2.1 68 = .ok (.aload_n 0, 1) := by decide +kernel
theorem d_Mo_tellDamp_69 : decode M_Mo_tellDamp.2.1 69 = .ok (.getfield 70, 3) := by decide +kernel
theorem d_Mo_tellDamp_72 : decode M_Mo_tellDamp.2.1 72 = .ok (.aload_n 0, 1) := by decide +kernel
theorem d_Mo_tellDamp_73 : decode M_Mo_tellDamp.2.1 73 = .ok (.getfield 218, 3) := by decide +kernel
theorem d_Mo_tellDamp_76 : decode M_Mo_tellDamp.2.1 76 = .ok (.iload_n 1, 1) := by decide +kernel
theorem d_Mo_tellDamp_77 : decode M_Mo_tellDamp.2.1 77 = .ok (.iastore, 1) := by decide +kernel
theorem d_Mo_tellDamp_78 : decode M_Mo_tellDamp.2.1 78 = .ok (.return_, 1) := by decide +kernel
theorem d_Mo_tellLaw_0 : decode M_Mo_tellLaw.2.1 0 = .ok (.aload_n 0, 1) := by decide +kernel
theorem d_Mo_tellLaw_1 : decode M_Mo_tellLaw.2.1 1 = .ok (.getfield 224, 3) := by decide +kernel
theorem d_Mo_tellLaw_4 : decode M_Mo_tellLaw.2.1 4 = .ok (.istore_n 1, 1) := by decide +kernel
theorem d_Mo_tellLaw_5 : decode M_Mo_tellLaw.2.1 5 = .ok (.iconst 0, 1) := by decide +kernel
theorem d_Mo_tellLaw_6 : decode M_Mo_tellLaw.2.1 6 = .ok (.istore_n 2, 1) := by decide +kernel
theorem d_Mo_tellLaw_7 : decode M_Mo_tellLaw.2.1 7 = .ok (.aload_n 0, 1) := by decide +kernel
theorem d_Mo_tellLaw_8 : decode M_Mo_tellLaw.2.1 8 = .ok (.getfield 185, 3) := by decide +kernel
theorem d_Mo_tellLaw_11 : decode M_Mo_tellLaw.2.1 11 = .ok (.ifCond .ne 113, 3) := by decide +kernel
theorem d_Mo_tellLaw_14 : decode M_Mo_tellLaw.2.1 14 = .ok (.aload_n 0, 1) := by decide +kernel
theorem d_Mo_tellLaw_15 : decode M_Mo_tellLaw.2.1 15 = .ok (.bipush 26, 2) := by decide +kernel
theorem d_Mo_tellLaw_17 : decode M_Mo_tellLaw.2.1 17 = .ok (.invokevirtual 203, 3) := by decide +kernel
theorem d_Mo_tellLaw_20 : decode M_Mo_tellLaw.2.1 20 = .ok (.ifCond .eq 104, 3) := by decide +kernel
theorem d_Mo_tellLaw_23 : decode M_Mo_tellLaw.2.1 23 = .ok (.iload_n 2, 1) := by decide +kernel
theorem d_Mo_tellLaw_24 : decode M_Mo_tellLaw.2.1 24 = .ok (.iconst 4, 1) := by decide +kernel
theorem d_Mo_tellLaw_25 : decode M_Mo_tellLaw.2.1 25 = .ok (.if_icmp .ne 8, 3) := by decide +kernel
theorem d_Mo_tellLaw_28 : decode M_Mo_tellLaw.2.1 28 = .ok (.aload_n 0, 1) := by decide +kernel
theorem d_Mo_tellLaw_29 : decode M_Mo_tellLaw.2.1 29 = .ok (.iconst 2, 1) := by decide +kernel
theorem d_Mo_tellLaw_30 : decode M_Mo_tellLaw.2.1 30 = .ok (.invokevirtual 200, 3) := by decide +kernel
theorem d_Mo_tellLaw_33 : decode M_Mo_tellLaw.2.1 33 = .ok (.aload_n 0, 1) := by decide +kernel
theorem d_Mo_tellLaw_34 : decode M_Mo_tellLaw.2.1 34 = .ok (.getfield 185, 3) := by decide +kernel
theorem d_Mo_tellLaw_37 : decode M_Mo_tellLaw.2.1 37 = .ok (.ifCond .le 4, 3) := by decide +kernel
theorem d_Mo_tellLaw_40 : decode M_Mo_tellLaw.2.1 40 = .ok (.return_, 1) := by decide +kernel
theorem d_Mo_tellLaw_41 : decode M_Mo_tellLaw.2.1 41 = .ok (.iinc 2 1, 3) := by decide +kernel
theorem d_Mo_tellLaw_44 : decode M_Mo_tellLaw.2.1 44 = .ok (.aload_n 0, 1) := by decide +kernel
theorem d_Mo_tellLaw_45 : decode M_Mo_tellLaw.2.1 45 = .ok (.invokevirtual 206, 3) := by decide +kernel
theorem d_Mo_tellLaw_48 : decode M_Mo_tellLaw.2.1 48 = .ok (.aload_n 0, 1) := by decide +kernel
theorem d_Mo_tellLaw_49 : decode M_Mo_tellLaw.2.1 49 = .ok (.getfield 85, 3) := by decide +kernel
theorem d_Mo_tellLaw_52 : decode M_Mo_tellLaw.2.1 52 = .ok (.aload_n 0, 1) := by decide +kernel
theorem d_Mo_tellLaw_53 : decode M_Mo_tellLaw.2.1 53 = .ok (.getfield 224, 3) := by decide +kernel
theorem d_Mo_tellLaw_56 : decode M_Mo_tellLaw.2.1 56 = .ok (.iconst 1, 1) := by decide +kernel
theorem d_Mo_tellLaw_57 : decode M_Mo_tellLaw.2.1 57 = .ok (.bastore, 1) := by decide +kernel
theorem d_Mo_tellLaw_58 : decode M_Mo_tellLaw.2.1 58 = .ok (.aload_n 0, 1) := by decide +kernel
theorem d_Mo_tellLaw_59 : decode M_Mo_tellLaw.2.1 59 = .ok (.getfield 89, 3) := by decide +kernel
theorem d_Mo_tellLaw_62 : decode M_Mo_tellLaw.2.1 62 = .ok (.aload_n 0, 1) := by decide +kernel
theorem d_Mo_tellLaw_63 : decode M_Mo_tellLaw.2.1 63 = .ok (.getfield 224, 3) := by decide +kernel
theorem d_Mo_tellLaw_66 : decode M_Mo_tellLaw.2.1 66 = .ok (.aload_n 0, 1) := by decide +kernel
theorem d_Mo_tellLaw_67 : decode M_Mo_tellLaw.2.1 67 = .ok (.getfield 227, 3) := by decide +kernel
theorem d_Mo_tellLaw_70 : decode M_Mo_tellLaw.2.1 70 = .ok (.iastore, 1) := by decide +kernel
theorem d_Mo_tellLaw_71 : decode M_Mo_tellLaw.2.1 71 = .ok (.aload_n 0, 1) := by decide +kernel
theorem d_Mo_tellLaw_72 : decode M_Mo_tellLaw.2.1 72 = .ok (.invokevirtual 279, 3) := by decide +kernel
theorem d_Mo_tellLaw_75 : decode M_Mo_tellLaw.2.1 75 = .ok (.aload_n 0, 1) := by decide +kernel
theorem d_Mo_tellLaw_76 : decode M_Mo_tellLaw.2.1 76 = .ok (.bipush 13, 2) := by decide +kernel
theorem d_Mo_tellLaw_78 : decode M_Mo_tellLaw.2.1 78 = .ok (.invokevirtual 252, 3) := by decide +kernel
theorem d_Mo_tellLaw_81 : decode M_Mo_tellLaw.2.1 81 = .ok (.aload_n 0, 1) := by decide +kernel
theorem d_Mo_tellLaw_82 : decode M_Mo_tellLaw.2.1 82 = .ok (.getfield 92, 3) := by decide +kernel
theorem d_Mo_tellLaw_85 : decode M_Mo_tellLaw.2.1 85 = .ok (.aload_n 0, 1) := by decide +kernel
theorem d_Mo_tellLaw_86 : decode M_Mo_tellLaw.2.1 86 = .ok (.getfield 224, 3) := by decide +kernel
theorem d_Mo_tellLaw_89 : decode M_Mo_tellLaw.2.1 89 = .ok (.aload_n 0, 1) := by decide +kernel
theorem d_Mo_tellLaw_90 : decode M_Mo_tellLaw.2.1 90 = .ok (.getfield 227, 3) := by decide +kernel
theorem d_Mo_tellLaw_93 : decode M_Mo_tellLaw.2.1 93 = .ok (.iastore, 1) := by decide +kernel
theorem d_Mo_tellLaw_94 : decode M_Mo_tellLaw.2.1 94 = .ok (.aload_n 0, 1) := by decide +kernel
theorem d_Mo_tellLaw_95 : decode M_Mo_tellLaw.2.1 95 = .ok (.getfield 185, 3) := by decide +kernel
theorem d_Mo_tellLaw_98 : decode M_Mo_tellLaw.2.1 98 = .ok (.ifCond .ne 7, 3) := by decide +kernel
theorem d_Mo_tellLaw_101 : decode M_Mo_tellLaw.2.1 101 = .ok (.aload_n 0, 1) := by decide +kernel
theorem d_Mo_tellLaw_102 : decode M_Mo_tellLaw.2.1 102 = .ok (.invokevirtual 279, 3) := by decide +kernel
theorem d_Mo_tellLaw_105 : decode M_Mo_tellLaw.2.1 105 = .ok (.aload_n 0, 1) := by decide +kernel
theorem d_Mo_tellLaw_106 : decode M_Mo_tellLaw.2.1 106 = .ok (.bipush 27, 2) := by decide +kernel
theorem d_Mo_tellLaw_108 : decode M_Mo_tellLaw.2.1 108 = .ok (.invokevirtual 252, 3) := by decide +kernel
theorem d_Mo_tellLaw_111 : decode M_Mo_tellLaw.2.1 111 = .ok (.aload_n 0, 1) := by decide +kernel
theorem d_Mo_tellLaw_112 : decode M_Mo_tellLaw.2.1 112 = .ok (.invokevirtual 282, 3) := by decide +kernel
theorem d_Mo_tellLaw_115 : decode M_Mo_tellLaw.2.1 115 = .ok (.aload_n 0, 1) := by decide +kernel
theorem d_Mo_tellLaw_116 : decode M_Mo_tellLaw.2.1 116 = .ok (.bipush 28, 2) := by decide +kernel
theorem d_Mo_tellLaw_118 : decode M_Mo_tellLaw.2.1 118 = .ok (.invokevirtual 252, 3) := by decide +kernel
theorem d_Mo_tellLaw_121 : decode M_Mo_tellLaw.2.1 121 = .ok (.goto (-114), 3) := by decide +kernel
theorem d_Mo_tellLaw_124 : decode M_Mo_tellLaw.2.1 124 = .ok (.aload_n 0, 1) := by decide +kernel
theorem d_Mo_tellLaw_125 : decode M_Mo_tellLaw.2.1 125 = .ok (.getfield 85, 3) := by decide +kernel
theorem d_Mo_tellLaw_128 : decode M_Mo_tellLaw.2.1 128 = .ok (.aload_n 0, 1) := by decide +kernel
theorem d_Mo_tellLaw_129 : decode M_Mo_tellLaw.2.1 129 = .ok (.getfield 224, 3) := by decide +kernel
theorem d_Mo_tellLaw_132 : decode M_Mo_tellLaw.2.1 132 = .ok (.iconst 0, 1) := by decide +kernel
theorem d_Mo_tellLaw_133 : decode M_Mo_tellLaw.2.1 133 = .ok (.bastore, 1) := by decide +kernel
theorem d_Mo_tellLaw_134 : decode M_Mo_tellLaw.2.1 134 = .ok (.aload_n 0, 1) := by decide +kernel
theorem d_Mo_tellLaw_135 : decode M_Mo_tellLaw.2.1 135 = .ok (.invokevirtual 282, 3) := by decide +kernel
theorem d_Mo_tellLaw_138 : decode M_Mo_tellLaw.2.1 138 = .ok (.aload_n 0, 1) := by decide +kernel
theorem d_Mo_tellLaw_139 : decode M_Mo_tellLaw.2.1 139 = .ok (.iconst 4, 1) := by decide +kernel
theorem d_Mo_tellLaw_140 : decode M_Mo_tellLaw.2.1 140 = .ok (.invokevirtual 252, 3) := by decide +kernel
theorem d_Mo_tellLaw_143 : decode M_Mo_tellLaw.2.1 143 = .ok (.aload_n 0, 1) := by decide +kernel
theorem d_Mo_tellLaw_144 : decode M_Mo_tellLaw.2.1 144 = .ok (.getfield 185, 3) := by decide +kernel
theorem d_Mo_tellLaw_147 : decode M_Mo_tellLaw.2.1 147 = .ok (.ifCond .le 4, 3) := by decide +kernel
theorem d_Mo_tellLaw_150 : decode M_Mo_tellLaw.2.1 150 = .ok (.return_, 1) := by decide +kernel
theorem d_Mo_tellLaw_151 : decode M_Mo_tellLaw.2.1 151 = .ok (.aload_n 0, 1) := by decide +kernel
theorem d_Mo_tellLaw_152 : decode M_Mo_tellLaw.2.1 152 = .ok (.getfield 79, 3) := by decide +kernel
theorem d_Mo_tellLaw_155 : decode M_Mo_tellLaw.2.1 155 = .ok (.aload_n 0, 1) := by decide +kernel
theorem d_Mo_tellLaw_156 : decode M_Mo_tellLaw.2.1 156 = .ok (.getfield 218, 3) := by decide +kernel
theorem d_Mo_tellLaw_159 : decode M_Mo_tellLaw.2.1 159 = .ok (.iload_n 1, 1) := by decide +kernel
theorem d_Mo_tellLaw_160 : decode M_Mo_tellLaw.2.1 160 = .ok (.iastore, 1) := by decide +kernel
theorem d_Mo_tellLaw_161 : decode M_Mo_tellLaw.2.1 161 = .ok (.aload_n 0, 1) := by decide +kernel
theorem d_Mo_tellLaw_162 : decode M_Mo_tellLaw.2.1 162 = .ok (.getfield 82, 3) := by decide +kernel
theorem d_Mo_tellLaw_165 : decode M_Mo_tellLaw.2.1 165 = .ok (.aload_n 0, 1) := by decide +kernel
theorem d_Mo_tellLaw_166 : decode M_Mo_tellLaw.2.1 166 = .ok (.getfield 218, 3) := by decide +kernel
theorem d_Mo_tellLaw_169 : decode M_Mo_tellLaw.2.1 169 = .ok (.aload_n 0, 1) := by decide +kernel
theorem d_Mo_tellLaw_170 : decode M_Mo_tellLaw.2.1 170 = .ok (.getfield 224, 3) := by decide +kernel
theorem d_Mo_tellLaw_173 : decode M_Mo_tellLaw.2.1 173 = .ok (.iastore, 1) := by decide +kernel
theorem d_Mo_tellLaw_174 : decode M_Mo_tellLaw.2.1 174 = .ok (.return_, 1) := by decide +kernel
theorem d_Mo_term_0 : decode M_Mo_term.2.1 0 = .ok (.aload_n 0, 1) := by decide +kernel
theorem d_Mo_term_1 : decode M_Mo_term.2.1 1 = .ok (.getfield 95, 3) := by decide +kernel
theorem d_Mo_term_4 : decode M_Mo_term.2.1 4 = .ok (.aload_n 0, 1) := by decide +kernel
theorem d_Mo_term_5 : decode M_Mo_term.2.1 5 = .ok (.getfield 224, 3) := by decide +kernel
theorem d_Mo_term_8 : decode M_Mo_term.2.1 8 = .ok (.aload_n 0, 1) := by decide +kernel
theorem d_Mo_term_9 : decode M_Mo_term.2.1 9 = .ok (.getfield 227, 3) := by decide +kernel
theorem d_Mo_term_12 : decode M_Mo_term.2.1 12 = .ok (.iastore, 1) := by decide +kernel
theorem d_Mo_term_13 : decode M_Mo_term.2.1 13 = .ok (.aload_n 0, 1) := by decide +kernel
theorem d_Mo_term_14 : decode M_Mo_term.2.1 14 = .ok (.getfield 185, 3) := by decide +kernel
theorem d_Mo_term_17 : decode M_Mo_term.2.1 17 = .ok (.ifCond .ne 7, 3) := by decide +kernel
theorem d_Mo_term_20 : decode M_Mo_term.2.1 20 = .ok (.aload_n 0, 1) := by decide +kernel
theorem d_Mo_term_21 : decode M_Mo_term.2.1 21 = .ok (.invokevirtual 279, 3) := by decide +kernel
theorem d_Mo_term_24 : decode M_Mo_term.2.1 24 = .ok (.aload_n 0, 1) := by decide +kernel
theorem d_Mo_term_25 : decode M_Mo_term.2.1 25 = .ok (.getfield 98, 3) := by decide +kernel
theorem d_Mo_term_28 : decode M_Mo_term.2.1 28 = .ok (.aload_n 0, 1) := by decide +kernel
theorem d_Mo_term_29 : decode M_Mo_term.2.1 29 = .ok (.getfield 224, 3) := by decide +kernel
theorem d_Mo_term_32 : decode M_Mo_term.2.1 32 = .ok (.aload_n 0, 1) := by decide +kernel
theorem d_Mo_term_33 : decode M_Mo_term.2.1 33 = .ok (.getfield 227, 3) := by decide +kernel
theorem d_Mo_term_36 : decode M_Mo_term.2.1 36 = .ok (.iastore, 1) := by decide +kernel
theorem d_Mo_term_37 : decode M_Mo_term.2.1 37 = .ok (.aload_n 0, 1) := by decide +kernel
theorem d_Mo_term_38 : decode M_Mo_term.2.1 38 = .ok (.dup, 1) := by decide +kernel
theorem d_Mo_term_39 : decode M_Mo_term.2.1 39 = .ok (.getfield 224, 3) := by decide +kernel
theorem d_Mo_term_42 : decode M_Mo_term.2.1 42 = .ok (.iconst 1, 1) := by decide +kernel
theorem d_Mo_term_43 : decode M_Mo_term.2.1 43 = .ok (.iadd, 1) := by decide +kernel
theorem d_Mo_term_44 : decode M_Mo_term.2.1 44 = .ok (.putfield 224, 3) := by decide +kernel
theorem d_Mo_term_47 : decode M_Mo_term.2.1 47 = .ok (.return_, 1) := by decide +kernel
theorem d_Mo_emit_0 : decode M_Mo_emit.2.1 0 = .ok (.aload_n 0, 1) := by decide +kernel
theorem d_Mo_emit_1 : decode M_Mo_emit.2.1 1 = .ok (.getfield 101, 3) := by decide +kernel
theorem d_Mo_emit_4 : decode M_Mo_emit.2.1 4 = .ok (.aload_n 0, 1) := by decide +kernel
theorem d_Mo_emit_5 : decode M_Mo_emit.2.1 5 = .ok (.getfield 227, 3) := by decide +kernel
theorem d_Mo_emit_8 : decode M_Mo_emit.2.1 8 = .ok (.iload_n 1, 1) := by decide +kernel
theorem d_Mo_emit_9 : decode M_Mo_emit.2.1 9 = .ok (.iastore, 1) := by decide +kernel
theorem d_Mo_emit_10 : decode M_Mo_emit.2.1 10 = .ok (.aload_n 0, 1) := by decide +kernel
theorem d_Mo_emit_11 : decode M_Mo_emit.2.1 11 = .ok (.getfield 104, 3) := by decide +kernel
theorem d_Mo_emit_14 : decode M_Mo_emit.2.1 14 = .ok (.aload_n 0, 1) := by decide +kernel
theorem d_Mo_emit_15 : decode M_Mo_emit.2.1 15 = .ok (.getfield 227, 3) := by decide +kernel
theorem d_Mo_emit_18 : decode M_Mo_emit.2.1 18 = .ok (.iload_n 2, 1) := by decide +kernel
theorem d_Mo_emit_19 : decode M_Mo_emit.2.1 19 = .ok (.iastore, 1) := by decide +kernel
theorem d_Mo_emit_20 : decode M_Mo_emit.2.1 20 = .ok (.aload_n 0, 1) := by decide +kernel
theorem d_Mo_emit_21 : decode M_Mo_emit.2.1 21 = .ok (.dup, 1) := by decide +kernel
theorem d_Mo_emit_22 : decode M_Mo_emit.2.1 22 = .ok (.getfield 227, 3) := by decide +kernel
theorem d_Mo_emit_25 : decode M_Mo_emit.2.1 25 = .ok (.iconst 1, 1) := by decide +kernel
theorem d_Mo_emit_26 : decode M_Mo_emit.2.1 26 = .ok (.iadd, 1) := by decide +kernel
theorem d_Mo_emit_27 : decode M_Mo_emit.2.1 27 = .ok (.putfield 227, 3) := by decide +kernel
theorem d_Mo_emit_30 : decode M_Mo_emit.2.1 30 = .ok (.return_, 1) := by decide +kernel
theorem d_Mo_comesOut_0 : decode M_Mo_comesOut.2.1 0 = .ok (.aload_n 0, 1) := by decide +kernel
theorem d_Mo_comesOut_1 : decode M_Mo_comesOut.2.1 1 = .ok (.getfield 285, 3) := by decide +kernel
theorem d_Mo_comesOut_4 : decode M_Mo_comesOut.2.1 4 = .ok (.ifCond .le 87, 3) := by decide +kernel
theorem d_Mo_comesOut_7 : decode M_Mo_comesOut.2.1 7 = .ok (.aload_n 0, 1) := by decide +kernel
theorem d_Mo_comesOut_8 : decode M_Mo_comesOut.2.1 8 = .ok (.getfield 107, 3) := by decide +kernel
theorem d_Mo_comesOut_11 : decode M_Mo_comesOut.2.1 11 = .ok (.aload_n 0, 1) := by decide +kernel
theorem d_Mo_comesOut_12 : decode M_Mo_comesOut.2.1 12 = .ok (.getfield 285, 3) := by decide +kernel
theorem d_Mo_comesOut_15 : decode M_Mo_comesOut.2.1 15 = .ok (.iconst 1, 1) := by decide +kernel
theorem d_Mo_comesOut_16 : decode M_Mo_comesOut.2.1 16 = .ok (.isub, 1) := by decide +kernel
theorem d_Mo_comesOut_17 : decode M_Mo_comesOut.2.1 17 = .ok (.iaload, 1) := by decide +kernel
theorem d_Mo_comesOut_18 : decode M_Mo_comesOut.2.1 18 = .ok (.istore_n 2, 1) := by decide +kernel
theorem d_Mo_comesOut_19 : decode M_Mo_comesOut.2.1 19 = .ok (.iload_n 2, 1) := by decide +kernel
theorem d_Mo_comesOut_20 : decode M_Mo_comesOut.2.1 20 = .ok (.bipush 6, 2) := by decide +kernel
theorem d_Mo_comesOut_22 : decode M_Mo_comesOut.2.1 22 = .ok (.if_icmp .eq 19, 3) := by decide +kernel
theorem d_Mo_comesOut_25 : decode M_Mo_comesOut.2.1 25 = .ok (.iload_n 1, 1) := by decide +kernel
theorem d_Mo_comesOut_26 : decode M_Mo_comesOut.2.1 26 = .ok (.ifCond .eq 16, 3) := by decide +kernel
theorem d_Mo_comesOut_29 : decode M_Mo_comesOut.2.1 29 = .ok (.iload_n 2, 1) := by decide +kernel
theorem d_Mo_comesOut_30 : decode M_Mo_comesOut.2.1 30 = .ok (.bipush 8, 2) := by decide +kernel
theorem d_Mo_comesOut_32 : decode M_Mo_comesOut.2.1 32 = .ok (.if_icmp .eq 9, 3) := by decide +kernel
theorem d_Mo_comesOut_35 : decode M_Mo_comesOut.2.1 35 = .ok (.iload_n 2, 1) := by decide +kernel
theorem d_Mo_comesOut_36 : decode M_Mo_comesOut.2.1 36 = .ok (.bipush 9, 2) := by decide +kernel
theorem d_Mo_comesOut_38 : decode M_Mo_comesOut.2.1 38 = .ok (.if_icmp .ne 4, 3) := by decide +kernel
theorem d_Mo_comesOut_41 : decode M_Mo_comesOut.2.1 41 = .ok (.return_, 1) := by decide +kernel
theorem d_Mo_comesOut_42 : decode M_Mo_comesOut.2.1 42 = .ok (.aload_n 0, 1) := by decide +kernel
theorem d_Mo_comesOut_43 : decode M_Mo_comesOut.2.1 43 = .ok (.dup, 1) := by decide +kernel
theorem d_Mo_comesOut_44 : decode M_Mo_comesOut.2.1 44 = .ok (.getfield 285, 3) := by decide +kernel
theorem d_Mo_comesOut_47 : decode M_Mo_comesOut.2.1 47 = .ok (.iconst 1, 1) := by decide +kernel
theorem d_Mo_comesOut_48 : decode M_Mo_comesOut.2.1 48 = .ok (.isub, 1) := by decide +kernel
theorem d_Mo_comesOut_49 : decode M_Mo_comesOut.2.1 49 = .ok (.putfield 285, 3) := by decide +kernel
theorem d_Mo_comesOut_52 : decode M_Mo_comesOut.2.1 52 = .ok (.aload_n 0, 1) := by decide +kernel
theorem d_Mo_comesOut_53 : decode M_Mo_comesOut.2.1 53 = .ok (.iload_n 2, 1) := by decide +kernel
theorem d_Mo_comesOut_54 : decode M_Mo_comesOut.2.1 54 = .ok (.bipush 8, 2) := by decide +kernel
theorem d_Mo_comesOut_56 : decode M_Mo_comesOut.2.1 56 = .ok (.if_icmp .ne 7, 3) := by decide +kernel
theorem d_Mo_comesOut_59 : decode M_Mo_comesOut.2.1 59 = .ok (.iconst 2, 1) := by decide +kernel
theorem d_Mo_comesOut_60 : decode M_Mo_comesOut.2.1 60 = .ok (.goto 24, 3) := by decide +kernel
theorem d_Mo_comesOut_63 : decode M_Mo_comesOut.2.1 63 = .ok (.iload_n 2, 1) := by decide +kernel
theorem d_Mo_comesOut_64 : decode M_Mo_comesOut.2.1 64 = .ok (.bipush 9, 2) := by decide +kernel
theorem d_Mo_comesOut_66 : decode M_Mo_comesOut.2.1 66 = .ok (.if_icmp .ne 7, 3) := by decide +kernel
theorem d_Mo_comesOut_69 : decode M_Mo_comesOut.2.1 69 = .ok (.iconst 3, 1) := by decide +kernel
theorem d_Mo_comesOut_70 : decode M_Mo_comesOut.2.1 70 = .ok (.goto 14, 3) := by decide +kernel
theorem d_Mo_comesOut_73 : decode M_Mo_comesOut.2.1 73 = .ok (.iload_n 2, 1) := by decide +kernel
theorem d_Mo_comesOut_74 : decode M_Mo_comesOut.2.1 74 = .ok (.bipush 10, 2) := by decide +kernel
theorem d_Mo_comesOut_76 : decode M_Mo_comesOut.2.1 76 = .ok (.if_icmp .ne 7, 3) := by decide +kernel
theorem d_Mo_comesOut_79 : decode M_Mo_comesOut.2.1 79 = .ok (.iconst 4, 1) := by decide +kernel
theorem d_Mo_comesOut_80 : decode M_Mo_comesOut.2.1 80 = .ok (.goto 4, 3) := by decide +kernel
theorem d_Mo_comesOut_83 : decode M_Mo_comesOut.2.1 83 = .ok (.iconst 5, 1) := by decide +kernel
theorem d_Mo_comesOut_84 : decode M_Mo_comesOut.2.1 84 = .ok (.iconst 0, 1) := by decide +kernel
theorem d_Mo_comesOut_85 : decode M_Mo_comesOut.2.1 85 = .ok (.invokevirtual 288, 3) := by decide +kernel
theorem d_Mo_comesOut_88 : decode M_Mo_comesOut.2.1 88 = .ok (.goto (-88), 3) := by decide +kernel
theorem d_Mo_comesOut_91 : decode M_Mo_comesOut.2.1 91 = .ok (.return_, 1) := by decide +kernel
theorem d_Mo_expression_0 : decode M_Mo_expression.2.1 0 = .ok (.aload_n 0, 1) := by decide +kernel
theorem d_Mo_expression_1 : decode M_Mo_expression.2.1 1 = .ok (.iconst 0, 1) := by decide +kernel
theorem d_Mo_expression_2 : decode M_Mo_expression.2.1 2 = .ok (.putfield 285, 3) := by decide +kernel
theorem d_Mo_expression_5 : decode M_Mo_expression.2.1 5 = .ok (.aload_n 0, 1) := by decide +kernel
theorem d_Mo_expression_6 : decode M_Mo_expression.2.1 6 = .ok (.getfield 212, 3) := by decide +kernel
theorem d_Mo_expression_9 : decode M_Mo_expression.2.1 9 = .ok (.istore_n 1, 1) := by decide +kernel
theorem d_Mo_expression_10 : decode M_Mo_expression.2.1 10 = .ok (.iconst 1, 1) := by decide +kernel
theorem d_Mo_expression_11 : decode M_Mo_expression.2.1 11 = .ok (.istore_n 2, 1) := by decide +kernel
theorem d_Mo_expression_12 : decode M_Mo_expression.2.1 12 = .ok (.iload_n 2, 1) := by decide +kernel
theorem d_Mo_expression_13 : decode M_Mo_expression.2.1 13 = .ok (.ifCond .eq 259, 3) := by decide +kernel
theorem d_Mo_expression_16 : decode M_Mo_expression.2.1 16 = .ok (.aload_n 0, 1) := by decide +kernel
theorem d_Mo_expression_17 : decode M_Mo_expression.2.1 17 = .ok (.getfield 185, 3) := by decide +kernel
theorem d_Mo_expression_20 : decode M_Mo_expression.2.1 20 = .ok (.ifCond .ne 252, 3) := by decide +kernel
theorem d_Mo_expression_23 : decode M_Mo_expression.2.1 23 = .ok (.aload_n 0, 1) := by decide +kernel
theorem d_Mo_expression_24 : decode M_Mo_expression.2.1 24 = .ok (.bipush 6, 2) := by decide +kernel
theorem d_Mo_expression_26 : decode M_Mo_expression.2.1 26 = .ok (.invokevirtual 203, 3) := by decide +kernel
theorem d_Mo_expression_29 : decode M_Mo_expression.2.1 29 = .ok (.ifCond .eq 55, 3) := by decide +kernel
theorem d_Mo_expression_32 : decode M_Mo_expression.2.1 32 = .ok (.aload_n 0, 1) := by decide +kernel
theorem d_Mo_expression_33 : decode M_Mo_expression.2.1 33 = .ok (.getfield 212, 3) := by decide +kernel
theorem d_Mo_expression_36 : decode M_Mo_expression.2.1 36 = .ok (.bipush 6, 2) := by decide +kernel
theorem d_Mo_expression_38 : decode M_Mo_expression.2.1 38 = .ok (.if_icmp .ne 8, 3) := by decide +kernel
theorem d_Mo_expression_41 : decode M_Mo_expression.2.1 41 = .ok (.aload_n 0, 1) := by decide +kernel
theorem d_Mo_expression_42 : decode M_Mo_expression.2.1 42 = .ok (.iconst 2, 1) := by decide +kernel
theorem d_Mo_expression_43 : decode M_Mo_expression.2.1 43 = .ok (.invokevirtual 200, 3) := by decide +kernel
theorem d_Mo_expression_46 : decode M_Mo_expression.2.1 46 = .ok (.aload_n 0, 1) := by decide +kernel
theorem d_Mo_expression_47 : decode M_Mo_expression.2.1 47 = .ok (.dup, 1) := by decide +kernel
theorem d_Mo_expression_48 : decode M_Mo_expression.2.1 48 = .ok (.getfield 212, 3) := by decide +kernel
theorem d_Mo_expression_51 : decode M_Mo_expression.2.1 51 = .ok (.iconst 1, 1) := by decide +kernel
theorem d_Mo_expression_52 : decode M_Mo_expression.2.1 52 = .ok (.iadd, 1) := by decide +kernel
theorem d_Mo_expression_53 : decode M_Mo_expression.2.1 53 = .ok (.putfield 212, 3) := by decide +kernel
theorem d_Mo_expression_56 : decode M_Mo_expression.2.1 56 = .ok (.aload_n 0, 1) := by decide +kernel
theorem d_Mo_expression_57 : decode M_Mo_expression.2.1 57 = .ok (.invokevirtual 206, 3) := by decide +kernel
theorem d_Mo_expression_60 : decode M_Mo_expression.2.1 60 = .ok (.aload_n 0, 1) := by decide +kernel
theorem d_Mo_expression_61 : decode M_Mo_expression.2.1 61 = .ok (.getfield 107, 3) := by decide +kernel
theorem d_Mo_expression_64 : decode M_Mo_expression.2.1 64 = .ok (.aload_n 0, 1) := by decide +kernel
theorem d_Mo_expression_65 : decode M_Mo_expression.2.1 65 = .ok (.getfield 285, 3) := by decide +kernel
theorem d_Mo_expression_68 : decode M_Mo_expression.2.1 68 = .ok (.bipush 6, 2) := by decide +kernel
theorem d_Mo_expression_70 : decode M_Mo_expression.2.1 70 = .ok (.iastore, 1) := by decide +kernel
theorem d_Mo_expression_71 : decode M_Mo_expression.2.1 71 = .ok (.aload_n 0, 1) := by decide +kernel
theorem d_Mo_expression_72 : decode M_Mo_expression.2.1 72 = .ok (.dup, 1) := by decide +kernel
theorem d_Mo_expression_73 : decode M_Mo_expression.2.1 73 = .ok (.getfield 285, 3) := by decide +kernel
theorem d_Mo_expression_76 : decode M_Mo_expression.2.1 76 = .ok (.iconst 1, 1) := by decide +kernel
theorem d_Mo_expression_77 : decode M_Mo_expression.2.1 77 = .ok (.iadd, 1) := by decide +kernel
theorem d_Mo_expression_78 : decode M_Mo_expression.2.1 78 = .ok (.putfield 285, 3) := by decide +kernel
theorem d_Mo_expression_81 : decode M_Mo_expression.2.1 81 = .ok (.goto (-58), 3) := by decide +kernel
theorem d_Mo_expression_84 : decode M_Mo_expression.2.1 84 = .ok (.aload_n 0, 1) := by decide +kernel
theorem d_Mo_expression_85 : decode M_Mo_expression.2.1 85 = .ok (.invokevirtual 291, 3) := by decide +kernel
theorem d_Mo_expression_88 : decode M_Mo_expression.2.1 88 = .ok (.aload_n 0, 1) := by decide +kernel
theorem d_Mo_expression_89 : decode M_Mo_expression.2.1 89 = .ok (.getfield 185, 3) := by decide +kernel
theorem d_Mo_expression_92 : decode M_Mo_expression.2.1 92 = .ok (.ifCond .le 4, 3) := by decide +kernel
theorem d_Mo_expression_95 : decode M_Mo_expression.2.1 95 = .ok (.return_, 1) := by decide +kernel
theorem d_Mo_expression_96 : decode M_Mo_expression.2.1 96 = .ok (.aload_n 0, 1) := by decide +kernel
theorem d_Mo_expression_97 : decode M_Mo_expression.2.1 97 = .ok (.bipush 7, 2) := by decide +kernel
theorem d_Mo_expression_99 : decode M_Mo_expression.2.1 99 = .ok (.invokevirtual 203, 3) := by decide +kernel
theorem d_Mo_expression_102 : decode M_Mo_expression.2.1 102 = .ok (.ifCond .eq 43, 3) := by decide +kernel
theorem d_Mo_expression_105 : decode M_Mo_expression.2.1 105 = .ok (.aload_n 0, 1) := by decide +kernel
theorem d_Mo_expression_106 : decode M_Mo_expression.2.1 106 = .ok (.getfield 212, 3) := by decide +kernel
theorem d_Mo_expression_109 : decode M_Mo_expression.2.1 109 = .ok (.iload_n 1, 1) := by decide +kernel
theorem d_Mo_expression_110 : decode M_Mo_expression.2.1 110 = .ok (.if_icmp .le 35, 3) := by decide +kernel
theorem d_Mo_expression_113 : decode M_Mo_expression.2.1 113 = .ok (.aload_n 0, 1) := by decide +kernel
theorem d_Mo_expression_114 : decode M_Mo_expression.2.1 114 = .ok (.iconst 0, 1) := by decide +kernel
theorem d_Mo_expression_115 : decode M_Mo_expression.2.1 115 = .ok (.invokevirtual 294, 3) := by decide +kernel
theorem d_Mo_expression_118 : decode M_Mo_expression.2.1 118 = .ok (.aload_n 0, 1) := by decide +kernel
theorem d_Mo_expression_119 : decode M_Mo_expression.2.1 119 = .ok (.dup, 1) := by decide +kernel
theorem d_Mo_expression_120 : decode M_Mo_expression.2.1 120 = .ok (.getfield 285, 3) := by decide +kernel
theorem d_Mo_expression_123 : decode M_Mo_expression.2.1 123 = .ok (.iconst 1, 1) := by decide +kernel
theorem d_Mo_expression_124 : decode M_Mo_expression.2.1 124 = .ok (.isub, 1) := by decide +kernel
theorem d_Mo_expression_125 : decode M_Mo_expression.2.1 125 = .ok (.putfield 285, 3) := by decide +kernel
theorem d_Mo_expression_128 : decode M_Mo_expression.2.1 128 = .ok (.aload_n 0, 1) := by decide +kernel
theorem d_Mo_expression_129 : decode M_Mo_expression.2.1 129 = .ok (.dup, 1) := by decide +kernel
theorem d_Mo_expression_130 : decode M_Mo_expression.2.1 130 = .ok (.getfield 212, 3) := by decide +kernel
theorem d_Mo_expression_133 : decode M_Mo_expression.2.1 133 = .ok (.iconst 1, 1) := by decide +kernel
theorem d_Mo_expression_134 : decode M_Mo_expression.2.1 134 = .ok (.isub, 1) := by decide +kernel
theorem d_Mo_expression_135 : decode M_Mo_expression.2.1 135 = .ok (.putfield 212, 3) := by decide +kernel
theorem d_Mo_expression_138 : decode M_Mo_expression.2.1 138 = .ok (.aload_n 0, 1) := by decide +kernel
theorem d_Mo_expression_139 : decode M_Mo_expression.2.1 139 = .ok (.invokevirtual 206, 3) := by decide +kernel
theorem d_Mo_expression_142 : decode M_Mo_expression.2.1 142 = .ok (.goto (-46), 3) := by decide +kernel
theorem d_Mo_expression_145 : decode M_Mo_expression.2.1 145 = .ok (.aload_n 0, 1) := by decide +kernel
theorem d_Mo_expression_146 : decode M_Mo_expression.2.1 146 = .ok (.bipush 8, 2) := by decide +kernel
theorem d_Mo_expression_148 : decode M_Mo_expression.2.1 148 = .ok (.invokevirtual 203, 3) := by decide +kernel
theorem d_Mo_expression_151 : decode M_Mo_expression.2.1 151 = .ok (.ifCond .ne 30, 3) := by decide +kernel
theorem d_Mo_expression_154 : decode M_Mo_expression.2.1 154 = .ok (.aload_n 0, 1) := by decide +kernel
theorem d_Mo_expression_155 : decode M_Mo_expression.2.1 155 = .ok (.bipush 9, 2) := by decide +kernel
theorem d_Mo_expression_157 : decode M_Mo_expression.2.1 157 = .ok (.invokevirtual 203, 3) := by decide +kernel
theorem d_Mo_expression_160 : decode M_Mo_expression.2.1 160 = .ok (.ifCond .ne 21, 3) := by decide +kernel
theorem d_Mo_expression_163 : decode M_Mo_expression.2.1 163 = .ok (.aload_n 0, 1) := by decide +kernel
theorem d_Mo_expression_164 : decode M_Mo_expression.2.1 164 = .ok (.bipush 10, 2) := by decide +kernel
theorem d_Mo_expression_166 : decode M_Mo_expression.2.1 166 = .ok (.invokevirtual 203, 3) := by decide +kernel
theorem d_Mo_expression_169 : decode M_Mo_expression.2.1 169 = .ok (.ifCond .ne 12, 3) := by decide +kernel
theorem d_Mo_expression_172 : decode M_Mo_expression.2.1 172 = .ok (.aload_n 0, 1) := by decide +kernel
theorem d_Mo_expression_173 : decode M_Mo_expression.2.1 173 = .ok (.bipush 15, 2) := by decide +kernel
theorem d_Mo_expression_175 : decode M_Mo_expression.2.1 175 = .ok (.invokevirtual 203, 3) := by decide +kernel
theorem d_Mo_expression_178 : decode M_Mo_expression.2.1 178 = .ok (.ifCond .eq 7, 3) := by decide +kernel
theorem d_Mo_expression_181 : decode M_Mo_expression.2.1 181 = .ok (.iconst 1, 1) := by decide +kernel
theorem d_Mo_expression_182 : decode M_Mo_expression.2.1 182 = .ok (.goto 4, 3) := by decide +kernel
theorem d_Mo_expression_185 : decode M_Mo_expression.2.1 185 = .ok (.iconst 0, 1) := by decide +kernel
theorem d_Mo_expression_186 : decode M_Mo_expression.2.1 186 = .ok (.istore_n 2, 1) := by decide +kernel
theorem d_Mo_expression_187 : decode M_Mo_expression.2.1 187 = .ok (.iload_n 2, 1) := by decide +kernel
theorem d_Mo_expression_188 : decode M_Mo_expression.2.1 188 = .ok (.ifCond .ne 22, 3) := by decide +kernel
theorem d_Mo_expression_191 : decode M_Mo_expression.2.1 191 = .ok (.aload_n 0, 1) := by decide +kernel
theorem d_Mo_expression_192 : decode M_Mo_expression.2.1 192 = .ok (.getfield 212, 3) := by decide +kernel
theorem d_Mo_expression_195 : decode M_Mo_expression.2.1 195 = .ok (.iload_n 1, 1) := by decide +kernel
theorem d_Mo_expression_196 : decode M_Mo_expression.2.1 196 = .ok (.if_icmp .le 8, 3) := by decide +kernel
theorem d_Mo_expression_199 : decode M_Mo_expression.2.1 199 = .ok (.aload_n 0, 1) := by decide +kernel
theorem d_Mo_expression_200 : decode M_Mo_expression.2.1 200 = .ok (.iconst 1, 1) := by decide +kernel
theorem d_Mo_expression_201 : decode M_Mo_expression.2.1 201 = .ok (.invokevirtual 200, 3) := by decide +kernel
theorem d_Mo_expression_204 : decode M_Mo_expression.2.1 204 = .ok (.aload_n 0, 1) := by decide +kernel
theorem d_Mo_expression_205 : decode M_Mo_expression.2.1 205 = .ok (.iconst 0, 1) := by decide +kernel
theorem d_Mo_expression_206 : decode M_Mo_expression.2.1 206 = .ok (.invokevirtual 294, 3) := by decide +kernel
theorem d_Mo_expression_209 : decode M_Mo_expression.2.1 209 = .ok (.return_, 1) := by decide +kernel
theorem d_Mo_expression_210 : decode M_Mo_expression.2.1 210 = .ok (.aload_n 0, 1) := by decide +kernel
theorem d_Mo_expression_211 : decode M_Mo_expression.2.1 211 = .ok (.aload_n 0, 1) := by decide +kernel
theorem d_Mo_expression_212 : decode M_Mo_expression.2.1 212 = .ok (.bipush 10, 2) := by decide +kernel
theorem d_Mo_expression_214 : decode M_Mo_expression.2.1 214 = .ok (.invokevirtual 203, 3) := by decide +kernel
theorem d_Mo_expression_217 : decode M_Mo_expression.2.1 217 = .ok (.ifCond .ne 12, 3) := by decide +kernel
theorem d_Mo_expression_220 : decode M_Mo_expression.2.1 220 = .ok (.aload_n 0, 1) := by decide +kernel
theorem d_Mo_expression_221 : decode M_Mo_expression.2.1 221 = .ok (.bipush 15, 2) := by decide +kernel
theorem d_Mo_expression_223 : decode M_Mo_expression.2.1 223 = .ok (.invokevirtual 203, 3) := by decide +kernel
theorem d_Mo_expression_226 : decode M_Mo_expression.2.1 226 = .ok (.ifCond .eq 7, 3) := by decide +kernel
theorem d_Mo_expression_229 : decode M_Mo_expression.2.1 229 = .ok (.iconst 1, 1) := by decide +kernel
theorem d_Mo_expression_230 : decode M_Mo_expression.2.1 230 = .ok (.goto 4, 3) := by decide +kernel
theorem d_Mo_expression_233 : decode M_Mo_expression.2.1 233 = .ok (.iconst 0, 1) := by decide +kernel
theorem d_Mo_expression_234 : decode M_Mo_expression.2.1 234 = .ok (.invokevirtual 294, 3) := by decide +kernel
theorem d_Mo_expression_237 : decode M_Mo_expression.2.1 237 = .ok (.aload_n 0, 1) := by decide +kernel
theorem d_Mo_expression_238 : decode M_Mo_expression.2.1 238 = .ok (.getfield 107, 3) := by decide +kernel
theorem d_Mo_expression_241 : decode M_Mo_expression.2.1 241 = .ok (.aload_n 0, 1) := by decide +kernel
theorem d_Mo_expression_242 : decode M_Mo_expression.2.1 242 = .ok (.getfield 285, 3) := by decide +kernel
theorem d_Mo_expression_245 : decode M_Mo_expression.2.1 245 = .ok (.aload_n 0, 1) := by decide +kernel
theorem d_Mo_expression_246 : decode M_Mo_expression.2.1 246 = .ok (.getfield 20, 3) := by decide +kernel
theorem d_Mo_expression_249 : decode M_Mo_expression.2.1 249 = .ok (.aload_n 0, 1) := by decide +kernel
theorem d_Mo_expression_250 : decode M_Mo_expression.2.1 250 = .ok (.getfield 188, 3) := by decide +kernel
theorem d_Mo_expression_253 : decode M_Mo_expression.2.1 253 = .ok (.iaload, 1) := by decide +kernel
theorem d_Mo_expression_254 : decode M_Mo_expression.2.1 254 = .ok (.iastore, 1) := by decide +kernel
theorem d_Mo_expression_255 : decode M_Mo_expression.2.1 255 = .ok (.aload_n 0, 1) := by decide +kernel
theorem d_Mo_expression_256 : decode M_Mo_expression.2.1 256 = .ok (.dup, 1) := by decide +kernel
theorem d_Mo_expression_257 : decode M_Mo_expression.2.1 257 = .ok (.getfield 285, 3) := by decide +kernel
theorem d_Mo_expression_260 : decode M_Mo_expression.2.1 260 = .ok (.iconst 1, 1) := by decide +kernel
theorem d_Mo_expression_261 : decode M_Mo_expression.2.1 261 = .ok (.iadd, 1) := by decide +kernel
theorem d_Mo_expression_262 : decode M_Mo_expression.2.1 262 = .ok (.putfield 285, 3) := by decide +kernel
theorem d_Mo_expression_265 : decode M_Mo_expression.2.1 265 = .ok (.aload_n 0, 1) := by decide +kernel
theorem d_Mo_expression_266 : decode M_Mo_expression.2.1 266 = .ok (.invokevirtual 206, 3) := by decide +kernel
theorem d_Mo_expression_269 : decode M_Mo_expression.2.1 269 = .ok (.goto (-257), 3) := by decide +kernel
theorem d_Mo_expression_272 : decode M_Mo_expression.2.1 272 = .ok (.return_, 1) := by decide +kernel
theorem d_Mo_unit_0 : decode M_Mo_unit.2.1 0 = .ok (.aload_n 0, 1) := by decide +kernel
theorem d_Mo_unit_1 : decode M_Mo_unit.2.1 1 = .ok (.iconst 2, 1) := by decide +kernel
theorem d_Mo_unit_2 : decode M_Mo_unit.2.1 2 = .ok (.invokevirtual 203, 3) := by decide +kernel
theorem d_Mo_unit_5 : decode M_Mo_unit.2.1 5 = .ok (.ifCond .eq 24, 3) := by decide +kernel
theorem d_Mo_unit_8 : decode M_Mo_unit.2.1 8 = .ok (.aload_n 0, 1) := by decide +kernel
theorem d_Mo_unit_9 : decode M_Mo_unit.2.1 9 = .ok (.iconst 0, 1) := by decide +kernel
theorem d_Mo_unit_10 : decode M_Mo_unit.2.1 10 = .ok (.aload_n 0, 1) := by decide +kernel
theorem d_Mo_unit_11 : decode M_Mo_unit.2.1 11 = .ok (.getfield 27, 3) := by decide +kernel
theorem d_Mo_unit_14 : decode M_Mo_unit.2.1 14 = .ok (.aload_n 0, 1) := by decide +kernel
theorem d_Mo_unit_15 : decode M_Mo_unit.2.1 15 = .ok (.getfield 188, 3) := by decide +kernel
theorem d_Mo_unit_18 : decode M_Mo_unit.2.1 18 = .ok (.iaload, 1) := by decide +kernel
theorem d_Mo_unit_19 : decode M_Mo_unit.2.1 19 = .ok (.invokevirtual 288, 3) := by decide +kernel
theorem d_Mo_unit_22 : decode M_Mo_unit.2.1 22 = .ok (.aload_n 0, 1) := by decide +kernel
theorem d_Mo_unit_23 : decode M_Mo_unit.2.1 23 = .ok (.invokevirtual 206, 3) := by decide +kernel
theorem d_Mo_unit_26 : decode M_Mo_unit.2.1 26 = .ok (.goto 89, 3) := by decide +kernel
theorem d_Mo_unit_29 : decode M_Mo_unit.2.1 29 = .ok (.aload_n 0, 1) := by decide +kernel
theorem d_Mo_unit_30 : decode M_Mo_unit.2.1 30 = .ok (.getfield 185, 3) := by decide +kernel
theorem d_Mo_unit_33 : decode M_Mo_unit.2.1 33 = .ok (.ifCond .ne 77, 3) := by decide +kernel
theorem d_Mo_unit_36 : decode M_Mo_unit.2.1 36 = .ok (.aload_n 0, 1) := by decide +kernel
theorem d_Mo_unit_37 : decode M_Mo_unit.2.1 37 = .ok (.getfield 20, 3) := by decide +kernel
theorem d_Mo_unit_40 : decode M_Mo_unit.2.1 40 = .ok (.aload_n 0, 1) := by decide +kernel
theorem d_Mo_unit_41 : decode M_Mo_unit.2.1 41 = .ok (.getfield 188, 3) := by decide +kernel
theorem d_Mo_unit_44 : decode M_Mo_unit.2.1 44 = .ok (.iaload, 1) := by decide +kernel
theorem d_Mo_unit_45 : decode M_Mo_unit.2.1 45 = .ok (.bipush 29, 2) := by decide +kernel
theorem d_Mo_unit_47 : decode M_Mo_unit.2.1 47 = .ok (.if_icmp .lt 17, 3) := by decide +kernel
theorem d_Mo_unit_50 : decode M_Mo_unit.2.1 50 = .ok (.aload_n 0, 1) := by decide +kernel
theorem d_Mo_unit_51 : decode M_Mo_unit.2.1 51 = .ok (.getfield 20, 3) := by decide +kernel
theorem d_Mo_unit_54 : decode M_Mo_unit.2.1 54 = .ok (.aload_n 0, 1) := by decide +kernel
theorem d_Mo_unit_55 : decode M_Mo_unit.2.1 55 = .ok (.getfield 188, 3) := by decide +kernel
theorem d_Mo_unit_58 : decode M_Mo_unit.2.1 58 = .ok (.iaload, 1) := by decide +kernel
theorem d_Mo_unit_59 : decode M_Mo_unit.2.1 59 = .ok (.bipush 33, 2) := by decide +kernel
theorem d_Mo_unit_61 : decode M_Mo_unit.2.1 61 = .ok (.if_icmp .le 12, 3) := by decide +kernel
theorem d_Mo_unit_64 : decode M_Mo_unit.2.1 64 = .ok (.aload_n 0, 1) := by decide +kernel
theorem d_Mo_unit_65 : decode M_Mo_unit.2.1 65 = .ok (.bipush 20, 2) := by decide +kernel
theorem d_Mo_unit_67 : decode M_Mo_unit.2.1 67 = .ok (.invokevirtual 203, 3) := by decide +kernel
theorem d_Mo_unit_70 : decode M_Mo_unit.2.1 70 = .ok (.ifCond .eq 40, 3) := by decide +kernel
theorem d_Mo_unit_73 : decode M_Mo_unit.2.1 73 = .ok (.aload_n 0, 1) := by decide +kernel
theorem d_Mo_unit_74 : decode M_Mo_unit.2.1 74 = .ok (.iconst 1, 1) := by decide +kernel
theorem d_Mo_unit_75 : decode M_Mo_unit.2.1 75 = .ok (.aload_n 0, 1) := by decide +kernel
theorem d_Mo_unit_76 : decode M_Mo_unit.2.1 76 = .ok (.bipush 20, 2) := by decide +kernel
theorem d_Mo_unit_78 : decode M_Mo_unit.2.1 78 = .ok (.invokevirtual 203, 3) := by decide +kernel
theorem d_Mo_unit_81 : decode M_Mo_unit.2.1 81 = .ok (.ifCond .eq 7, 3) := by decide +kernel
theorem d_Mo_unit_84 : decode M_Mo_unit.2.1 84 = .ok (.iconst 5, 1) := by decide +kernel
theorem d_Mo_unit_85 : decode M_Mo_unit.2.1 85 = .ok (.goto 15, 3) := by decide +kernel
theorem d_Mo_unit_88 : decode M_Mo_unit.2.1 88 = .ok (.aload_n 0, 1) := by decide +kernel
theorem d_Mo_unit_89 : decode M_Mo_unit.2.1 89 = .ok (.getfield 20, 3) := by decide +kernel
theorem d_Mo_unit_92 : decode M_Mo_unit.2.1 92 = .ok (.aload_n 0, 1) := by decide +kernel
theorem d_Mo_unit_93 : decode M_Mo_unit.2.1 93 = .ok (.getfield 188, 3) := by decide +kernel
theorem d_Mo_unit_96 : decode M_Mo_unit.2.1 96 = .ok (.iaload, 1) := by decide +kernel
theorem d_Mo_unit_97 : decode M_Mo_unit.2.1 97 = .ok (.bipush 29, 2) := by decide +kernel
theorem d_Mo_unit_99 : decode M_Mo_unit.2.1 99 = .ok (.isub, 1) := by decide +kernel
theorem d_Mo_unit_100 : decode M_Mo_unit.2.1 100 = .ok (.invokevirtual 288, 3) := by decide +kernel
theorem d_Mo_unit_103 : decode M_Mo_unit.2.1 103 = .ok (.aload_n 0, 1) := by decide +kernel
theorem d_Mo_unit_104 : decode M_Mo_unit.2.1 104 = .ok (.invokevirtual 206, 3) := by decide +kernel
theorem d_Mo_unit_107 : decode M_Mo_unit.2.1 107 = .ok (.goto 8, 3) := by decide +kernel
theorem d_Mo_unit_110 : decode M_Mo_unit.2.1 110 = .ok (.aload_n 0, 1) := by decide +kernel
theorem d_Mo_unit_111 : decode M_Mo_unit.2.1 111 = .ok (.iconst 1, 1) := by decide +kernel
theorem d_Mo_unit_112 : decode M_Mo_unit.2.1 112 = .ok (.invokevirtual 200, 3) := by decide +kernel
theorem d_Mo_unit_115 : decode M_Mo_unit.2.1 115 = .ok (.return_, 1) := by decide +kernel
theorem d_Mo_termOf_0 : decode M_Mo_termOf.2.1 0 = .ok (.iconst 0, 1) := by decide +kernel
theorem d_Mo_termOf_1 : decode M_Mo_termOf.2.1 1 = .ok (.istore_n 3, 1) := by decide +kernel
theorem d_Mo_termOf_2 : decode M_Mo_termOf.2.1 2 = .ok (.iload_n 1, 1) := by decide +kernel
theorem d_Mo_termOf_3 : decode M_Mo_termOf.2.1 3 = .ok (.istore 4, 2) := by decide +kernel
theorem d_Mo_termOf_5 : decode M_Mo_termOf.2.1 5 = .ok (.iload 4, 2) := by decide +kernel
theorem d_Mo_termOf_7 : decode M_Mo_termOf.2.1 7 = .ok (.iload_n 2, 1) := by decide +kernel
theorem d_Mo_termOf_8 : decode M_Mo_termOf.2.1 8 = .ok (.if_icmp .ge 157, 3) := by decide +kernel
theorem d_Mo_termOf_11 : decode M_Mo_termOf.2.1 11 = .ok (.aload_n 0, 1) := by decide +kernel
theorem d_Mo_termOf_12 : decode M_Mo_termOf.2.1 12 = .ok (.getfield 101, 3) := by decide +kernel
theorem d_Mo_termOf_15 : decode M_Mo_termOf.2.1 15 = .ok (.iload 4, 2) := by decide +kernel
theorem d_Mo_termOf_17 : decode M_Mo_termOf.2.1 17 = .ok (.iaload, 1) := by decide +kernel
theorem d_Mo_termOf_18 : decode M_Mo_termOf.2.1 18 = .ok (.istore 5, 2) := by decide +kernel
theorem d_Mo_termOf_20 : decode M_Mo_termOf.2.1 20 = .ok (.iload 5, 2) := by decide +kernel
theorem d_Mo_termOf_22 : decode M_Mo_termOf.2.1 22 = .ok (.iconst 2, 1) := by decide +kernel
theorem d_Mo_termOf_23 : decode M_Mo_termOf.2.1 23 = .ok (.if_icmp .ge 42, 3) := by decide +kernel
theorem d_Mo_termOf_26 : decode M_Mo_termOf.2.1 26 = .ok (.aload_n 0, 1) := by decide +kernel
theorem d_Mo_termOf_27 : decode M_Mo_termOf.2.1 27 = .ok (.getfield 113, 3) := by decide +kernel
theorem d_Mo_termOf_30 : decode M_Mo_termOf.2.1 30 = .ok (.iload_n 3, 1) := by decide +kernel
theorem d_Mo_termOf_31 : decode M_Mo_termOf.2.1 31 = .ok (.iload 5, 2) := by decide +kernel
theorem d_Mo_termOf_33 : decode M_Mo_termOf.2.1 33 = .ok (.ifCond .ne 13, 3) := by decide +kernel
theorem d_Mo_termOf_36 : decode M_Mo_termOf.2.1 36 = .ok (.aload_n 0, 1) := by decide +kernel
theorem d_Mo_termOf_37 : decode M_Mo_termOf.2.1 37 = .ok (.getfield 104, 3) := by decide +kernel
theorem d_Mo_termOf_40 : decode M_Mo_termOf.2.1 40 = .ok (.iload 4, 2) := by decide +kernel
theorem d_Mo_termOf_42 : decode M_Mo_termOf.2.1 42 = .ok (.iaload, 1) := by decide +kernel
theorem d_Mo_termOf_43 : decode M_Mo_termOf.2.1 43 = .ok (.goto 15, 3) := by decide +kernel
theorem d_Mo_termOf_46 : decode M_Mo_termOf.2.1 46 = .ok (.aload_n 0, 1) := by decide +kernel
theorem d_Mo_termOf_47 : decode M_Mo_termOf.2.1 47 = .ok (.getfield 110, 3) := by decide +kernel
theorem d_Mo_termOf_50 : decode M_Mo_termOf.2.1 50 = .ok (.aload_n 0, 1) := by decide +kernel
theorem d_Mo_termOf_51 : decode M_Mo_termOf.2.1 51 = .ok (.getfield 104, 3) := by decide +kernel
theorem d_Mo_termOf_54 : decode M_Mo_termOf.2.1 54 = .ok (.iload 4, 2) := by decide +kernel
theorem d_Mo_termOf_56 : decode M_Mo_termOf.2.1 56 = .ok (.iaload, 1) := by decide +kernel
theorem d_Mo_termOf_57 : decode M_Mo_termOf.2.1 57 = .ok (.iaload, 1) := by decide +kernel
theorem d_Mo_termOf_58 : decode M_Mo_termOf.2.1 58 = .ok (.iastore, 1) := by decide +kernel
theorem d_Mo_termOf_59 : decode M_Mo_termOf.2.1 59 = .ok (.iinc 3 1, 3) := by decide +kernel
theorem d_Mo_termOf_62 : decode M_Mo_termOf.2.1 62 = .ok (.goto 97, 3) := by decide +kernel
theorem d_Mo_termOf_65 : decode M_Mo_termOf.2.1 65 = .ok (.iinc 3 (-1), 3) := by decide +kernel
theorem d_Mo_termOf_68 : decode M_Mo_termOf.2.1 68 = .ok (.aload_n 0, 1) := by decide +kernel
theorem d_Mo_termOf_69 : decode M_Mo_termOf.2.1 69 = .ok (.getfield 113, 3) := by decide +kernel
theorem d_Mo_termOf_72 : decode M_Mo_termOf.2.1 72 = .ok (.iload_n 3, 1) := by decide +kernel
theorem d_Mo_termOf_73 : decode M_Mo_termOf.2.1 73 = .ok (.iconst 1, 1) := by decide +kernel
theorem d_Mo_termOf_74 : decode M_Mo_termOf.2.1 74 = .ok (.isub, 1) := by decide +kernel
theorem d_Mo_termOf_75 : decode M_Mo_termOf.2.1 75 = .ok (.iaload, 1) := by decide +kernel
theorem d_Mo_termOf_76 : decode M_Mo_termOf.2.1 76 = .ok (.istore 6, 2) := by decide +kernel
theorem d_Mo_termOf_78 : decode M_Mo_termOf.2.1 78 = .ok (.aload_n 0, 1) := by decide +kernel
theorem d_Mo_termOf_79 : decode M_Mo_termOf.2.1 79 = .ok (.getfield 113, 3) := by decide +kernel
theorem d_Mo_termOf_82 : decode M_Mo_termOf.2.1 82 = .ok (.iload_n 3, 1) := by decide +kernel
theorem d_Mo_termOf_83 : decode M_Mo_termOf.2.1 83 = .ok (.iaload, 1) := by decide +kernel
theorem d_Mo_termOf_84 : decode M_Mo_termOf.2.1 84 = .ok (.istore 7, 2) := by decide +kernel
theorem d_Mo_termOf_86 : decode M_Mo_termOf.2.1 86 = .ok (.iload 5, 2) := by decide +kernel
theorem d_Mo_termOf_88 : decode M_Mo_termOf.2.1 88 = .ok (.iconst 5, 1) := by decide +kernel
theorem d_Mo_termOf_89 : decode M_Mo_termOf.2.1 89 = .ok (.if_icmp .ne 15, 3) := by decide +kernel
theorem d_Mo_termOf_92 : decode M_Mo_termOf.2.1 92 = .ok (.iload 7, 2) := by decide +kernel
theorem d_Mo_termOf_94 : decode M_Mo_termOf.2.1 94 = .ok (.ifCond .ne 10, 3) := by decide +kernel
theorem d_Mo_termOf_97 : decode M_Mo_termOf.2.1 97 = .ok (.aload_n 0, 1) := by decide +kernel
theorem d_Mo_termOf_98 : decode M_Mo_termOf.2.1 98 = .ok (.iconst 1, 1) := by decide +kernel
theorem d_Mo_termOf_99 : decode M_Mo_termOf.2.1 99 = .ok (.putfield 298, 3) := by decide +kernel
theorem d_Mo_termOf_102 : decode M_Mo_termOf.2.1 102 = .ok (.iconst 0, 1) := by decide +kernel
theorem d_Mo_termOf_103 : decode M_Mo_termOf.2.1 103 = .ok (.ireturn, 1) := by decide +kernel
theorem d_Mo_termOf_104 : decode M_Mo_termOf.2.1 104 = .ok (.aload_n 0, 1) := by decide +kernel
theorem d_Mo_termOf_105 : decode M_Mo_termOf.2.1 105 = .ok (.getfield 113, 3) := by decide +kernel
theorem d_Mo_termOf_108 : decode M_Mo_termOf.2.1 108 = .ok (.iload_n 3, 1) := by decide +kernel
theorem d_Mo_termOf_109 : decode M_Mo_termOf.2.1 109 = .ok (.iconst 1, 1) := by decide +kernel
theorem d_Mo_termOf_110 : decode M_Mo_termOf.2.1 110 = .ok (.isub, 1) := by decide +kernel
theorem d_Mo_termOf_111 : decode M_Mo_termOf.2.1 111 = .ok (.iload 5, 2) := by decide +kernel
theorem d_Mo_termOf_113 : decode M_Mo_termOf.2.1 113 = .ok (.iconst 2, 1) := by decide +kernel
theorem d_Mo_termOf_114 : decode M_Mo_termOf.2.1 114 = .ok (.if_icmp .ne 11, 3) := by decide +kernel
theorem d_Mo_termOf_117 : decode M_Mo_termOf.2.1 117 = .ok (.iload 6, 2) := by decide +kernel
theorem d_Mo_termOf_119 : decode M_Mo_termOf.2.1 119 = .ok (.iload 7, 2) := by decide +kernel
theorem d_Mo_termOf_121 : decode M_Mo_termOf.2.1 121 = .ok (.iadd, 1) := by decide +kernel
theorem d_Mo_termOf_122 : decode M_Mo_termOf.2.1 122 = .ok (.goto 36, 3) := by decide +kernel
theorem d_Mo_termOf_125 : decode M_Mo_termOf.2.1 125 = .ok (.iload 5, 2) := by decide +kernel
theorem d_Mo_termOf_127 : decode M_Mo_termOf.2.1 127 = .ok (.iconst 3, 1) := by decide +kernel
theorem d_Mo_termOf_128 : decode M_Mo_termOf.2.1 128 = .ok (.if_icmp .ne 11, 3) := by decide +kernel
theorem d_Mo_termOf_131 : decode M_Mo_termOf.2.1 131 = .ok (.iload 6, 2) := by decide +kernel
theorem d_Mo_termOf_133 : decode M_Mo_termOf.2.1 133 = .ok (.iload 7, 2) := by decide +kernel
theorem d_Mo_termOf_135 : decode M_Mo_termOf.2.1 135 = .ok (.isub, 1) := by decide +kernel
theorem d_Mo_termOf_136 : decode M_Mo_termOf.2.1 136 = .ok (.goto 22, 3) := by decide +kernel
theorem d_Mo_termOf_139 : decode M_Mo_termOf.2.1 139 = .ok (.iload 5, 2) := by decide +kernel
theorem d_Mo_termOf_141 : decode M_Mo_termOf.2.1 141 = .ok (.iconst 4, 1) := by decide +kernel
theorem d_Mo_termOf_142 : decode M_Mo_termOf.2.1 142 = .ok (.if_icmp .ne 11, 3) := by decide +kernel
theorem d_Mo_termOf_145 : decode M_Mo_termOf.2.1 145 = .ok (.iload 6, 2) := by decide +kernel
theorem d_Mo_termOf_147 : decode M_Mo_termOf.2.1 147 = .ok (.iload 7, 2) := by decide +kernel
theorem d_Mo_termOf_149 : decode M_Mo_termOf.2.1 149 = .ok (.imul, 1) := by decide +kernel
theorem d_Mo_termOf_150 : decode M_Mo_termOf.2.1 150 = .ok (.goto 8, 3) := by decide +kernel
theorem d_Mo_termOf_153 : decode M_Mo_termOf.2.1 153 = .ok (.iload 6, 2) := by decide +kernel
theorem d_Mo_termOf_155 : decode M_Mo_termOf.2.1 155 = .ok (.iload 7, 2) := by decide +kernel
theorem d_Mo_termOf_157 : decode M_Mo_termOf.2.1 157 = .ok (.idiv, 1) := by decide +kernel
theorem d_Mo_termOf_158 : decode M_Mo_termOf.2.1 158 = .ok (.iastore, 1) := by decide +kernel
theorem d_Mo_termOf_159 : decode M_Mo_termOf.2.1 159 = .ok (.iinc 4 1, 3) := by decide +kernel
theorem d_Mo_termOf_162 : decode M_Mo_termOf.2.1 162 = .ok (.goto (-157), 3) := by decide +kernel
theorem d_Mo_termOf_165 : decode M_Mo_termOf.2.1 165 = .ok (.aload_n 0, 1) := by decide +kernel
theorem d_Mo_termOf_166 : decode M_Mo_termOf.2.1 166 = .ok (.getfield 113, 3) := by decide +kernel
theorem d_Mo_termOf_169 : decode M_Mo_termOf.2.1 169 = .ok (.iconst 0, 1) := by decide +kernel
theorem d_Mo_termOf_170 : decode M_Mo_termOf.2.1 170 = .ok (.iaload, 1) := by decide +kernel
theorem d_Mo_termOf_171 : decode M_Mo_termOf.2.1 171 = .ok (.ireturn, 1) := by decide +kernel
theorem d_Mo_in_0 : decode M_Mo_in.2.1 0 = .ok (.iload_n 0, 1) := by decide +kernel
theorem d_Mo_in_1 : decode M_Mo_in.2.1 1 = .ok (.iload_n 1, 1) := by decide +kernel
theorem d_Mo_in_2 : decode M_Mo_in.2.1 2 = .ok (.if_icmp .lt 12, 3) := by decide +kernel
theorem d_Mo_in_5 : decode M_Mo_in.2.1 5 = .ok (.iload_n 0, 1) := by decide +kernel
theorem d_Mo_in_6 : decode M_Mo_in.2.1 6 = .ok (.iload_n 2, 1) := by decide +kernel
theorem d_Mo_in_7 : decode M_Mo_in.2.1 7 = .ok (.if_icmp .gt 7, 3) := by decide +kernel
theorem d_Mo_in_10 : decode M_Mo_in.2.1 10 = .ok (.iconst 1, 1) := by decide +kernel
theorem d_Mo_in_11 : decode M_Mo_in.2.1 11 = .ok (.goto 4, 3) := by decide +kernel
theorem d_Mo_in_14 : decode M_Mo_in.2.1 14 = .ok (.iconst 0, 1) := by decide +kernel
theorem d_Mo_in_15 : decode M_Mo_in.2.1 15 = .ok (.ireturn, 1) := by decide +kernel
theorem d_Mo_isPost_0 : decode M_Mo_isPost.2.1 0 = .ok (.iload_n 1, 1) := by decide +kernel
theorem d_Mo_isPost_1 : decode M_Mo_isPost.2.1 1 = .ok (.iconst 0, 1) := by decide +kernel
theorem d_Mo_isPost_2 : decode M_Mo_isPost.2.1 2 = .ok (.aload_n 0, 1) := by decide +kernel
theorem d_Mo_isPost_3 : decode M_Mo_isPost.2.1 3 = .ok (.getfield 49, 3) := by decide +kernel
theorem d_Mo_isPost_6 : decode M_Mo_isPost.2.1 6 = .ok (.aload_n 0, 1) := by decide +kernel
theorem d_Mo_isPost_7 : decode M_Mo_isPost.2.1 7 = .ok (.getfield 215, 3) := by decide +kernel
theorem d_Mo_isPost_10 : decode M_Mo_isPost.2.1 10 = .ok (.iaload, 1) := by decide +kernel
theorem d_Mo_isPost_11 : decode M_Mo_isPost.2.1 11 = .ok (.iconst 1, 1) := by decide +kernel
theorem d_Mo_isPost_12 : decode M_Mo_isPost.2.1 12 = .ok (.isub, 1) := by decide +kernel
theorem d_Mo_isPost_13 : decode M_Mo_isPost.2.1 13 = .ok (.invokestatic 302, 3) := by decide +kernel
theorem d_Mo_isPost_16 : decode M_Mo_isPost.2.1 16 = .ok (.ireturn, 1) := by decide +kernel
theorem d_Mo_isGuard_0 : decode M_Mo_isGuard.2.1 0 = .ok (.iload_n 1, 1) := by decide +kernel
theorem d_Mo_isGuard_1 : decode M_Mo_isGuard.2.1 1 = .ok (.iconst 0, 1) := by decide +kernel
theorem d_Mo_isGuard_2 : decode M_Mo_isGuard.2.1 2 = .ok (.aload_n 0, 1) := by decide +kernel
theorem d_Mo_isGuard_3 : decode M_Mo_isGuard.2.1 3 = .ok (.getfield 64, 3) := by decide +kernel
theorem d_Mo_isGuard_6 : decode M_Mo_isGuard.2.1 6 = .ok (.aload_n 0, 1) := by decide +kernel
theorem d_Mo_isGuard_7 : decode M_Mo_isGuard.2.1 7 = .ok (.getfield 215, 3) := by decide +kernel
theorem d_Mo_isGuard_10 : decode M_Mo_isGuard.2.1 10 = .ok (.iaload, 1) := by decide +kernel
theorem d_Mo_isGuard_11 : decode M_Mo_isGuard.2.1 11 = .ok (.iconst 1, 1) := by decide +kernel
theorem d_Mo_isGuard_12 : decode M_Mo_isGuard.2.1 12 = .ok (.isub, 1) := by decide +kernel
theorem d_Mo_isGuard_13 : decode M_Mo_isGuard.2.1 13 = .ok (.invokestatic 302, 3) := by decide +kernel
theorem d_Mo_isGuard_16 : decode M_Mo_isGuard.2.1 16 = .ok (.ireturn, 1) := by decide +kernel
theorem d_Mo_begins_0 : decode M_Mo_begins.2.1 0 = .ok (.iconst 0, 1) := by decide +kernel
theorem d_Mo_begins_1 : decode M_Mo_begins.2.1 1 = .ok (.istore_n 1, 1) := by decide +kernel
theorem d_Mo_begins_2 : decode M_Mo_begins.2.1 2 = .ok (.iload_n 1, 1) := by decide +kernel
theorem d_Mo_begins_3 : decode M_Mo_begins.2.1 3 = .ok (.bipush 100, 2) := by decide +kernel
theorem d_Mo_begins_5 : decode M_Mo_begins.2.1 5 = .ok (.if_icmp .ge 16, 3) := by decide +kernel
theorem d_Mo_begins_8 : decode M_Mo_begins.2.1 8 = .ok (.aload_n 0, 1) := by decide +kernel
theorem d_Mo_begins_9 : decode M_Mo_begins.2.1 9 = .ok (.getfield 119, 3) := by decide +kernel
theorem d_Mo_begins_12 : decode M_Mo_begins.2.1 12 = .ok (.iload_n 1, 1) := by decide +kernel
theorem d_Mo_begins_13 : decode M_Mo_begins.2.1 13 = .ok (.iconst 0, 1) := by decide +kernel
theorem d_Mo_begins_14 : decode M_Mo_begins.2.1 14 = .ok (.iastore, 1) := by decide +kernel
theorem d_Mo_begins_15 : decode M_Mo_begins.2.1 15 = .ok (.iinc 1 1, 3) := by decide +kernel
theorem d_Mo_begins_18 : decode M_Mo_begins.2.1 18 = .ok (.goto (-16), 3) := by decide +kernel
theorem d_Mo_begins_21 : decode M_Mo_begins.2.1 21 = .ok (.iconst 0, 1) := by decide +kernel
theorem d_Mo_begins_22 : decode M_Mo_begins.2.1 22 = .ok (.istore_n 1, 1) := by decide +kernel
theorem d_Mo_begins_23 : decode M_Mo_begins.2.1 23 = .ok (.iload_n 1, 1) := by decide +kernel
theorem d_Mo_begins_24 : decode M_Mo_begins.2.1 24 = .ok (.bipush 8, 2) := by decide +kernel
theorem d_Mo_begins_26 : decode M_Mo_begins.2.1 26 = .ok (.if_icmp .ge 101, 3) := by decide +kernel
theorem d_Mo_begins_29 : decode M_Mo_begins.2.1 29 = .ok (.aload_n 0, 1) := by decide +kernel
theorem d_Mo_begins_30 : decode M_Mo_begins.2.1 30 = .ok (.getfield 119, 3) := by decide +kernel
theorem d_Mo_begins_33 : decode M_Mo_begins.2.1 33 = .ok (.bipush 16, 2) := by decide +kernel
theorem d_Mo_begins_35 : decode M_Mo_begins.2.1 35 = .ok (.iload_n 1, 1) := by decide +kernel
theorem d_Mo_begins_36 : decode M_Mo_begins.2.1 36 = .ok (.iadd, 1) := by decide +kernel
theorem d_Mo_begins_37 : decode M_Mo_begins.2.1 37 = .ok (.iconst (-1), 1) := by decide +kernel
theorem d_Mo_begins_38 : decode M_Mo_begins.2.1 38 = .ok (.iastore, 1) := by decide +kernel
theorem d_Mo_begins_39 : decode M_Mo_begins.2.1 39 = .ok (.iload_n 1, 1) := by decide +kernel
theorem d_Mo_begins_40 : decode M_Mo_begins.2.1 40 = .ok (.aload_n 0, 1) := by decide +kernel
theorem d_Mo_begins_41 : decode M_Mo_begins.2.1 41 = .ok (.getfield 49, 3) := by decide +kernel
theorem d_Mo_begins_44 : decode M_Mo_begins.2.1 44 = .ok (.aload_n 0, 1) := by decide +kernel
theorem d_Mo_begins_45 : decode M_Mo_begins.2.1 45 = .ok (.getfield 215, 3) := by decide +kernel
theorem d_Mo_begins_48 : decode M_Mo_begins.2.1 48 = .ok (.iaload, 1) := by decide +kernel
theorem d_Mo_begins_49 : decode M_Mo_begins.2.1 49 = .ok (.if_icmp .lt 6, 3) := by decide +kernel
theorem d_Mo_begins_52 : decode M_Mo_begins.2.1 52 = .ok (.goto 69, 3) := by decide +kernel
theorem d_Mo_begins_55 : decode M_Mo_begins.2.1 55 = .ok (.aload_n 0, 1) := by decide +kernel
theorem d_Mo_begins_56 : decode M_Mo_begins.2.1 56 = .ok (.getfield 119, 3) := by decide +kernel
theorem d_Mo_begins_59 : decode M_Mo_begins.2.1 59 = .ok (.iload_n 1, 1) := by decide +kernel
theorem d_Mo_begins_60 : decode M_Mo_begins.2.1 60 = .ok (.aload_n 0, 1) := by decide +kernel
theorem d_Mo_begins_61 : decode M_Mo_begins.2.1 61 = .ok (.getfield 52, 3) := by decide +kernel
theorem d_Mo_begins_64 : decode M_Mo_begins.2.1 64 = .ok (.bipush 8, 2) := by decide +kernel
theorem d_Mo_begins_66 : decode M_Mo_begins.2.1 66 = .ok (.aload_n 0, 1) := by decide +kernel
theorem d_Mo_begins_67 : decode M_Mo_begins.2.1 67 = .ok (.getfield 215, 3) := by decide +kernel
theorem d_Mo_begins_70 : decode M_Mo_begins.2.1 70 = .ok (.imul, 1) := by decide +kernel
theorem d_Mo_begins_71 : decode M_Mo_begins.2.1 71 = .ok (.iload_n 1, 1) := by decide +kernel
theorem d_Mo_begins_72 : decode M_Mo_begins.2.1 72 = .ok (.iadd, 1) := by decide +kernel
theorem d_Mo_begins_73 : decode M_Mo_begins.2.1 73 = .ok (.iaload, 1) := by decide +kernel
theorem d_Mo_begins_74 : decode M_Mo_begins.2.1 74 = .ok (.iastore, 1) := by decide +kernel
theorem d_Mo_begins_75 : decode M_Mo_begins.2.1 75 = .ok (.aload_n 0, 1) := by decide +kernel
theorem d_Mo_begins_76 : decode M_Mo_begins.2.1 76 = .ok (.getfield 119, 3) := by decide +kernel
theorem d_Mo_begins_79 : decode M_Mo_begins.2.1 79 = .ok (.bipush 8, 2) := by decide +kernel
theorem d_Mo_begins_81 : decode M_Mo_begins.2.1 81 = .ok (.iload_n 1, 1) := by decide +kernel
theorem d_Mo_begins_82 : decode M_Mo_begins.2.1 82 = .ok (.iadd, 1) := by decide +kernel
theorem d_Mo_begins_83 : decode M_Mo_begins.2.1 83 = .ok (.aload_n 0, 1) := by decide +kernel
theorem d_Mo_begins_84 : decode M_Mo_begins.2.1 84 = .ok (.getfield 55, 3) := by decide +kernel
theorem d_Mo_begins_87 : decode M_Mo_begins.2.1 87 = .ok (.bipush 8, 2) := by decide +kernel
theorem d_Mo_begins_89 : decode M_Mo_begins.2.1 89 = .ok (.aload_n 0, 1) := by decide +kernel
theorem d_Mo_begins_90 : decode M_Mo_begins.2.1 90 = .ok (.getfield 215, 3) := by decide +kernel
theorem d_Mo_begins_93 : decode M_Mo_begins.2.1 93 = .ok (.imul, 1) := by decide +kernel
theorem d_Mo_begins_94 : decode M_Mo_begins.2.1 94 = .ok (.iload_n 1, 1) := by decide +kernel
theorem d_Mo_begins_95 : decode M_Mo_begins.2.1 95 = .ok (.iadd, 1) := by decide +kernel
theorem d_Mo_begins_96 : decode M_Mo_begins.2.1 96 = .ok (.iaload, 1) := by decide +kernel
theorem d_Mo_begins_97 : decode M_Mo_begins.2.1 97 = .ok (.iastore, 1) := by decide +kernel
theorem d_Mo_begins_98 : decode M_Mo_begins.2.1 98 = .ok (.aload_n 0, 1) := by decide +kernel
theorem d_Mo_begins_99 : decode M_Mo_begins.2.1 99 = .ok (.getfield 119, 3) := by decide +kernel
theorem d_Mo_begins_102 : decode M_Mo_begins.2.1 102 = .ok (.bipush 16, 2) := by decide +kernel
theorem d_Mo_begins_104 : decode M_Mo_begins.2.1 104 = .ok (.iload_n 1, 1) := by decide +kernel
theorem d_Mo_begins_105 : decode M_Mo_begins.2.1 105 = .ok (.iadd, 1) := by decide +kernel
theorem d_Mo_begins_106 : decode M_Mo_begins.2.1 106 = .ok (.aload_n 0, 1) := by decide +kernel
theorem d_Mo_begins_107 : decode M_Mo_begins.2.1 107 = .ok (.getfield 61, 3) := by decide +kernel
theorem d_Mo_begins_110 : decode M_Mo_begins.2.1 110 = .ok (.bipush 8, 2) := by decide +kernel
theorem d_Mo_begins_112 : decode M_Mo_begins.2.1 112 = .ok (.aload_n 0, 1) := by decide +kernel
theorem d_Mo_begins_113 : decode M_Mo_begins.2.1 113 = .ok (.getfield 215, 3) := by decide +kernel
theorem d_Mo_begins_116 : decode M_Mo_begins.2.1 116 = .ok (.imul, 1) := by decide +kernel
theorem d_Mo_begins_117 : decode M_Mo_begins.2.1 117 = .ok (.iload_n 1, 1) := by decide +kernel
theorem d_Mo_begins_118 : decode M_Mo_begins.2.1 118 = .ok (.iadd, 1) := by decide +kernel
theorem d_Mo_begins_119 : decode M_Mo_begins.2.1 119 = .ok (.iaload, 1) := by decide +kernel
theorem d_Mo_begins_120 : decode M_Mo_begins.2.1 120 = .ok (.iastore, 1) := by decide +kernel
theorem d_Mo_begins_121 : decode M_Mo_begins.2.1 121 = .ok (.iinc 1 1, 3) := by decide +kernel
theorem d_Mo_begins_124 : decode M_Mo_begins.2.1 124 = .ok (.goto (-101), 3) := by decide +kernel
theorem d_Mo_begins_127 : decode M_Mo_begins.2.1 127 = .ok (.iconst 0, 1) := by decide +kernel
theorem d_Mo_begins_128 : decode M_Mo_begins.2.1 128 = .ok (.istore_n 1, 1) := by decide +kernel
theorem d_Mo_begins_129 : decode M_Mo_begins.2.1 129 = .ok (.iload_n 1, 1) := by decide +kernel
theorem d_Mo_begins_130 : decode M_Mo_begins.2.1 130 = .ok (.aload_n 0, 1) := by decide +kernel
theorem d_Mo_begins_131 : decode M_Mo_begins.2.1 131 = .ok (.getfield 64, 3) := by decide +kernel
theorem d_Mo_begins_134 : decode M_Mo_begins.2.1 134 = .ok (.aload_n 0, 1) := by decide +kernel
theorem d_Mo_begins_135 : decode M_Mo_begins.2.1 135 = .ok (.getfield 215, 3) := by decide +kernel
theorem d_Mo_begins_138 : decode M_Mo_begins.2.1 138 = .ok (.iaload, 1) := by decide +kernel
theorem d_Mo_begins_139 : decode M_Mo_begins.2.1 139 = .ok (.if_icmp .ge 31, 3) := by decide +kernel
theorem d_Mo_begins_142 : decode M_Mo_begins.2.1 142 = .ok (.aload_n 0, 1) := by decide +kernel
theorem d_Mo_begins_143 : decode M_Mo_begins.2.1 143 = .ok (.getfield 67, 3) := by decide +kernel
theorem d_Mo_begins_146 : decode M_Mo_begins.2.1 146 = .ok (.bipush 12, 2) := by decide +kernel
theorem d_Mo_begins_148 : decode M_Mo_begins.2.1 148 = .ok (.aload_n 0, 1) := by decide +kernel
theorem d_Mo_begins_149 : decode M_Mo_begins.2.1 149 = .ok (.getfield 215, 3) := by decide +kernel
theorem d_Mo_begins_152 : decode M_Mo_begins.2.1 152 = .ok (.imul, 1) := by decide +kernel
theorem d_Mo_begins_153 : decode M_Mo_begins.2.1 153 = .ok (.iload_n 1, 1) := by decide +kernel
theorem d_Mo_begins_154 : decode M_Mo_begins.2.1 154 = .ok (.iadd, 1) := by decide +kernel
theorem d_Mo_begins_155 : decode M_Mo_begins.2.1 155 = .ok (.iaload, 1) := by decide +kernel
theorem d_Mo_begins_156 : decode M_Mo_begins.2.1 156 = .ok (.ifCond .ge 8, 3) := by decide +kernel
theorem d_Mo_begins_159 : decode M_Mo_begins.2.1 159 = .ok (.aload_n 0, 1) := by decide +kernel
theorem d_Mo_begins_160 : decode M_Mo_begins.2.1 160 = .ok (.iload_n 1, 1) := by decide +kernel
theorem d_Mo_begins_161 : decode M_Mo_begins.2.1 161 = .ok (.invokevirtual 306, 3) := by decide +kernel
theorem d_Mo_begins_164 : decode M_Mo_begins.2.1 164 = .ok (.iinc 1 1, 3) := by decide +kernel
theorem d_Mo_begins_167 : decode M_Mo_begins.2.1 167 = .ok (.goto (-38), 3) := by decide +kernel
theorem d_Mo_begins_170 : decode M_Mo_begins.2.1 170 = .ok (.return_, 1) := by decide +kernel
theorem d_Mo_copies_0 : decode M_Mo_copies.2.1 0 = .ok (.iconst 0, 1) := by decide +kernel
theorem d_Mo_copies_1 : decode M_Mo_copies.2.1 1 = .ok (.istore_n 1, 1) := by decide +kernel
theorem d_Mo_copies_2 : decode M_Mo_copies.2.1 2 = .ok (.iload_n 1, 1) := by decide +kernel
theorem d_Mo_copies_3 : decode M_Mo_copies.2.1 3 = .ok (.bipush 100, 2) := by decide +kernel
theorem d_Mo_copies_5 : decode M_Mo_copies.2.1 5 = .ok (.if_icmp .ge 21, 3) := by decide +kernel
theorem d_Mo_copies_8 : decode M_Mo_copies.2.1 8 = .ok (.aload_n 0, 1) := by decide +kernel
theorem d_Mo_copies_9 : decode M_Mo_copies.2.1 9 = .ok (.getfield 119, 3) := by decide +kernel
theorem d_Mo_copies_12 : decode M_Mo_copies.2.1 12 = .ok (.iload_n 1, 1) := by decide +kernel
theorem d_Mo_copies_13 : decode M_Mo_copies.2.1 13 = .ok (.aload_n 0, 1) := by decide +kernel
theorem d_Mo_copies_14 : decode M_Mo_copies.2.1 14 = .ok (.getfield 116, 3) := by decide +kernel
theorem d_Mo_copies_17 : decode M_Mo_copies.2.1 17 = .ok (.iload_n 1, 1) := by decide +kernel
theorem d_Mo_copies_18 : decode M_Mo_copies.2.1 18 = .ok (.iaload, 1) := by decide +kernel
theorem d_Mo_copies_19 : decode M_Mo_copies.2.1 19 = .ok (.iastore, 1) := by decide +kernel
theorem d_Mo_copies_20 : decode M_Mo_copies.2.1 20 = .ok (.iinc 1 1, 3) := by decide +kernel
theorem d_Mo_copies_23 : decode M_Mo_copies.2.1 23 = .ok (.goto (-21), 3) := by decide +kernel
theorem d_Mo_copies_26 : decode M_Mo_copies.2.1 26 = .ok (.return_, 1) := by decide +kernel
theorem d_Mo_liesDown_0 : decode M_Mo_liesDown.2.1 0 = .ok (.aload_n 0, 1) := by decide +kernel
theorem d_Mo_liesDown_1 : decode M_Mo_liesDown.2.1 1 = .ok (.getfield 119, 3) := by decide +kernel
theorem d_Mo_liesDown_4 : decode M_Mo_liesDown.2.1 4 = .ok (.bipush 84, 2) := by decide +kernel
theorem d_Mo_liesDown_6 : decode M_Mo_liesDown.2.1 6 = .ok (.aload_n 0, 1) := by decide +kernel
theorem d_Mo_liesDown_7 : decode M_Mo_liesDown.2.1 7 = .ok (.getfield 119, 3) := by decide +kernel
theorem d_Mo_liesDown_10 : decode M_Mo_liesDown.2.1 10 = .ok (.bipush 96, 2) := by decide +kernel
theorem d_Mo_liesDown_12 : decode M_Mo_liesDown.2.1 12 = .ok (.iaload, 1) := by decide +kernel
theorem d_Mo_liesDown_13 : decode M_Mo_liesDown.2.1 13 = .ok (.iadd, 1) := by decide +kernel
theorem d_Mo_liesDown_14 : decode M_Mo_liesDown.2.1 14 = .ok (.iload_n 1, 1) := by decide +kernel
theorem d_Mo_liesDown_15 : decode M_Mo_liesDown.2.1 15 = .ok (.iastore, 1) := by decide +kernel
theorem d_Mo_liesDown_16 : decode M_Mo_liesDown.2.1 16 = .ok (.aload_n 0, 1) := by decide +kernel
theorem d_Mo_liesDown_17 : decode M_Mo_liesDown.2.1 17 = .ok (.getfield 119, 3) := by decide +kernel
theorem d_Mo_liesDown_20 : decode M_Mo_liesDown.2.1 20 = .ok (.bipush 96, 2) := by decide +kernel
theorem d_Mo_liesDown_22 : decode M_Mo_liesDown.2.1 22 = .ok (.dup2, 1) := by decide +kernel
theorem d_Mo_liesDown_23 : decode M_Mo_liesDown.2.1 23 = .ok (.iaload, 1) := by decide +kernel
theorem d_Mo_liesDown_24 : decode M_Mo_liesDown.2.1 24 = .ok (.iconst 1, 1) := by decide +kernel
theorem d_Mo_liesDown_25 : decode M_Mo_liesDown.2.1 25 = .ok (.iadd, 1) := by decide +kernel
theorem d_Mo_liesDown_26 : decode M_Mo_liesDown.2.1 26 = .ok (.iastore, 1) := by decide +kernel
theorem d_Mo_liesDown_27 : decode M_Mo_liesDown.2.1 27 = .ok (.return_, 1) := by decide +kernel
theorem d_Mo_getsUp_0 : decode M_Mo_getsUp.2.1 0 = .ok (.aload_n 0, 1) := by decide +kernel
theorem d_Mo_getsUp_1 : decode M_Mo_getsUp.2.1 1 = .ok (.getfield 119, 3) := by decide +kernel
theorem d_Mo_getsUp_4 : decode M_Mo_getsUp.2.1 4 = .ok (.bipush 84, 2) := by decide +kernel
theorem d_Mo_getsUp_6 : decode M_Mo_getsUp.2.1 6 = .ok (.iload_n 1, 1) := by decide +kernel
theorem d_Mo_getsUp_7 : decode M_Mo_getsUp.2.1 7 = .ok (.iadd, 1) := by decide +kernel
theorem d_Mo_getsUp_8 : decode M_Mo_getsUp.2.1 8 = .ok (.iaload, 1) := by decide +kernel
theorem d_Mo_getsUp_9 : decode M_Mo_getsUp.2.1 9 = .ok (.istore_n 2, 1) := by decide +kernel
theorem d_Mo_getsUp_10 : decode M_Mo_getsUp.2.1 10 = .ok (.iload_n 1, 1) := by decide +kernel
theorem d_Mo_getsUp_11 : decode M_Mo_getsUp.2.1 11 = .ok (.istore_n 3, 1) := by decide +kernel
theorem d_Mo_getsUp_12 : decode M_Mo_getsUp.2.1 12 = .ok (.iload_n 3, 1) := by decide +kernel
theorem d_Mo_getsUp_13 : decode M_Mo_getsUp.2.1 13 = .ok (.aload_n 0, 1) := by decide +kernel
theorem d_Mo_getsUp_14 : decode M_Mo_getsUp.2.1 14 = .ok (.getfield 119, 3) := by decide +kernel
theorem d_Mo_getsUp_17 : decode M_Mo_getsUp.2.1 17 = .ok (.bipush 96, 2) := by decide +kernel
theorem d_Mo_getsUp_19 : decode M_Mo_getsUp.2.1 19 = .ok (.iaload, 1) := by decide +kernel
theorem d_Mo_getsUp_20 : decode M_Mo_getsUp.2.1 20 = .ok (.iconst 1, 1) := by decide +kernel
theorem d_Mo_getsUp_21 : decode M_Mo_getsUp.2.1 21 = .ok (.isub, 1) := by decide +kernel
theorem d_Mo_getsUp_22 : decode M_Mo_getsUp.2.1 22 = .ok (.if_icmp .ge 27, 3) := by decide +kernel
theorem d_Mo_getsUp_25 : decode M_Mo_getsUp.2.1 25 = .ok (.aload_n 0, 1) := by decide +kernel
theorem d_Mo_getsUp_26 : decode M_Mo_getsUp.2.1 26 = .ok (.getfield 119, 3) := by decide +kernel
theorem d_Mo_getsUp_29 : decode M_Mo_getsUp.2.1 29 = .ok (.bipush 84, 2) := by decide +kernel
theorem d_Mo_getsUp_31 : decode M_Mo_getsUp.2.1 31 = .ok (.iload_n 3, 1) := by decide +kernel
theorem d_Mo_getsUp_32 : decode M_Mo_getsUp.2.1 32 = .ok (.iadd, 1) := by decide +kernel
theorem d_Mo_getsUp_33 : decode M_Mo_getsUp.2.1 33 = .ok (.aload_n 0, 1) := by decide +kernel
theorem d_Mo_getsUp_34 : decode M_Mo_getsUp.2.1 34 = .ok (.getfield 119, 3) := by decide +kernel
theorem d_Mo_getsUp_37 : decode M_Mo_getsUp.2.1 37 = .ok (.bipush 85, 2) := by decide +kernel
theorem d_Mo_getsUp_39 : decode M_Mo_getsUp.2.1 39 = .ok (.iload_n 3, 1) := by decide +kernel
theorem d_Mo_getsUp_40 : decode M_Mo_getsUp.2.1 40 = .ok (.iadd, 1) := by decide +kernel
theorem d_Mo_getsUp_41 : decode M_Mo_getsUp.2.1 41 = .ok (.iaload, 1) := by decide +kernel
theorem d_Mo_getsUp_42 : decode M_Mo_getsUp.2.1 42 = .ok (.iastore, 1) := by decide +kernel
theorem d_Mo_getsUp_43 : decode M_Mo_getsUp.2.1 43 = .ok (.iinc 3 1, 3) := by decide +kernel
theorem d_Mo_getsUp_46 : decode M_Mo_getsUp.2.1 46 = .ok (.goto (-34), 3) := by decide +kernel
theorem d_Mo_getsUp_49 : decode M_Mo_getsUp.2.1 49 = .ok (.aload_n 0, 1) := by decide +kernel
theorem d_Mo_getsUp_50 : decode M_Mo_getsUp.2.1 50 = .ok (.getfield 119, 3) := by decide +kernel
theorem d_Mo_getsUp_53 : decode M_Mo_getsUp.2.1 53 = .ok (.bipush 96, 2) := by decide +kernel
theorem d_Mo_getsUp_55 : decode M_Mo_getsUp.2.1 55 = .ok (.dup2, 1) := by decide +kernel
theorem d_Mo_getsUp_56 : decode M_Mo_getsUp.2.1 56 = .ok (.iaload, 1) := by decide +kernel
theorem d_Mo_getsUp_57 : decode M_Mo_getsUp.2.1 57 = .ok (.iconst 1, 1) := by decide +kernel
theorem d_Mo_getsUp_58 : decode M_Mo_getsUp.2.1 58 = .ok (.isub, 1) := by decide +kernel
theorem d_Mo_getsUp_59 : decode M_Mo_getsUp.2.1 59 = .ok (.iastore, 1) := by decide +kernel
theorem d_Mo_getsUp_60 : decode M_Mo_getsUp.2.1 60 = .ok (.iload_n 2, 1) := by decide +kernel
theorem d_Mo_getsUp_61 : decode M_Mo_getsUp.2.1 61 = .ok (.ireturn, 1) := by decide +kernel
theorem d_Mo_comes_0 : decode M_Mo_comes.2.1 0 = .ok (.aload_n 0, 1) := by decide +kernel
theorem d_Mo_comes_1 : decode M_Mo_comes.2.1 1 = .ok (.getfield 119, 3) := by decide +kernel
theorem d_Mo_comes_4 : decode M_Mo_comes.2.1 4 = .ok (.bipush 16, 2) := by decide +kernel
theorem d_Mo_comes_6 : decode M_Mo_comes.2.1 6 = .ok (.iload_n 2, 1) := by decide +kernel
theorem d_Mo_comes_7 : decode M_Mo_comes.2.1 7 = .ok (.iadd, 1) := by decide +kernel
theorem d_Mo_comes_8 : decode M_Mo_comes.2.1 8 = .ok (.iload_n 1, 1) := by decide +kernel
theorem d_Mo_comes_9 : decode M_Mo_comes.2.1 9 = .ok (.iastore, 1) := by decide +kernel
theorem d_Mo_comes_10 : decode M_Mo_comes.2.1 10 = .ok (.aload_n 0, 1) := by decide +kernel
theorem d_Mo_comes_11 : decode M_Mo_comes.2.1 11 = .ok (.getfield 119, 3) := by decide +kernel
theorem d_Mo_comes_14 : decode M_Mo_comes.2.1 14 = .ok (.bipush 60, 2) := by decide +kernel
theorem d_Mo_comes_16 : decode M_Mo_comes.2.1 16 = .ok (.iload_n 1, 1) := by decide +kernel
theorem d_Mo_comes_17 : decode M_Mo_comes.2.1 17 = .ok (.iadd, 1) := by decide +kernel
theorem d_Mo_comes_18 : decode M_Mo_comes.2.1 18 = .ok (.iconst 0, 1) := by decide +kernel
theorem d_Mo_comes_19 : decode M_Mo_comes.2.1 19 = .ok (.iastore, 1) := by decide +kernel
theorem d_Mo_comes_20 : decode M_Mo_comes.2.1 20 = .ok (.return_, 1) := by decide +kernel
theorem d_Mo_flowOf_0 : decode M_Mo_flowOf.2.1 0 = .ok (.aload_n 0, 1) := by decide +kernel
theorem d_Mo_flowOf_1 : decode M_Mo_flowOf.2.1 1 = .ok (.getfield 119, 3) := by decide +kernel
theorem d_Mo_flowOf_4 : decode M_Mo_flowOf.2.1 4 = .ok (.iload_n 1, 1) := by decide +kernel
theorem d_Mo_flowOf_5 : decode M_Mo_flowOf.2.1 5 = .ok (.iaload, 1) := by decide +kernel
theorem d_Mo_flowOf_6 : decode M_Mo_flowOf.2.1 6 = .ok (.istore_n 2, 1) := by decide +kernel
theorem d_Mo_flowOf_7 : decode M_Mo_flowOf.2.1 7 = .ok (.aload_n 0, 1) := by decide +kernel
theorem d_Mo_flowOf_8 : decode M_Mo_flowOf.2.1 8 = .ok (.getfield 79, 3) := by decide +kernel
theorem d_Mo_flowOf_11 : decode M_Mo_flowOf.2.1 11 = .ok (.aload_n 0, 1) := by decide +kernel
theorem d_Mo_flowOf_12 : decode M_Mo_flowOf.2.1 12 = .ok (.getfield 215, 3) := by decide +kernel
theorem d_Mo_flowOf_15 : decode M_Mo_flowOf.2.1 15 = .ok (.iaload, 1) := by decide +kernel
theorem d_Mo_flowOf_16 : decode M_Mo_flowOf.2.1 16 = .ok (.istore_n 3, 1) := by decide +kernel
theorem d_Mo_flowOf_17 : decode M_Mo_flowOf.2.1 17 = .ok (.aload_n 0, 1) := by decide +kernel
theorem d_Mo_flowOf_18 : decode M_Mo_flowOf.2.1 18 = .ok (.getfield 82, 3) := by decide +kernel
theorem d_Mo_flowOf_21 : decode M_Mo_flowOf.2.1 21 = .ok (.aload_n 0, 1) := by decide +kernel
theorem d_Mo_flowOf_22 : decode M_Mo_flowOf.2.1 22 = .ok (.getfield 215, 3) := by decide +kernel
theorem d_Mo_flowOf_25 : decode M_Mo_flowOf.2.1 25 = .ok (.iaload, 1) := by decide +kernel
theorem d_Mo_flowOf_26 : decode M_Mo_flowOf.2.1 26 = .ok (.istore 4, 2) := by decide +kernel
theorem d_Mo_flowOf_28 : decode M_Mo_flowOf.2.1 28 = .ok (.iload_n 3, 1) := by decide +kernel
theorem d_Mo_flowOf_29 : decode M_Mo_flowOf.2.1 29 = .ok (.iload 4, 2) := by decide +kernel
theorem d_Mo_flowOf_31 : decode M_Mo_flowOf.2.1 31 = .ok (.if_icmp .ne 40, 3) := by decide +kernel
theorem d_Mo_flowOf_34 : decode M_Mo_flowOf.2.1 34 = .ok (.aload_n 0, 1) := by decide +kernel
theorem d_Mo_flowOf_35 : decode M_Mo_flowOf.2.1 35 = .ok (.getfield 58, 3) := by decide +kernel
theorem d_Mo_flowOf_38 : decode M_Mo_flowOf.2.1 38 = .ok (.bipush 8, 2) := by decide +kernel
theorem d_Mo_flowOf_40 : decode M_Mo_flowOf.2.1 40 = .ok (.aload_n 0, 1) := by decide +kernel
theorem d_Mo_flowOf_41 : decode M_Mo_flowOf.2.1 41 = .ok (.getfield 215, 3) := by decide +kernel
theorem d_Mo_flowOf_44 : decode M_Mo_flowOf.2.1 44 = .ok (.imul, 1) := by decide +kernel
theorem d_Mo_flowOf_45 : decode M_Mo_flowOf.2.1 45 = .ok (.iload_n 1, 1) := by decide +kernel
theorem d_Mo_flowOf_46 : decode M_Mo_flowOf.2.1 46 = .ok (.iadd, 1) := by decide +kernel
theorem d_Mo_flowOf_47 : decode M_Mo_flowOf.2.1 47 = .ok (.iaload, 1) := by decide +kernel
theorem d_Mo_flowOf_48 : decode M_Mo_flowOf.2.1 48 = .ok (.iload_n 2, 1) := by decide +kernel
theorem d_Mo_flowOf_49 : decode M_Mo_flowOf.2.1 49 = .ok (.if_icmp .ge 20, 3) := by decide +kernel
theorem d_Mo_flowOf_52 : decode M_Mo_flowOf.2.1 52 = .ok (.aload_n 0, 1) := by decide +kernel
theorem d_Mo_flowOf_53 : decode M_Mo_flowOf.2.1 53 = .ok (.getfield 58, 3) := by decide +kernel
theorem d_Mo_flowOf_56 : decode M_Mo_flowOf.2.1 56 = .ok (.bipush 8, 2) := by decide +kernel
theorem d_Mo_flowOf_58 : decode M_Mo_flowOf.2.1 58 = .ok (.aload_n 0, 1) := by decide +kernel
theorem d_Mo_flowOf_59 : decode M_Mo_flowOf.2.1 59 = .ok (.getfield 215, 3) := by decide +kernel
theorem d_Mo_flowOf_62 : decode M_Mo_flowOf.2.1 62 = .ok (.imul, 1) := by decide +kernel
theorem d_Mo_flowOf_63 : decode M_Mo_flowOf.2.1 63 = .ok (.iload_n 1, 1) := by decide +kernel
theorem d_Mo_flowOf_64 : decode M_Mo_flowOf.2.1 64 = .ok (.iadd, 1) := by decide +kernel
theorem d_Mo_flowOf_65 : decode M_Mo_flowOf.2.1 65 = .ok (.iaload, 1) := by decide +kernel
theorem d_Mo_flowOf_66 : decode M_Mo_flowOf.2.1 66 = .ok (.goto 4, 3) := by decide +kernel
theorem d_Mo_flowOf_69 : decode M_Mo_flowOf.2.1 69 = .ok (.iload_n 2, 1) := by decide +kernel
theorem d_Mo_flowOf_70 : decode M_Mo_flowOf.2.1 70 = .ok (.ireturn, 1) := by decide +kernel
theorem d_Mo_flowOf_71 : decode M_Mo_flowOf.2.1 71 = .ok (.aload_n 0, 1) := by decide +kernel
theorem d_Mo_flowOf_72 : decode M_Mo_flowOf.2.1 72 = .ok (.getfield 110, 3) := by decide +kernel
theorem d_Mo_flowOf_75 : decode M_Mo_flowOf.2.1 75 = .ok (.iconst 0, 1) := by decide +kernel
theorem d_Mo_flowOf_76 : decode M_Mo_flowOf.2.1 76 = .ok (.aload_n 0, 1) := by decide +kernel
theorem d_Mo_flowOf_77 : decode M_Mo_flowOf.2.1 77 = .ok (.getfield 58, 3) := by decide +kernel
theorem d_Mo_flowOf_80 : decode M_Mo_flowOf.2.1 80 = .ok (.bipush 8, 2) := by decide +kernel
theorem d_Mo_flowOf_82 : decode M_Mo_flowOf.2.1 82 = .ok (.aload_n 0, 1) := by decide +kernel
theorem d_Mo_flowOf_83 : decode M_Mo_flowOf.2.1 83 = .ok (.getfield 215, 3) := by decide +kernel
theorem d_Mo_flowOf_86 : decode M_Mo_flowOf.2.1 86 = .ok (.imul, 1) := by decide +kernel
theorem d_Mo_flowOf_87 : decode M_Mo_flowOf.2.1 87 = .ok (.iload_n 1, 1) := by decide +kernel
theorem d_Mo_flowOf_88 : decode M_Mo_flowOf.2.1 88 = .ok (.iadd, 1) := by decide +kernel
theorem d_Mo_flowOf_89 : decode M_Mo_flowOf.2.1 89 = .ok (.iaload, 1) := by decide +kernel
theorem d_Mo_flowOf_90 : decode M_Mo_flowOf.2.1 90 = .ok (.iastore, 1) := by decide +kernel
theorem d_Mo_flowOf_91 : decode M_Mo_flowOf.2.1 91 = .ok (.aload_n 0, 1) := by decide +kernel
theorem d_Mo_flowOf_92 : decode M_Mo_flowOf.2.1 92 = .ok (.getfield 110, 3) := by decide +kernel
theorem d_Mo_flowOf_95 : decode M_Mo_flowOf.2.1 95 = .ok (.iconst 1, 1) := by decide +kernel
theorem d_Mo_flowOf_96 : decode M_Mo_flowOf.2.1 96 = .ok (.aload_n 0, 1) := by decide +kernel
theorem d_Mo_flowOf_97 : decode M_Mo_flowOf.2.1 97 = .ok (.getfield 119, 3) := by decide +kernel
theorem d_Mo_flowOf_100 : decode M_Mo_flowOf.2.1 100 = .ok (.bipush 24, 2) := by decide +kernel
theorem d_Mo_flowOf_102 : decode M_Mo_flowOf.2.1 102 = .ok (.iload_n 1, 1) := by decide +kernel
theorem d_Mo_flowOf_103 : decode M_Mo_flowOf.2.1 103 = .ok (.iadd, 1) := by decide +kernel
theorem d_Mo_flowOf_104 : decode M_Mo_flowOf.2.1 104 = .ok (.iaload, 1) := by decide +kernel
theorem d_Mo_flowOf_105 : decode M_Mo_flowOf.2.1 105 = .ok (.iconst 1, 1) := by decide +kernel
theorem d_Mo_flowOf_106 : decode M_Mo_flowOf.2.1 106 = .ok (.if_icmp .eq 15, 3) := by decide +kernel
theorem d_Mo_flowOf_109 : decode M_Mo_flowOf.2.1 109 = .ok (.aload_n 0, 1) := by decide +kernel
theorem d_Mo_flowOf_110 : decode M_Mo_flowOf.2.1 110 = .ok (.getfield 70, 3) := by decide +kernel
theorem d_Mo_flowOf_113 : decode M_Mo_flowOf.2.1 113 = .ok (.aload_n 0, 1) := by decide +kernel
theorem d_Mo_flowOf_114 : decode M_Mo_flowOf.2.1 114 = .ok (.getfield 215, 3) := by decide +kernel
theorem d_Mo_flowOf_117 : decode M_Mo_flowOf.2.1 117 = .ok (.iaload, 1) := by decide +kernel
theorem d_Mo_flowOf_118 : decode M_Mo_flowOf.2.1 118 = .ok (.ifCond .ne 7, 3) := by decide +kernel
theorem d_Mo_flowOf_121 : decode M_Mo_flowOf.2.1 121 = .ok (.iconst 0, 1) := by decide +kernel
theorem d_Mo_flowOf_122 : decode M_Mo_flowOf.2.1 122 = .ok (.goto 36, 3) := by decide +kernel
theorem d_Mo_flowOf_125 : decode M_Mo_flowOf.2.1 125 = .ok (.aload_n 0, 1) := by decide +kernel
theorem d_Mo_flowOf_126 : decode M_Mo_flowOf.2.1 126 = .ok (.getfield 73, 3) := by decide +kernel
theorem d_Mo_flowOf_129 : decode M_Mo_flowOf.2.1 129 = .ok (.bipush 24, 2) := by decide +kernel
theorem d_Mo_flowOf_131 : decode M_Mo_flowOf.2.1 131 = .ok (.aload_n 0, 1) := by decide +kernel
theorem d_Mo_flowOf_132 : decode M_Mo_flowOf.2.1 132 = .ok (.getfield 215, 3) := by decide +kernel
theorem d_Mo_flowOf_135 : decode M_Mo_flowOf.2.1 135 = .ok (.imul, 1) := by decide +kernel
theorem d_Mo_flowOf_136 : decode M_Mo_flowOf.2.1 136 = .ok (.aload_n 0, 1) := by decide +kernel
theorem d_Mo_flowOf_137 : decode M_Mo_flowOf.2.1 137 = .ok (.getfield 119, 3) := by decide +kernel
theorem d_Mo_flowOf_140 : decode M_Mo_flowOf.2.1 140 = .ok (.bipush 97, 2) := by decide +kernel
theorem d_Mo_flowOf_142 : decode M_Mo_flowOf.2.1 142 = .ok (.iaload, 1) := by decide +kernel
theorem d_Mo_flowOf_143 : decode M_Mo_flowOf.2.1 143 = .ok (.bipush 60, 2) := by decide +kernel
theorem d_Mo_flowOf_145 : decode M_Mo_flowOf.2.1 145 = .ok (.idiv, 1) := by decide +kernel
theorem d_Mo_flowOf_146 : decode M_Mo_flowOf.2.1 146 = .ok (.aload_n 0, 1) := by decide +kernel
theorem d_Mo_flowOf_147 : decode M_Mo_flowOf.2.1 147 = .ok (.getfield 70, 3) := by decide +kernel
theorem d_Mo_flowOf_150 : decode M_Mo_flowOf.2.1 150 = .ok (.aload_n 0, 1) := by decide +kernel
theorem d_Mo_flowOf_151 : decode M_Mo_flowOf.2.1 151 = .ok (.getfield 215, 3) := by decide +kernel
theorem d_Mo_flowOf_154 : decode M_Mo_flowOf.2.1 154 = .ok (.iaload, 1) := by decide +kernel
theorem d_Mo_flowOf_155 : decode M_Mo_flowOf.2.1 155 = .ok (.irem, 1) := by decide +kernel
theorem d_Mo_flowOf_156 : decode M_Mo_flowOf.2.1 156 = .ok (.iadd, 1) := by decide +kernel
theorem d_Mo_flowOf_157 : decode M_Mo_flowOf.2.1 157 = .ok (.iaload, 1) := by decide +kernel
theorem d_Mo_flowOf_158 : decode M_Mo_flowOf.2.1 158 = .ok (.iastore, 1) := by decide +kernel
theorem d_Mo_flowOf_159 : decode M_Mo_flowOf.2.1 159 = .ok (.aload_n 0, 1) := by decide +kernel
theorem d_Mo_flowOf_160 : decode M_Mo_flowOf.2.1 160 = .ok (.getfield 110, 3) := by decide +kernel
theorem d_Mo_flowOf_163 : decode M_Mo_flowOf.2.1 163 = .ok (.iconst 2, 1) := by decide +kernel
theorem d_Mo_flowOf_164 : decode M_Mo_flowOf.2.1 164 = .ok (.iload_n 2, 1) := by decide +kernel
theorem d_Mo_flowOf_165 : decode M_Mo_flowOf.2.1 165 = .ok (.iastore, 1) := by decide +kernel
theorem d_Mo_flowOf_166 : decode M_Mo_flowOf.2.1 166 = .ok (.aload_n 0, 1) := by decide +kernel
theorem d_Mo_flowOf_167 : decode M_Mo_flowOf.2.1 167 = .ok (.getfield 110, 3) := by decide +kernel
theorem d_Mo_flowOf_170 : decode M_Mo_flowOf.2.1 170 = .ok (.iconst 3, 1) := by decide +kernel
theorem d_Mo_flowOf_171 : decode M_Mo_flowOf.2.1 171 = .ok (.aload_n 0, 1) := by decide +kernel
theorem d_Mo_flowOf_172 : decode M_Mo_flowOf.2.1 172 = .ok (.getfield 119, 3) := by decide +kernel
theorem d_Mo_flowOf_175 : decode M_Mo_flowOf.2.1 175 = .ok (.bipush 8, 2) := by decide +kernel
theorem d_Mo_flowOf_177 : decode M_Mo_flowOf.2.1 177 = .ok (.iload_n 1, 1) := by decide +kernel
theorem d_Mo_flowOf_178 : decode M_Mo_flowOf.2.1 178 = .ok (.iadd, 1) := by decide +kernel
theorem d_Mo_flowOf_179 : decode M_Mo_flowOf.2.1 179 = .ok (.iaload, 1) := by decide +kernel
theorem d_Mo_flowOf_180 : decode M_Mo_flowOf.2.1 180 = .ok (.iastore, 1) := by decide +kernel
theorem d_Mo_flowOf_181 : decode M_Mo_flowOf.2.1 181 = .ok (.aload_n 0, 1) := by decide +kernel
theorem d_Mo_flowOf_182 : decode M_Mo_flowOf.2.1 182 = .ok (.getfield 110, 3) := by decide +kernel
theorem d_Mo_flowOf_185 : decode M_Mo_flowOf.2.1 185 = .ok (.iconst 4, 1) := by decide +kernel
theorem d_Mo_flowOf_186 : decode M_Mo_flowOf.2.1 186 = .ok (.aload_n 0, 1) := by decide +kernel
theorem d_Mo_flowOf_187 : decode M_Mo_flowOf.2.1 187 = .ok (.getfield 119, 3) := by decide +kernel
theorem d_Mo_flowOf_190 : decode M_Mo_flowOf.2.1 190 = .ok (.bipush 97, 2) := by decide +kernel
theorem d_Mo_flowOf_192 : decode M_Mo_flowOf.2.1 192 = .ok (.iaload, 1) := by decide +kernel
theorem d_Mo_flowOf_193 : decode M_Mo_flowOf.2.1 193 = .ok (.iastore, 1) := by decide +kernel
theorem d_Mo_flowOf_194 : decode M_Mo_flowOf.2.1 194 = .ok (.aload_n 0, 1) := by decide +kernel
theorem d_Mo_flowOf_195 : decode M_Mo_flowOf.2.1 195 = .ok (.getfield 110, 3) := by decide +kernel
theorem d_Mo_flowOf_198 : decode M_Mo_flowOf.2.1 198 = .ok (.iconst 5, 1) := by decide +kernel
theorem d_Mo_flowOf_199 : decode M_Mo_flowOf.2.1 199 = .ok (.iload_n 1, 1) := by decide +kernel
theorem d_Mo_flowOf_200 : decode M_Mo_flowOf.2.1 200 = .ok (.iastore, 1) := by decide +kernel
theorem d_Mo_flowOf_201 : decode M_Mo_flowOf.2.1 201 = .ok (.aload_n 0, 1) := by decide +kernel
theorem d_Mo_flowOf_202 : decode M_Mo_flowOf.2.1 202 = .ok (.iconst 0, 1) := by decide +kernel
theorem d_Mo_flowOf_203 : decode M_Mo_flowOf.2.1 203 = .ok (.putfield 298, 3) := by decide +kernel
theorem d_Mo_flowOf_206 : decode M_Mo_flowOf.2.1 206 = .ok (.iload_n 3, 1) := by decide +kernel
theorem d_Mo_flowOf_207 : decode M_Mo_flowOf.2.1 207 = .ok (.istore 5, 2) := by decide +kernel
theorem d_Mo_flowOf_209 : decode M_Mo_flowOf.2.1 209 = .ok (.iload 5, 2) := by decide +kernel
theorem d_Mo_flowOf_211 : decode M_Mo_flowOf.2.1 211 = .ok (.iload 4, 2) := by decide +kernel
theorem d_Mo_flowOf_213 : decode M_Mo_flowOf.2.1 213 = .ok (.if_icmp .ge 127, 3) := by decide +kernel
theorem d_Mo_flowOf_216 : decode M_Mo_flowOf.2.1 216 = .ok (.aload_n 0, 1) := by decide +kernel
theorem d_Mo_flowOf_217 : decode M_Mo_flowOf.2.1 217 = .ok (.getfield 85, 3) := by decide +kernel
theorem d_Mo_flowOf_220 : decode M_Mo_flowOf.2.1 220 = .ok (.iload 5, 2) := by decide +kernel
theorem d_Mo_flowOf_222 : decode M_Mo_flowOf.2.1 222 = .ok (.baload, 1) := by decide +kernel
theorem d_Mo_flowOf_223 : decode M_Mo_flowOf.2.1 223 = .ok (.ifCond .eq 62, 3) := by decide +kernel
theorem d_Mo_flowOf_226 : decode M_Mo_flowOf.2.1 226 = .ok (.aload_n 0, 1) := by decide +kernel
theorem d_Mo_flowOf_227 : decode M_Mo_flowOf.2.1 227 = .ok (.aload_n 0, 1) := by decide +kernel
theorem d_Mo_flowOf_228 : decode M_Mo_flowOf.2.1 228 = .ok (.getfield 89, 3) := by decide +kernel
theorem d_Mo_flowOf_231 : decode M_Mo_flowOf.2.1 231 = .ok (.iload 5, 2) := by decide +kernel
theorem d_Mo_flowOf_233 : decode M_Mo_flowOf.2.1 233 = .ok (.iaload, 1) := by decide +kernel
theorem d_Mo_flowOf_234 : decode M_Mo_flowOf.2.1 234 = .ok (.aload_n 0, 1) := by decide +kernel
theorem d_Mo_flowOf_235 : decode M_Mo_flowOf.2.1 235 = .ok (.getfield 92, 3) := by decide +kernel
theorem d_Mo_flowOf_238 : decode M_Mo_flowOf.2.1 238 = .ok (.iload 5, 2) := by decide +kernel
theorem d_Mo_flowOf_240 : decode M_Mo_flowOf.2.1 240 = .ok (.iaload, 1) := by decide +kernel
theorem d_Mo_flowOf_241 : decode M_Mo_flowOf.2.1 241 = .ok (.invokevirtual 309, 3) := by decide +kernel
theorem d_Mo_flowOf_244 : decode M_Mo_flowOf.2.1 244 = .ok (.istore 6, 2) := by decide +kernel
theorem d_Mo_flowOf_246 : decode M_Mo_flowOf.2.1 246 = .ok (.aload_n 0, 1) := by decide +kernel
theorem d_Mo_flowOf_247 : decode M_Mo_flowOf.2.1 247 = .ok (.aload_n 0, 1) := by decide +kernel
theorem d_Mo_flowOf_248 : decode M_Mo_flowOf.2.1 248 = .ok (.getfield 92, 3) := by decide +kernel
theorem d_Mo_flowOf_251 : decode M_Mo_flowOf.2.1 251 = .ok (.iload 5, 2) := by decide +kernel
theorem d_Mo_flowOf_253 : decode M_Mo_flowOf.2.1 253 = .ok (.iaload, 1) := by decide +kernel
theorem d_Mo_flowOf_254 : decode M_Mo_flowOf.2.1 254 = .ok (.aload_n 0, 1) := by decide +kernel
theorem d_Mo_flowOf_255 : decode M_Mo_flowOf.2.1 255 = .ok (.getfield 95, 3) := by decide +kernel
theorem d_Mo_flowOf_258 : decode M_Mo_flowOf.2.1 258 = .ok (.iload 5, 2) := by decide +kernel
theorem d_Mo_flowOf_260 : decode M_Mo_flowOf.2.1 260 = .ok (.iaload, 1) := by decide +kernel
theorem d_Mo_flowOf_261 : decode M_Mo_flowOf.2.1 261 = .ok (.invokevirtual 309, 3) := by decide +kernel
theorem d_Mo_flowOf_264 : decode M_Mo_flowOf.2.1 264 = .ok (.istore 7, 2) := by decide +kernel
theorem d_Mo_flowOf_266 : decode M_Mo_flowOf.2.1 266 = .ok (.aload_n 0, 1) := by decide +kernel
theorem d_Mo_flowOf_267 : decode M_Mo_flowOf.2.1 267 = .ok (.getfield 298, 3) := by decide +kernel
theorem d_Mo_flowOf_270 : decode M_Mo_flowOf.2.1 270 = .ok (.ifCond .eq 5, 3) := by decide +kernel
theorem d_Mo_flowOf_273 : decode M_Mo_flowOf.2.1 273 = .ok (.iconst 0, 1) := by decide +kernel
theorem d_Mo_flowOf_274 : decode M_Mo_flowOf.2.1 274 = .ok (.ireturn, 1) := by decide +kernel
theorem d_Mo_flowOf_275 : decode M_Mo_flowOf.2.1 275 = .ok (.iload 6, 2) := by decide +kernel
theorem d_Mo_flowOf_277 : decode M_Mo_flowOf.2.1 277 = .ok (.iload 7, 2) := by decide +kernel
theorem d_Mo_flowOf_279 : decode M_Mo_flowOf.2.1 279 = .ok (.if_icmp .lt 6, 3) := by decide +kernel
theorem d_Mo_flowOf_282 : decode M_Mo_flowOf.2.1 282 = .ok (.goto 52, 3) := by decide +kernel
theorem d_Mo_flowOf_285 : decode M_Mo_flowOf.2.1 285 = .ok (.aload_n 0, 1) := by decide +kernel
theorem d_Mo_flowOf_286 : decode M_Mo_flowOf.2.1 286 = .ok (.aload_n 0, 1) := by decide +kernel
theorem d_Mo_flowOf_287 : decode M_Mo_flowOf.2.1 287 = .ok (.getfield 95, 3) := by decide +kernel
theorem d_Mo_flowOf_290 : decode M_Mo_flowOf.2.1 290 = .ok (.iload 5, 2) := by decide +kernel
theorem d_Mo_flowOf_292 : decode M_Mo_flowOf.2.1 292 = .ok (.iaload, 1) := by decide +kernel
theorem d_Mo_flowOf_293 : decode M_Mo_flowOf.2.1 293 = .ok (.aload_n 0, 1) := by decide +kernel
theorem d_Mo_flowOf_294 : decode M_Mo_flowOf.2.1 294 = .ok (.getfield 98, 3) := by decide +kernel
theorem d_Mo_flowOf_297 : decode M_Mo_flowOf.2.1 297 = .ok (.iload 5, 2) := by decide +kernel
theorem d_Mo_flowOf_299 : decode M_Mo_flowOf.2.1 299 = .ok (.iaload, 1) := by decide +kernel
theorem d_Mo_flowOf_300 : decode M_Mo_flowOf.2.1 300 = .ok (.invokevirtual 309, 3) := by decide +kernel
theorem d_Mo_flowOf_303 : decode M_Mo_flowOf.2.1 303 = .ok (.istore 6, 2) := by decide +kernel
theorem d_Mo_flowOf_305 : decode M_Mo_flowOf.2.1 305 = .ok (.aload_n 0, 1) := by decide +kernel
theorem d_Mo_flowOf_306 : decode M_Mo_flowOf.2.1 306 = .ok (.getfield 298, 3) := by decide +kernel
theorem d_Mo_flowOf_309 : decode M_Mo_flowOf.2.1 309 = .ok (.ifCond .ne 8, 3) := by decide +kernel
theorem d_Mo_flowOf_312 : decode M_Mo_flowOf.2.1 312 = .ok (.iload 6, 2) := by decide +kernel
theorem d_Mo_flowOf_314 : decode M_Mo_flowOf.2.1 314 = .ok (.ifCond .ge 7, 3) := by decide +kernel
theorem d_Mo_flowOf_317 : decode M_Mo_flowOf.2.1 317 = .ok (.iconst 0, 1) := by decide +kernel
theorem d_Mo_flowOf_318 : decode M_Mo_flowOf.2.1 318 = .ok (.goto 15, 3) := by decide +kernel
theorem d_Mo_flowOf_321 : decode M_Mo_flowOf.2.1 321 = .ok (.iload 6, 2) := by decide +kernel
theorem d_Mo_flowOf_323 : decode M_Mo_flowOf.2.1 323 = .ok (.iload_n 2, 1) := by decide +kernel
theorem d_Mo_flowOf_324 : decode M_Mo_flowOf.2.1 324 = .ok (.if_icmp .le 7, 3) := by decide +kernel
theorem d_Mo_flowOf_327 : decode M_Mo_flowOf.2.1 327 = .ok (.iload_n 2, 1) := by decide +kernel
theorem d_Mo_flowOf_328 : decode M_Mo_flowOf.2.1 328 = .ok (.goto 5, 3) := by decide +kernel
theorem d_Mo_flowOf_331 : decode M_Mo_flowOf.2.1 331 = .ok (.iload 6, 2) := by decide +kernel
theorem d_Mo_flowOf_333 : decode M_Mo_flowOf.2.1 333 = .ok (.ireturn, 1) := by decide +kernel
theorem d_Mo_flowOf_334 : decode M_Mo_flowOf.2.1 334 = .ok (.iinc 5 1, 3) := by decide +kernel
theorem d_Mo_flowOf_337 : decode M_Mo_flowOf.2.1 337 = .ok (.goto (-128), 3) := by decide +kernel
theorem d_Mo_flowOf_340 : decode M_Mo_flowOf.2.1 340 = .ok (.iconst 0, 1) := by decide +kernel
theorem d_Mo_flowOf_341 : decode M_Mo_flowOf.2.1 341 = .ok (.ireturn, 1) := by decide +kernel
