theorem dX10_cycle_9 : decode cX10_cycle 9 = .ok (.dup2, 1) := by decide +kernel
theorem dX10_cycle_10 : decode cX10_cycle 10 = .ok (.iaload, 1) := by decide +kernel
theorem dX10_cycle_11 : decode cX10_cycle 11 = .ok (.iconst 1, 1) := by decide +kernel
theorem dX10_cycle_12 : decode cX10_cycle 12 = .ok (.iadd, 1) := by decide +kernel
theorem dX10_cycle_13 : decode cX10_cycle 13 = .ok (.iastore, 1) := by decide +kernel
theorem dX10_cycle_14 : decode cX10_cycle 14 = .ok (.aload_n 0, 1) := by decide +kernel
theorem dX10_cycle_15 : decode cX10_cycle 15 = .ok (.getfield 7, 3) := by decide +kernel
theorem dX10_cycle_18 : decode cX10_cycle 18 = .ok (.iload_n 1, 1) := by decide +kernel
theorem dX10_cycle_19 : decode cX10_cycle 19 = .ok (.sipush 221, 3) := by decide +kernel
theorem dX10_cycle_22 : decode cX10_cycle 22 = .ok (.iadd, 1) := by decide +kernel
theorem dX10_cycle_23 : decode cX10_cycle 23 = .ok (.iaload, 1) := by decide +kernel
theorem dX10_cycle_24 : decode cX10_cycle 24 = .ok (.istore_n 2, 1) := by decide +kernel
theorem dX10_cycle_25 : decode cX10_cycle 25 = .ok (.aload_n 0, 1) := by decide +kernel
theorem dX10_cycle_26 : decode cX10_cycle 26 = .ok (.getfield 7, 3) := by decide +kernel
theorem dX10_cycle_29 : decode cX10_cycle 29 = .ok (.iload_n 1, 1) := by decide +kernel
theorem dX10_cycle_30 : decode cX10_cycle 30 = .ok (.iconst 0, 1) := by decide +kernel
theorem dX10_cycle_31 : decode cX10_cycle 31 = .ok (.invokestatic 98, 3) := by decide +kernel
theorem dX10_cycle_34 : decode cX10_cycle 34 = .ok (.iconst 2, 1) := by decide +kernel
theorem dX10_cycle_35 : decode cX10_cycle 35 = .ok (.iadd, 1) := by decide +kernel
theorem dX10_cycle_36 : decode cX10_cycle 36 = .ok (.iaload, 1) := by decide +kernel
theorem dX10_cycle_37 : decode cX10_cycle 37 = .ok (.aload_n 0, 1) := by decide +kernel
theorem dX10_cycle_38 : decode cX10_cycle 38 = .ok (.getfield 7, 3) := by decide +kernel
theorem dX10_cycle_41 : decode cX10_cycle 41 = .ok (.iload_n 1, 1) := by decide +kernel
theorem dX10_cycle_42 : decode cX10_cycle 42 = .ok (.iconst 1, 1) := by decide +kernel
theorem dX10_cycle_43 : decode cX10_cycle 43 = .ok (.invokestatic 98, 3) := by decide +kernel
theorem dX10_cycle_46 : decode cX10_cycle 46 = .ok (.iconst 2, 1) := by decide +kernel
theorem dX10_cycle_47 : decode cX10_cycle 47 = .ok (.iadd, 1) := by decide +kernel
theorem dX10_cycle_48 : decode cX10_cycle 48 = .ok (.iaload, 1) := by decide +kernel
theorem dX10_cycle_49 : decode cX10_cycle 49 = .ok (.iadd, 1) := by decide +kernel
theorem dX10_cycle_50 : decode cX10_cycle 50 = .ok (.istore_n 3, 1) := by decide +kernel
theorem dX10_cycle_51 : decode cX10_cycle 51 = .ok (.aload_n 0, 1) := by decide +kernel
theorem dX10_cycle_52 : decode cX10_cycle 52 = .ok (.getfield 7, 3) := by decide +kernel
theorem dX10_cycle_55 : decode cX10_cycle 55 = .ok (.iload_n 1, 1) := by decide +kernel
theorem dX10_cycle_56 : decode cX10_cycle 56 = .ok (.iconst 0, 1) := by decide +kernel
theorem dX10_cycle_57 : decode cX10_cycle 57 = .ok (.invokestatic 98, 3) := by decide +kernel
theorem dX10_cycle_60 : decode cX10_cycle 60 = .ok (.iconst 5, 1) := by decide +kernel
theorem dX10_cycle_61 : decode cX10_cycle 61 = .ok (.iadd, 1) := by decide +kernel
theorem dX10_cycle_62 : decode cX10_cycle 62 = .ok (.iconst 0, 1) := by decide +kernel
theorem dX10_cycle_63 : decode cX10_cycle 63 = .ok (.iastore, 1) := by decide +kernel
theorem dX10_cycle_64 : decode cX10_cycle 64 = .ok (.aload_n 0, 1) := by decide +kernel
theorem dX10_cycle_65 : decode cX10_cycle 65 = .ok (.getfield 7, 3) := by decide +kernel
theorem dX10_cycle_68 : decode cX10_cycle 68 = .ok (.iload_n 1, 1) := by decide +kernel
theorem dX10_cycle_69 : decode cX10_cycle 69 = .ok (.iconst 1, 1) := by decide +kernel
theorem dX10_cycle_70 : decode cX10_cycle 70 = .ok (.invokestatic 98, 3) := by decide +kernel
theorem dX10_cycle_73 : decode cX10_cycle 73 = .ok (.iconst 5, 1) := by decide +kernel
theorem dX10_cycle_74 : decode cX10_cycle 74 = .ok (.iadd, 1) := by decide +kernel
theorem dX10_cycle_75 : decode cX10_cycle 75 = .ok (.iconst 0, 1) := by decide +kernel
theorem dX10_cycle_76 : decode cX10_cycle 76 = .ok (.iastore, 1) := by decide +kernel
theorem dX10_cycle_77 : decode cX10_cycle 77 = .ok (.aload_n 0, 1) := by decide +kernel
theorem dX10_cycle_78 : decode cX10_cycle 78 = .ok (.iload_n 1, 1) := by decide +kernel
theorem dX10_cycle_79 : decode cX10_cycle 79 = .ok (.invokevirtual 153, 3) := by decide +kernel
theorem dX10_cycle_82 : decode cX10_cycle 82 = .ok (.aload_n 0, 1) := by decide +kernel
theorem dX10_cycle_83 : decode cX10_cycle 83 = .ok (.iload_n 1, 1) := by decide +kernel
theorem dX10_cycle_84 : decode cX10_cycle 84 = .ok (.iconst 0, 1) := by decide +kernel
theorem dX10_cycle_85 : decode cX10_cycle 85 = .ok (.invokevirtual 156, 3) := by decide +kernel
theorem dX10_cycle_88 : decode cX10_cycle 88 = .ok (.ifCond .ne 8, 3) := by decide +kernel
theorem dX10_cycle_91 : decode cX10_cycle 91 = .ok (.aload_n 0, 1) := by decide +kernel
theorem dX10_cycle_92 : decode cX10_cycle 92 = .ok (.iload_n 1, 1) := by decide +kernel
theorem dX10_cycle_93 : decode cX10_cycle 93 = .ok (.invokevirtual 159, 3) := by decide +kernel
theorem dX10_cycle_96 : decode cX10_cycle 96 = .ok (.aload_n 0, 1) := by decide +kernel
theorem dX10_cycle_97 : decode cX10_cycle 97 = .ok (.iload_n 1, 1) := by decide +kernel
theorem dX10_cycle_98 : decode cX10_cycle 98 = .ok (.iconst 1, 1) := by decide +kernel
theorem dX10_cycle_99 : decode cX10_cycle 99 = .ok (.invokevirtual 156, 3) := by decide +kernel
theorem dX10_cycle_102 : decode cX10_cycle 102 = .ok (.ifCond .ne 8, 3) := by decide +kernel
theorem dX10_cycle_105 : decode cX10_cycle 105 = .ok (.aload_n 0, 1) := by decide +kernel
theorem dX10_cycle_106 : decode cX10_cycle 106 = .ok (.iload_n 1, 1) := by decide +kernel
theorem dX10_cycle_107 : decode cX10_cycle 107 = .ok (.invokevirtual 162, 3) := by decide +kernel
theorem dX10_cycle_110 : decode cX10_cycle 110 = .ok (.aload_n 0, 1) := by decide +kernel
theorem dX10_cycle_111 : decode cX10_cycle 111 = .ok (.iload_n 1, 1) := by decide +kernel
theorem dX10_cycle_112 : decode cX10_cycle 112 = .ok (.invokevirtual 165, 3) := by decide +kernel
theorem dX10_cycle_115 : decode cX10_cycle 115 = .ok (.istore 4, 2) := by decide +kernel
theorem dX10_cycle_117 : decode cX10_cycle 117 = .ok (.aload_n 0, 1) := by decide +kernel
theorem dX10_cycle_118 : decode cX10_cycle 118 = .ok (.getfield 7, 3) := by decide +kernel
theorem dX10_cycle_121 : decode cX10_cycle 121 = .ok (.iload_n 1, 1) := by decide +kernel
theorem dX10_cycle_122 : decode cX10_cycle 122 = .ok (.sipush 218, 3) := by decide +kernel
theorem dX10_cycle_125 : decode cX10_cycle 125 = .ok (.iadd, 1) := by decide +kernel
theorem dX10_cycle_126 : decode cX10_cycle 126 = .ok (.iload 4, 2) := by decide +kernel
theorem dX10_cycle_128 : decode cX10_cycle 128 = .ok (.aload_n 0, 1) := by decide +kernel
theorem dX10_cycle_129 : decode cX10_cycle 129 = .ok (.getfield 7, 3) := by decide +kernel
theorem dX10_cycle_132 : decode cX10_cycle 132 = .ok (.iload_n 1, 1) := by decide +kernel
theorem dX10_cycle_133 : decode cX10_cycle 133 = .ok (.sipush 218, 3) := by decide +kernel
theorem dX10_cycle_136 : decode cX10_cycle 136 = .ok (.iadd, 1) := by decide +kernel
theorem dX10_cycle_137 : decode cX10_cycle 137 = .ok (.iaload, 1) := by decide +kernel
theorem dX10_cycle_138 : decode cX10_cycle 138 = .ok (.if_icmp .le 8, 3) := by decide +kernel
theorem dX10_cycle_141 : decode cX10_cycle 141 = .ok (.iload 4, 2) := by decide +kernel
theorem dX10_cycle_143 : decode cX10_cycle 143 = .ok (.goto 13, 3) := by decide +kernel
theorem dX10_cycle_146 : decode cX10_cycle 146 = .ok (.aload_n 0, 1) := by decide +kernel
theorem dX10_cycle_147 : decode cX10_cycle 147 = .ok (.getfield 7, 3) := by decide +kernel
theorem dX10_cycle_150 : decode cX10_cycle 150 = .ok (.iload_n 1, 1) := by decide +kernel
theorem dX10_cycle_151 : decode cX10_cycle 151 = .ok (.sipush 218, 3) := by decide +kernel
theorem dX10_cycle_154 : decode cX10_cycle 154 = .ok (.iadd, 1) := by decide +kernel
theorem dX10_cycle_155 : decode cX10_cycle 155 = .ok (.iaload, 1) := by decide +kernel
theorem dX10_cycle_156 : decode cX10_cycle 156 = .ok (.iastore, 1) := by decide +kernel
theorem dX10_cycle_157 : decode cX10_cycle 157 = .ok (.aload_n 0, 1) := by decide +kernel
theorem dX10_cycle_158 : decode cX10_cycle 158 = .ok (.getfield 7, 3) := by decide +kernel
theorem dX10_cycle_161 : decode cX10_cycle 161 = .ok (.iload_n 1, 1) := by decide +kernel
theorem dX10_cycle_162 : decode cX10_cycle 162 = .ok (.sipush 219, 3) := by decide +kernel
theorem dX10_cycle_165 : decode cX10_cycle 165 = .ok (.iadd, 1) := by decide +kernel
theorem dX10_cycle_166 : decode cX10_cycle 166 = .ok (.iload 4, 2) := by decide +kernel
theorem dX10_cycle_168 : decode cX10_cycle 168 = .ok (.aload_n 0, 1) := by decide +kernel
theorem dX10_cycle_169 : decode cX10_cycle 169 = .ok (.getfield 7, 3) := by decide +kernel
theorem dX10_cycle_172 : decode cX10_cycle 172 = .ok (.iload_n 1, 1) := by decide +kernel
theorem dX10_cycle_173 : decode cX10_cycle 173 = .ok (.sipush 219, 3) := by decide +kernel
theorem dX10_cycle_176 : decode cX10_cycle 176 = .ok (.iadd, 1) := by decide +kernel
theorem dX10_cycle_177 : decode cX10_cycle 177 = .ok (.iaload, 1) := by decide +kernel
theorem dX10_cycle_178 : decode cX10_cycle 178 = .ok (.if_icmp .ge 8, 3) := by decide +kernel
theorem dX10_cycle_181 : decode cX10_cycle 181 = .ok (.iload 4, 2) := by decide +kernel
theorem dX10_cycle_183 : decode cX10_cycle 183 = .ok (.goto 13, 3) := by decide +kernel
theorem dX10_cycle_186 : decode cX10_cycle 186 = .ok (.aload_n 0, 1) := by decide +kernel
theorem dX10_cycle_187 : decode cX10_cycle 187 = .ok (.getfield 7, 3) := by decide +kernel
theorem dX10_cycle_190 : decode cX10_cycle 190 = .ok (.iload_n 1, 1) := by decide +kernel
theorem dX10_cycle_191 : decode cX10_cycle 191 = .ok (.sipush 219, 3) := by decide +kernel
theorem dX10_cycle_194 : decode cX10_cycle 194 = .ok (.iadd, 1) := by decide +kernel
theorem dX10_cycle_195 : decode cX10_cycle 195 = .ok (.iaload, 1) := by decide +kernel
theorem dX10_cycle_196 : decode cX10_cycle 196 = .ok (.iastore, 1) := by decide +kernel
theorem dX10_cycle_197 : decode cX10_cycle 197 = .ok (.aload_n 0, 1) := by decide +kernel
theorem dX10_cycle_198 : decode cX10_cycle 198 = .ok (.getfield 7, 3) := by decide +kernel
theorem dX10_cycle_201 : decode cX10_cycle 201 = .ok (.iload_n 1, 1) := by decide +kernel
theorem dX10_cycle_202 : decode cX10_cycle 202 = .ok (.sipush 220, 3) := by decide +kernel
theorem dX10_cycle_205 : decode cX10_cycle 205 = .ok (.iadd, 1) := by decide +kernel
theorem dX10_cycle_206 : decode cX10_cycle 206 = .ok (.dup2, 1) := by decide +kernel
theorem dX10_cycle_207 : decode cX10_cycle 207 = .ok (.iaload, 1) := by decide +kernel
theorem dX10_cycle_208 : decode cX10_cycle 208 = .ok (.iload 4, 2) := by decide +kernel
theorem dX10_cycle_210 : decode cX10_cycle 210 = .ok (.iadd, 1) := by decide +kernel
theorem dX10_cycle_211 : decode cX10_cycle 211 = .ok (.iastore, 1) := by decide +kernel
theorem dX10_cycle_212 : decode cX10_cycle 212 = .ok (.iload_n 2, 1) := by decide +kernel
theorem dX10_cycle_213 : decode cX10_cycle 213 = .ok (.aload_n 0, 1) := by decide +kernel
theorem dX10_cycle_214 : decode cX10_cycle 214 = .ok (.getfield 7, 3) := by decide +kernel
theorem dX10_cycle_217 : decode cX10_cycle 217 = .ok (.iload_n 1, 1) := by decide +kernel
theorem dX10_cycle_218 : decode cX10_cycle 218 = .ok (.sipush 221, 3) := by decide +kernel
theorem dX10_cycle_221 : decode cX10_cycle 221 = .ok (.iadd, 1) := by decide +kernel
theorem dX10_cycle_222 : decode cX10_cycle 222 = .ok (.iaload, 1) := by decide +kernel
theorem dX10_cycle_223 : decode cX10_cycle 223 = .ok (.if_icmp .ne 61, 3) := by decide +kernel
theorem dX10_cycle_226 : decode cX10_cycle 226 = .ok (.iload_n 3, 1) := by decide +kernel
theorem dX10_cycle_227 : decode cX10_cycle 227 = .ok (.aload_n 0, 1) := by decide +kernel
theorem dX10_cycle_228 : decode cX10_cycle 228 = .ok (.getfield 7, 3) := by decide +kernel
theorem dX10_cycle_231 : decode cX10_cycle 231 = .ok (.iload_n 1, 1) := by decide +kernel
theorem dX10_cycle_232 : decode cX10_cycle 232 = .ok (.iconst 0, 1) := by decide +kernel
theorem dX10_cycle_233 : decode cX10_cycle 233 = .ok (.invokestatic 98, 3) := by decide +kernel
theorem dX10_cycle_236 : decode cX10_cycle 236 = .ok (.iconst 2, 1) := by decide +kernel
theorem dX10_cycle_237 : decode cX10_cycle 237 = .ok (.iadd, 1) := by decide +kernel
theorem dX10_cycle_238 : decode cX10_cycle 238 = .ok (.iaload, 1) := by decide +kernel
theorem dX10_cycle_239 : decode cX10_cycle 239 = .ok (.aload_n 0, 1) := by decide +kernel
theorem dX10_cycle_240 : decode cX10_cycle 240 = .ok (.getfield 7, 3) := by decide +kernel
theorem dX10_cycle_243 : decode cX10_cycle 243 = .ok (.iload_n 1, 1) := by decide +kernel
theorem dX10_cycle_244 : decode cX10_cycle 244 = .ok (.iconst 1, 1) := by decide +kernel
theorem dX10_cycle_245 : decode cX10_cycle 245 = .ok (.invokestatic 98, 3) := by decide +kernel
theorem dX10_cycle_248 : decode cX10_cycle 248 = .ok (.iconst 2, 1) := by decide +kernel
theorem dX10_cycle_249 : decode cX10_cycle 249 = .ok (.iadd, 1) := by decide +kernel
theorem dX10_cycle_250 : decode cX10_cycle 250 = .ok (.iaload, 1) := by decide +kernel
theorem dX10_cycle_251 : decode cX10_cycle 251 = .ok (.iadd, 1) := by decide +kernel
theorem dX10_cycle_252 : decode cX10_cycle 252 = .ok (.if_icmp .ne 32, 3) := by decide +kernel
theorem dX10_cycle_255 : decode cX10_cycle 255 = .ok (.aload_n 0, 1) := by decide +kernel
theorem dX10_cycle_256 : decode cX10_cycle 256 = .ok (.getfield 7, 3) := by decide +kernel
theorem dX10_cycle_259 : decode cX10_cycle 259 = .ok (.iload_n 1, 1) := by decide +kernel
theorem dX10_cycle_260 : decode cX10_cycle 260 = .ok (.iconst 0, 1) := by decide +kernel
theorem dX10_cycle_261 : decode cX10_cycle 261 = .ok (.invokestatic 98, 3) := by decide +kernel
theorem dX10_cycle_264 : decode cX10_cycle 264 = .ok (.iconst 5, 1) := by decide +kernel
theorem dX10_cycle_265 : decode cX10_cycle 265 = .ok (.iadd, 1) := by decide +kernel
theorem dX10_cycle_266 : decode cX10_cycle 266 = .ok (.iaload, 1) := by decide +kernel
theorem dX10_cycle_267 : decode cX10_cycle 267 = .ok (.bipush 7, 2) := by decide +kernel
theorem dX10_cycle_269 : decode cX10_cycle 269 = .ok (.if_icmp .eq 15, 3) := by decide +kernel
theorem dX10_cycle_272 : decode cX10_cycle 272 = .ok (.aload_n 0, 1) := by decide +kernel
theorem dX10_cycle_273 : decode cX10_cycle 273 = .ok (.iload_n 1, 1) := by decide +kernel
theorem dX10_cycle_274 : decode cX10_cycle 274 = .ok (.invokevirtual 168, 3) := by decide +kernel
theorem dX10_cycle_277 : decode cX10_cycle 277 = .ok (.ifCond .eq 7, 3) := by decide +kernel
theorem dX10_cycle_280 : decode cX10_cycle 280 = .ok (.iconst 1, 1) := by decide +kernel
theorem dX10_cycle_281 : decode cX10_cycle 281 = .ok (.goto 4, 3) := by decide +kernel
theorem dX10_cycle_284 : decode cX10_cycle 284 = .ok (.iconst 0, 1) := by decide +kernel
theorem dX10_cycle_285 : decode cX10_cycle 285 = .ok (.istore 5, 2) := by decide +kernel
theorem dX10_cycle_287 : decode cX10_cycle 287 = .ok (.aload_n 0, 1) := by decide +kernel
theorem dX10_cycle_288 : decode cX10_cycle 288 = .ok (.iload_n 1, 1) := by decide +kernel
theorem dX10_cycle_289 : decode cX10_cycle 289 = .ok (.iconst 0, 1) := by decide +kernel
theorem dX10_cycle_290 : decode cX10_cycle 290 = .ok (.invokevirtual 156, 3) := by decide +kernel
theorem dX10_cycle_293 : decode cX10_cycle 293 = .ok (.ifCond .eq 25, 3) := by decide +kernel
theorem dX10_cycle_296 : decode cX10_cycle 296 = .ok (.aload_n 0, 1) := by decide +kernel
theorem dX10_cycle_297 : decode cX10_cycle 297 = .ok (.iload_n 1, 1) := by decide +kernel
theorem dX10_cycle_298 : decode cX10_cycle 298 = .ok (.iconst 1, 1) := by decide +kernel
theorem dX10_cycle_299 : decode cX10_cycle 299 = .ok (.invokevirtual 156, 3) := by decide +kernel
theorem dX10_cycle_302 : decode cX10_cycle 302 = .ok (.ifCond .eq 16, 3) := by decide +kernel
theorem dX10_cycle_305 : decode cX10_cycle 305 = .ok (.aload_n 0, 1) := by decide +kernel
theorem dX10_cycle_306 : decode cX10_cycle 306 = .ok (.iload_n 1, 1) := by decide +kernel
theorem dX10_cycle_307 : decode cX10_cycle 307 = .ok (.iconst 1, 1) := by decide +kernel
theorem dX10_cycle_308 : decode cX10_cycle 308 = .ok (.invokevirtual 86, 3) := by decide +kernel
theorem dX10_cycle_311 : decode cX10_cycle 311 = .ok (.ifCond .ne 7, 3) := by decide +kernel
theorem dX10_cycle_314 : decode cX10_cycle 314 = .ok (.iconst 1, 1) := by decide +kernel
theorem dX10_cycle_315 : decode cX10_cycle 315 = .ok (.goto 4, 3) := by decide +kernel
theorem dX10_cycle_318 : decode cX10_cycle 318 = .ok (.iconst 0, 1) := by decide +kernel
theorem dX10_cycle_319 : decode cX10_cycle 319 = .ok (.istore 6, 2) := by decide +kernel
theorem dX10_cycle_321 : decode cX10_cycle 321 = .ok (.aload_n 0, 1) := by decide +kernel
theorem dX10_cycle_322 : decode cX10_cycle 322 = .ok (.getfield 7, 3) := by decide +kernel
theorem dX10_cycle_325 : decode cX10_cycle 325 = .ok (.iload_n 1, 1) := by decide +kernel
theorem dX10_cycle_326 : decode cX10_cycle 326 = .ok (.sipush 171, 3) := by decide +kernel
theorem dX10_cycle_329 : decode cX10_cycle 329 = .ok (.iadd, 1) := by decide +kernel
theorem dX10_cycle_330 : decode cX10_cycle 330 = .ok (.iload 6, 2) := by decide +kernel
theorem dX10_cycle_332 : decode cX10_cycle 332 = .ok (.ifCond .eq 7, 3) := by decide +kernel
theorem dX10_cycle_335 : decode cX10_cycle 335 = .ok (.iconst 1, 1) := by decide +kernel
theorem dX10_cycle_336 : decode cX10_cycle 336 = .ok (.goto 33, 3) := by decide +kernel
theorem dX10_cycle_339 : decode cX10_cycle 339 = .ok (.iload 5, 2) := by decide +kernel
theorem dX10_cycle_341 : decode cX10_cycle 341 = .ok (.ifCond .eq 7, 3) := by decide +kernel
theorem dX10_cycle_344 : decode cX10_cycle 344 = .ok (.iconst 2, 1) := by decide +kernel
theorem dX10_cycle_345 : decode cX10_cycle 345 = .ok (.goto 24, 3) := by decide +kernel
theorem dX10_cycle_348 : decode cX10_cycle 348 = .ok (.aload_n 0, 1) := by decide +kernel
theorem dX10_cycle_349 : decode cX10_cycle 349 = .ok (.getfield 7, 3) := by decide +kernel
theorem dX10_cycle_352 : decode cX10_cycle 352 = .ok (.iload_n 1, 1) := by decide +kernel
theorem dX10_cycle_353 : decode cX10_cycle 353 = .ok (.sipush 170, 3) := by decide +kernel
theorem dX10_cycle_356 : decode cX10_cycle 356 = .ok (.iadd, 1) := by decide +kernel
theorem dX10_cycle_357 : decode cX10_cycle 357 = .ok (.iaload, 1) := by decide +kernel
theorem dX10_cycle_358 : decode cX10_cycle 358 = .ok (.sipush 999, 3) := by decide +kernel
theorem dX10_cycle_361 : decode cX10_cycle 361 = .ok (.if_icmp .ne 7, 3) := by decide +kernel
theorem dX10_cycle_364 : decode cX10_cycle 364 = .ok (.iconst 3, 1) := by decide +kernel
theorem dX10_cycle_365 : decode cX10_cycle 365 = .ok (.goto 4, 3) := by decide +kernel
theorem dX10_cycle_368 : decode cX10_cycle 368 = .ok (.iconst 0, 1) := by decide +kernel
theorem dX10_cycle_369 : decode cX10_cycle 369 = .ok (.iastore, 1) := by decide +kernel
theorem dX10_cycle_370 : decode cX10_cycle 370 = .ok (.return_, 1) := by decide +kernel
theorem dX10_goes_0 : decode cX10_goes 0 = .ok (.iconst 0, 1) := by decide +kernel
theorem dX10_goes_1 : decode cX10_goes 1 = .ok (.istore_n 3, 1) := by decide +kernel
theorem dX10_goes_2 : decode cX10_goes 2 = .ok (.iload_n 3, 1) := by decide +kernel
theorem dX10_goes_3 : decode cX10_goes 3 = .ok (.iload_n 2, 1) := by decide +kernel
theorem dX10_goes_4 : decode cX10_goes 4 = .ok (.if_icmp .ge 27, 3) := by decide +kernel
theorem dX10_goes_7 : decode cX10_goes 7 = .ok (.aload_n 0, 1) := by decide +kernel
theorem dX10_goes_8 : decode cX10_goes 8 = .ok (.getfield 7, 3) := by decide +kernel
theorem dX10_goes_11 : decode cX10_goes 11 = .ok (.iload_n 1, 1) := by decide +kernel
theorem dX10_goes_12 : decode cX10_goes 12 = .ok (.sipush 171, 3) := by decide +kernel
theorem dX10_goes_15 : decode cX10_goes 15 = .ok (.iadd, 1) := by decide +kernel
theorem dX10_goes_16 : decode cX10_goes 16 = .ok (.iaload, 1) := by decide +kernel
theorem dX10_goes_17 : decode cX10_goes 17 = .ok (.ifCond .ne 14, 3) := by decide +kernel
theorem dX10_goes_20 : decode cX10_goes 20 = .ok (.aload_n 0, 1) := by decide +kernel
theorem dX10_goes_21 : decode cX10_goes 21 = .ok (.iload_n 1, 1) := by decide +kernel
theorem dX10_goes_22 : decode cX10_goes 22 = .ok (.invokevirtual 171, 3) := by decide +kernel
theorem dX10_goes_25 : decode cX10_goes 25 = .ok (.iinc 3 1, 3) := by decide +kernel
theorem dX10_goes_28 : decode cX10_goes 28 = .ok (.goto (-26), 3) := by decide +kernel
theorem dX10_goes_31 : decode cX10_goes 31 = .ok (.iload_n 3, 1) := by decide +kernel
theorem dX10_goes_32 : decode cX10_goes 32 = .ok (.ireturn, 1) := by decide +kernel
theorem dX10_counts_0 : decode cX10_counts 0 = .ok (.iload_n 2, 1) := by decide +kernel
theorem dX10_counts_1 : decode cX10_counts 1 = .ok (.tableswitch 219 0 11 #[63, 74, 85, 95, 105, 114, 120, 131, 142, 153, 203, 208], 63) := by decide +kernel
theorem dX10_counts_64 : decode cX10_counts 64 = .ok (.aload_n 0, 1) := by decide +kernel
theorem dX10_counts_65 : decode cX10_counts 65 = .ok (.getfield 7, 3) := by decide +kernel
theorem dX10_counts_68 : decode cX10_counts 68 = .ok (.iload_n 1, 1) := by decide +kernel
theorem dX10_counts_69 : decode cX10_counts 69 = .ok (.sipush 170, 3) := by decide +kernel
theorem dX10_counts_72 : decode cX10_counts 72 = .ok (.iadd, 1) := by decide +kernel
theorem dX10_counts_73 : decode cX10_counts 73 = .ok (.iaload, 1) := by decide +kernel
theorem dX10_counts_74 : decode cX10_counts 74 = .ok (.ireturn, 1) := by decide +kernel
theorem dX10_counts_75 : decode cX10_counts 75 = .ok (.aload_n 0, 1) := by decide +kernel
theorem dX10_counts_76 : decode cX10_counts 76 = .ok (.getfield 7, 3) := by decide +kernel
theorem dX10_counts_79 : decode cX10_counts 79 = .ok (.iload_n 1, 1) := by decide +kernel
theorem dX10_counts_80 : decode cX10_counts 80 = .ok (.sipush 171, 3) := by decide +kernel
theorem dX10_counts_83 : decode cX10_counts 83 = .ok (.iadd, 1) := by decide +kernel
theorem dX10_counts_84 : decode cX10_counts 84 = .ok (.iaload, 1) := by decide +kernel
theorem dX10_counts_85 : decode cX10_counts 85 = .ok (.ireturn, 1) := by decide +kernel
theorem dX10_counts_86 : decode cX10_counts 86 = .ok (.aload_n 0, 1) := by decide +kernel
theorem dX10_counts_87 : decode cX10_counts 87 = .ok (.getfield 7, 3) := by decide +kernel
theorem dX10_counts_90 : decode cX10_counts 90 = .ok (.iload_n 1, 1) := by decide +kernel
theorem dX10_counts_91 : decode cX10_counts 91 = .ok (.bipush 48, 2) := by decide +kernel
theorem dX10_counts_93 : decode cX10_counts 93 = .ok (.iadd, 1) := by decide +kernel
theorem dX10_counts_94 : decode cX10_counts 94 = .ok (.iaload, 1) := by decide +kernel
theorem dX10_counts_95 : decode cX10_counts 95 = .ok (.ireturn, 1) := by decide +kernel
theorem dX10_counts_96 : decode cX10_counts 96 = .ok (.aload_n 0, 1) := by decide +kernel
theorem dX10_counts_97 : decode cX10_counts 97 = .ok (.getfield 7, 3) := by decide +kernel
theorem dX10_counts_100 : decode cX10_counts 100 = .ok (.iload_n 1, 1) := by decide +kernel
theorem dX10_counts_101 : decode cX10_counts 101 = .ok (.bipush 49, 2) := by decide +kernel
theorem dX10_counts_103 : decode cX10_counts 103 = .ok (.iadd, 1) := by decide +kernel
theorem dX10_counts_104 : decode cX10_counts 104 = .ok (.iaload, 1) := by decide +kernel
theorem dX10_counts_105 : decode cX10_counts 105 = .ok (.ireturn, 1) := by decide +kernel
theorem dX10_counts_106 : decode cX10_counts 106 = .ok (.aload_n 0, 1) := by decide +kernel
theorem dX10_counts_107 : decode cX10_counts 107 = .ok (.getfield 7, 3) := by decide +kernel
theorem dX10_counts_110 : decode cX10_counts 110 = .ok (.iload_n 1, 1) := by decide +kernel
theorem dX10_counts_111 : decode cX10_counts 111 = .ok (.iconst 0, 1) := by decide +kernel
theorem dX10_counts_112 : decode cX10_counts 112 = .ok (.iadd, 1) := by decide +kernel
theorem dX10_counts_113 : decode cX10_counts 113 = .ok (.iaload, 1) := by decide +kernel
theorem dX10_counts_114 : decode cX10_counts 114 = .ok (.ireturn, 1) := by decide +kernel
theorem dX10_counts_115 : decode cX10_counts 115 = .ok (.aload_n 0, 1) := by decide +kernel
theorem dX10_counts_116 : decode cX10_counts 116 = .ok (.iload_n 1, 1) := by decide +kernel
theorem dX10_counts_117 : decode cX10_counts 117 = .ok (.invokevirtual 165, 3) := by decide +kernel
theorem dX10_counts_120 : decode cX10_counts 120 = .ok (.ireturn, 1) := by decide +kernel
theorem dX10_counts_121 : decode cX10_counts 121 = .ok (.aload_n 0, 1) := by decide +kernel
theorem dX10_counts_122 : decode cX10_counts 122 = .ok (.getfield 7, 3) := by decide +kernel
theorem dX10_counts_125 : decode cX10_counts 125 = .ok (.iload_n 1, 1) := by decide +kernel
theorem dX10_counts_126 : decode cX10_counts 126 = .ok (.sipush 218, 3) := by decide +kernel
theorem dX10_counts_129 : decode cX10_counts 129 = .ok (.iadd, 1) := by decide +kernel
theorem dX10_counts_130 : decode cX10_counts 130 = .ok (.iaload, 1) := by decide +kernel
theorem dX10_counts_131 : decode cX10_counts 131 = .ok (.ireturn, 1) := by decide +kernel
theorem dX10_counts_132 : decode cX10_counts 132 = .ok (.aload_n 0, 1) := by decide +kernel
theorem dX10_counts_133 : decode cX10_counts 133 = .ok (.getfield 7, 3) := by decide +kernel
theorem dX10_counts_136 : decode cX10_counts 136 = .ok (.iload_n 1, 1) := by decide +kernel
theorem dX10_counts_137 : decode cX10_counts 137 = .ok (.sipush 219, 3) := by decide +kernel
theorem dX10_counts_140 : decode cX10_counts 140 = .ok (.iadd, 1) := by decide +kernel
theorem dX10_counts_141 : decode cX10_counts 141 = .ok (.iaload, 1) := by decide +kernel
theorem dX10_counts_142 : decode cX10_counts 142 = .ok (.ireturn, 1) := by decide +kernel
theorem dX10_counts_143 : decode cX10_counts 143 = .ok (.aload_n 0, 1) := by decide +kernel
theorem dX10_counts_144 : decode cX10_counts 144 = .ok (.getfield 7, 3) := by decide +kernel
theorem dX10_counts_147 : decode cX10_counts 147 = .ok (.iload_n 1, 1) := by decide +kernel
theorem dX10_counts_148 : decode cX10_counts 148 = .ok (.sipush 220, 3) := by decide +kernel
theorem dX10_counts_151 : decode cX10_counts 151 = .ok (.iadd, 1) := by decide +kernel
theorem dX10_counts_152 : decode cX10_counts 152 = .ok (.iaload, 1) := by decide +kernel
theorem dX10_counts_153 : decode cX10_counts 153 = .ok (.ireturn, 1) := by decide +kernel
theorem dX10_counts_154 : decode cX10_counts 154 = .ok (.aload_n 0, 1) := by decide +kernel
theorem dX10_counts_155 : decode cX10_counts 155 = .ok (.getfield 7, 3) := by decide +kernel
theorem dX10_counts_158 : decode cX10_counts 158 = .ok (.iload_n 1, 1) := by decide +kernel
theorem dX10_counts_159 : decode cX10_counts 159 = .ok (.iconst 0, 1) := by decide +kernel
theorem dX10_counts_160 : decode cX10_counts 160 = .ok (.invokestatic 98, 3) := by decide +kernel
theorem dX10_counts_163 : decode cX10_counts 163 = .ok (.bipush 6, 2) := by decide +kernel
theorem dX10_counts_165 : decode cX10_counts 165 = .ok (.iadd, 1) := by decide +kernel
theorem dX10_counts_166 : decode cX10_counts 166 = .ok (.iconst 5, 1) := by decide +kernel
theorem dX10_counts_167 : decode cX10_counts 167 = .ok (.iadd, 1) := by decide +kernel
theorem dX10_counts_168 : decode cX10_counts 168 = .ok (.iaload, 1) := by decide +kernel
theorem dX10_counts_169 : decode cX10_counts 169 = .ok (.aload_n 0, 1) := by decide +kernel
theorem dX10_counts_170 : decode cX10_counts 170 = .ok (.getfield 7, 3) := by decide +kernel
theorem dX10_counts_173 : decode cX10_counts 173 = .ok (.iload_n 1, 1) := by decide +kernel
theorem dX10_counts_174 : decode cX10_counts 174 = .ok (.iconst 0, 1) := by decide +kernel
theorem dX10_counts_175 : decode cX10_counts 175 = .ok (.invokestatic 98, 3) := by decide +kernel
theorem dX10_counts_178 : decode cX10_counts 178 = .ok (.bipush 6, 2) := by decide +kernel
theorem dX10_counts_180 : decode cX10_counts 180 = .ok (.iadd, 1) := by decide +kernel
theorem dX10_counts_181 : decode cX10_counts 181 = .ok (.bipush 6, 2) := by decide +kernel
theorem dX10_counts_183 : decode cX10_counts 183 = .ok (.iadd, 1) := by decide +kernel
theorem dX10_counts_184 : decode cX10_counts 184 = .ok (.iaload, 1) := by decide +kernel
theorem dX10_counts_185 : decode cX10_counts 185 = .ok (.iadd, 1) := by decide +kernel
theorem dX10_counts_186 : decode cX10_counts 186 = .ok (.aload_n 0, 1) := by decide +kernel
theorem dX10_counts_187 : decode cX10_counts 187 = .ok (.getfield 7, 3) := by decide +kernel
theorem dX10_counts_190 : decode cX10_counts 190 = .ok (.iload_n 1, 1) := by decide +kernel
theorem dX10_counts_191 : decode cX10_counts 191 = .ok (.iconst 0, 1) := by decide +kernel
theorem dX10_counts_192 : decode cX10_counts 192 = .ok (.invokestatic 98, 3) := by decide +kernel
theorem dX10_counts_195 : decode cX10_counts 195 = .ok (.bipush 6, 2) := by decide +kernel
theorem dX10_counts_197 : decode cX10_counts 197 = .ok (.iadd, 1) := by decide +kernel
theorem dX10_counts_198 : decode cX10_counts 198 = .ok (.bipush 7, 2) := by decide +kernel
theorem dX10_counts_200 : decode cX10_counts 200 = .ok (.iadd, 1) := by decide +kernel
theorem dX10_counts_201 : decode cX10_counts 201 = .ok (.iaload, 1) := by decide +kernel
theorem dX10_counts_202 : decode cX10_counts 202 = .ok (.iadd, 1) := by decide +kernel
theorem dX10_counts_203 : decode cX10_counts 203 = .ok (.ireturn, 1) := by decide +kernel
theorem dX10_counts_204 : decode cX10_counts 204 = .ok (.aload_n 0, 1) := by decide +kernel
theorem dX10_counts_205 : decode cX10_counts 205 = .ok (.getfield 174, 3) := by decide +kernel
theorem dX10_counts_208 : decode cX10_counts 208 = .ok (.ireturn, 1) := by decide +kernel
theorem dX10_counts_209 : decode cX10_counts 209 = .ok (.aload_n 0, 1) := by decide +kernel
theorem dX10_counts_210 : decode cX10_counts 210 = .ok (.getfield 7, 3) := by decide +kernel
theorem dX10_counts_213 : decode cX10_counts 213 = .ok (.iload_n 1, 1) := by decide +kernel
theorem dX10_counts_214 : decode cX10_counts 214 = .ok (.sipush 221, 3) := by decide +kernel
theorem dX10_counts_217 : decode cX10_counts 217 = .ok (.iadd, 1) := by decide +kernel
theorem dX10_counts_218 : decode cX10_counts 218 = .ok (.iaload, 1) := by decide +kernel
theorem dX10_counts_219 : decode cX10_counts 219 = .ok (.ireturn, 1) := by decide +kernel
theorem dX10_counts_220 : decode cX10_counts 220 = .ok (.iconst (-1), 1) := by decide +kernel
theorem dX10_counts_221 : decode cX10_counts 221 = .ok (.ireturn, 1) := by decide +kernel
theorem dX10_tries_0 : decode cX10_tries 0 = .ok (.aload_n 0, 1) := by decide +kernel
theorem dX10_tries_1 : decode cX10_tries 1 = .ok (.iconst 0, 1) := by decide +kernel
theorem dX10_tries_2 : decode cX10_tries 2 = .ok (.sipush 516, 3) := by decide +kernel
theorem dX10_tries_5 : decode cX10_tries 5 = .ok (.invokevirtual 177, 3) := by decide +kernel
theorem dX10_tries_8 : decode cX10_tries 8 = .ok (.aload_n 0, 1) := by decide +kernel
theorem dX10_tries_9 : decode cX10_tries 9 = .ok (.sipush 516, 3) := by decide +kernel
theorem dX10_tries_12 : decode cX10_tries 12 = .ok (.invokevirtual 47, 3) := by decide +kernel
theorem dX10_tries_15 : decode cX10_tries 15 = .ok (.return_, 1) := by decide +kernel
theorem dX10_ending_0 : decode cX10_ending 0 = .ok (.aload_n 0, 1) := by decide +kernel
theorem dX10_ending_1 : decode cX10_ending 1 = .ok (.sipush 516, 3) := by decide +kernel
theorem dX10_ending_4 : decode cX10_ending 4 = .ok (.sipush 999, 3) := by decide +kernel
theorem dX10_ending_7 : decode cX10_ending 7 = .ok (.invokevirtual 180, 3) := by decide +kernel
theorem dX10_ending_10 : decode cX10_ending 10 = .ok (.istore_n 1, 1) := by decide +kernel
theorem dX10_ending_11 : decode cX10_ending 11 = .ok (.aload_n 0, 1) := by decide +kernel
theorem dX10_ending_12 : decode cX10_ending 12 = .ok (.getfield 7, 3) := by decide +kernel
theorem dX10_ending_15 : decode cX10_ending 15 = .ok (.sipush 687, 3) := by decide +kernel
theorem dX10_ending_18 : decode cX10_ending 18 = .ok (.iaload, 1) := by decide +kernel
theorem dX10_ending_19 : decode cX10_ending 19 = .ok (.iconst 1, 1) := by decide +kernel
theorem dX10_ending_20 : decode cX10_ending 20 = .ok (.if_icmp .ne 14, 3) := by decide +kernel
theorem dX10_ending_23 : decode cX10_ending 23 = .ok (.aload_n 0, 1) := by decide +kernel
theorem dX10_ending_24 : decode cX10_ending 24 = .ok (.getfield 7, 3) := by decide +kernel
theorem dX10_ending_27 : decode cX10_ending 27 = .ok (.sipush 686, 3) := by decide +kernel
theorem dX10_ending_30 : decode cX10_ending 30 = .ok (.iaload, 1) := by decide +kernel
theorem dX10_ending_31 : decode cX10_ending 31 = .ok (.goto 4, 3) := by decide +kernel
theorem dX10_ending_34 : decode cX10_ending 34 = .ok (.iconst (-1), 1) := by decide +kernel
theorem dX10_ending_35 : decode cX10_ending 35 = .ok (.ireturn, 1) := by decide +kernel
theorem dX10_time_0 : decode cX10_time 0 = .ok (.aload_n 0, 1) := by decide +kernel
theorem dX10_time_1 : decode cX10_time 1 = .ok (.invokevirtual 183, 3) := by decide +kernel
theorem dX10_time_4 : decode cX10_time 4 = .ok (.aload_n 0, 1) := by decide +kernel
theorem dX10_time_5 : decode cX10_time 5 = .ok (.invokevirtual 186, 3) := by decide +kernel
theorem dX10_time_8 : decode cX10_time 8 = .ok (.ireturn, 1) := by decide +kernel
theorem dX10_late_0 : decode cX10_late 0 = .ok (.iload_n 1, 1) := by decide +kernel
theorem dX10_late_1 : decode cX10_late 1 = .ok (.iconst 1, 1) := by decide +kernel
theorem dX10_late_2 : decode cX10_late 2 = .ok (.bipush 9, 2) := by decide +kernel
theorem dX10_late_4 : decode cX10_late 4 = .ok (.invokestatic 190, 3) := by decide +kernel
theorem dX10_late_7 : decode cX10_late 7 = .ok (.ifCond .ne 5, 3) := by decide +kernel
theorem dX10_late_10 : decode cX10_late 10 = .ok (.iconst (-1), 1) := by decide +kernel
theorem dX10_late_11 : decode cX10_late 11 = .ok (.ireturn, 1) := by decide +kernel
theorem dX10_late_12 : decode cX10_late 12 = .ok (.aload_n 0, 1) := by decide +kernel
theorem dX10_late_13 : decode cX10_late 13 = .ok (.invokevirtual 183, 3) := by decide +kernel
theorem dX10_late_16 : decode cX10_late 16 = .ok (.aload_n 0, 1) := by decide +kernel
theorem dX10_late_17 : decode cX10_late 17 = .ok (.getfield 7, 3) := by decide +kernel
theorem dX10_late_20 : decode cX10_late 20 = .ok (.sipush 516, 3) := by decide +kernel
theorem dX10_late_23 : decode cX10_late 23 = .ok (.iload_n 1, 1) := by decide +kernel
theorem dX10_late_24 : decode cX10_late 24 = .ok (.iastore, 1) := by decide +kernel
theorem dX10_late_25 : decode cX10_late 25 = .ok (.aload_n 0, 1) := by decide +kernel
theorem dX10_late_26 : decode cX10_late 26 = .ok (.invokevirtual 186, 3) := by decide +kernel
theorem dX10_late_29 : decode cX10_late 29 = .ok (.ireturn, 1) := by decide +kernel
theorem dX10_keeping_0 : decode cX10_keeping 0 = .ok (.iload_n 1, 1) := by decide +kernel
theorem dX10_keeping_1 : decode cX10_keeping 1 = .ok (.iconst 0, 1) := by decide +kernel
theorem dX10_keeping_2 : decode cX10_keeping 2 = .ok (.bipush 7, 2) := by decide +kernel
theorem dX10_keeping_4 : decode cX10_keeping 4 = .ok (.invokestatic 190, 3) := by decide +kernel
theorem dX10_keeping_7 : decode cX10_keeping 7 = .ok (.ifCond .ne 5, 3) := by decide +kernel
theorem dX10_keeping_10 : decode cX10_keeping 10 = .ok (.iconst (-1), 1) := by decide +kernel
theorem dX10_keeping_11 : decode cX10_keeping 11 = .ok (.ireturn, 1) := by decide +kernel
theorem dX10_keeping_12 : decode cX10_keeping 12 = .ok (.aload_n 0, 1) := by decide +kernel
theorem dX10_keeping_13 : decode cX10_keeping 13 = .ok (.iconst 0, 1) := by decide +kernel
theorem dX10_keeping_14 : decode cX10_keeping 14 = .ok (.sipush 516, 3) := by decide +kernel
theorem dX10_keeping_17 : decode cX10_keeping 17 = .ok (.invokevirtual 177, 3) := by decide +kernel
theorem dX10_keeping_20 : decode cX10_keeping 20 = .ok (.aload_n 0, 1) := by decide +kernel
theorem dX10_keeping_21 : decode cX10_keeping 21 = .ok (.getfield 7, 3) := by decide +kernel
theorem dX10_keeping_24 : decode cX10_keeping 24 = .ok (.sipush 563, 3) := by decide +kernel
theorem dX10_keeping_27 : decode cX10_keeping 27 = .ok (.dup2, 1) := by decide +kernel
theorem dX10_keeping_28 : decode cX10_keeping 28 = .ok (.iaload, 1) := by decide +kernel
theorem dX10_keeping_29 : decode cX10_keeping 29 = .ok (.aload_n 0, 1) := by decide +kernel
theorem dX10_keeping_30 : decode cX10_keeping 30 = .ok (.iconst 0, 1) := by decide +kernel
theorem dX10_keeping_31 : decode cX10_keeping 31 = .ok (.iload_n 1, 1) := by decide +kernel
theorem dX10_keeping_32 : decode cX10_keeping 32 = .ok (.invokevirtual 70, 3) := by decide +kernel
theorem dX10_keeping_35 : decode cX10_keeping 35 = .ok (.ifCond .eq 7, 3) := by decide +kernel
theorem dX10_keeping_38 : decode cX10_keeping 38 = .ok (.iconst 0, 1) := by decide +kernel
theorem dX10_keeping_39 : decode cX10_keeping 39 = .ok (.goto 6, 3) := by decide +kernel
theorem dX10_keeping_42 : decode cX10_keeping 42 = .ok (.iconst 1, 1) := by decide +kernel
theorem dX10_keeping_43 : decode cX10_keeping 43 = .ok (.iload_n 1, 1) := by decide +kernel
theorem dX10_keeping_44 : decode cX10_keeping 44 = .ok (.ishl, 1) := by decide +kernel
theorem dX10_keeping_45 : decode cX10_keeping 45 = .ok (.ior, 1) := by decide +kernel
theorem dX10_keeping_46 : decode cX10_keeping 46 = .ok (.iastore, 1) := by decide +kernel
theorem dX10_keeping_47 : decode cX10_keeping 47 = .ok (.aload_n 0, 1) := by decide +kernel
theorem dX10_keeping_48 : decode cX10_keeping 48 = .ok (.sipush 516, 3) := by decide +kernel
theorem dX10_keeping_51 : decode cX10_keeping 51 = .ok (.invokevirtual 47, 3) := by decide +kernel
theorem dX10_keeping_54 : decode cX10_keeping 54 = .ok (.aload_n 0, 1) := by decide +kernel
theorem dX10_keeping_55 : decode cX10_keeping 55 = .ok (.invokevirtual 186, 3) := by decide +kernel
theorem dX10_keeping_58 : decode cX10_keeping 58 = .ok (.ireturn, 1) := by decide +kernel
theorem dX10_best_0 : decode cX10_best 0 = .ok (.aload_n 0, 1) := by decide +kernel
theorem dX10_best_1 : decode cX10_best 1 = .ok (.invokevirtual 193, 3) := by decide +kernel
theorem dX10_best_4 : decode cX10_best 4 = .ok (.istore_n 1, 1) := by decide +kernel
theorem dX10_best_5 : decode cX10_best 5 = .ok (.iconst (-1), 1) := by decide +kernel
theorem dX10_best_6 : decode cX10_best 6 = .ok (.istore_n 2, 1) := by decide +kernel
theorem dX10_best_7 : decode cX10_best 7 = .ok (.iconst 0, 1) := by decide +kernel
theorem dX10_best_8 : decode cX10_best 8 = .ok (.istore_n 3, 1) := by decide +kernel
theorem dX10_best_9 : decode cX10_best 9 = .ok (.iload_n 3, 1) := by decide +kernel
theorem dX10_best_10 : decode cX10_best 10 = .ok (.bipush 8, 2) := by decide +kernel
theorem dX10_best_12 : decode cX10_best 12 = .ok (.if_icmp .ge 53, 3) := by decide +kernel
theorem dX10_best_15 : decode cX10_best 15 = .ok (.aload_n 0, 1) := by decide +kernel
theorem dX10_best_16 : decode cX10_best 16 = .ok (.iconst 0, 1) := by decide +kernel
theorem dX10_best_17 : decode cX10_best 17 = .ok (.iload_n 3, 1) := by decide +kernel
theorem dX10_best_18 : decode cX10_best 18 = .ok (.invokevirtual 70, 3) := by decide +kernel
theorem dX10_best_21 : decode cX10_best 21 = .ok (.ifCond .eq 6, 3) := by decide +kernel
theorem dX10_best_24 : decode cX10_best 24 = .ok (.goto 35, 3) := by decide +kernel
theorem dX10_best_27 : decode cX10_best 27 = .ok (.aload_n 0, 1) := by decide +kernel
theorem dX10_best_28 : decode cX10_best 28 = .ok (.iload_n 3, 1) := by decide +kernel
theorem dX10_best_29 : decode cX10_best 29 = .ok (.invokevirtual 196, 3) := by decide +kernel
theorem dX10_best_32 : decode cX10_best 32 = .ok (.istore 4, 2) := by decide +kernel
theorem dX10_best_34 : decode cX10_best 34 = .ok (.iload 4, 2) := by decide +kernel
theorem dX10_best_36 : decode cX10_best 36 = .ok (.iconst (-1), 1) := by decide +kernel
theorem dX10_best_37 : decode cX10_best 37 = .ok (.if_icmp .eq 22, 3) := by decide +kernel
theorem dX10_best_40 : decode cX10_best 40 = .ok (.iload_n 1, 1) := by decide +kernel
theorem dX10_best_41 : decode cX10_best 41 = .ok (.iconst (-1), 1) := by decide +kernel
theorem dX10_best_42 : decode cX10_best 42 = .ok (.if_icmp .eq 12, 3) := by decide +kernel
theorem dX10_best_45 : decode cX10_best 45 = .ok (.iload 4, 2) := by decide +kernel
theorem dX10_best_47 : decode cX10_best 47 = .ok (.iload_n 1, 1) := by decide +kernel
theorem dX10_best_48 : decode cX10_best 48 = .ok (.if_icmp .lt 6, 3) := by decide +kernel
theorem dX10_best_51 : decode cX10_best 51 = .ok (.goto 8, 3) := by decide +kernel
theorem dX10_best_54 : decode cX10_best 54 = .ok (.iload_n 3, 1) := by decide +kernel
theorem dX10_best_55 : decode cX10_best 55 = .ok (.istore_n 2, 1) := by decide +kernel
theorem dX10_best_56 : decode cX10_best 56 = .ok (.iload 4, 2) := by decide +kernel
theorem dX10_best_58 : decode cX10_best 58 = .ok (.istore_n 1, 1) := by decide +kernel
theorem dX10_best_59 : decode cX10_best 59 = .ok (.iinc 3 1, 3) := by decide +kernel
theorem dX10_best_62 : decode cX10_best 62 = .ok (.goto (-53), 3) := by decide +kernel
theorem dX10_best_65 : decode cX10_best 65 = .ok (.iload_n 2, 1) := by decide +kernel
theorem dX10_best_66 : decode cX10_best 66 = .ok (.ireturn, 1) := by decide +kernel
theorem dX10_timeBy_0 : decode cX10_timeBy 0 = .ok (.aload_n 0, 1) := by decide +kernel
theorem dX10_timeBy_1 : decode cX10_timeBy 1 = .ok (.invokevirtual 183, 3) := by decide +kernel
theorem dX10_timeBy_4 : decode cX10_timeBy 4 = .ok (.aload_n 0, 1) := by decide +kernel
theorem dX10_timeBy_5 : decode cX10_timeBy 5 = .ok (.getfield 7, 3) := by decide +kernel
theorem dX10_timeBy_8 : decode cX10_timeBy 8 = .ok (.sipush 688, 3) := by decide +kernel
theorem dX10_timeBy_11 : decode cX10_timeBy 11 = .ok (.iload_n 1, 1) := by decide +kernel
theorem dX10_timeBy_12 : decode cX10_timeBy 12 = .ok (.iadd, 1) := by decide +kernel
theorem dX10_timeBy_13 : decode cX10_timeBy 13 = .ok (.iload_n 2, 1) := by decide +kernel
theorem dX10_timeBy_14 : decode cX10_timeBy 14 = .ok (.iastore, 1) := by decide +kernel
theorem dX10_timeBy_15 : decode cX10_timeBy 15 = .ok (.aload_n 0, 1) := by decide +kernel
theorem dX10_timeBy_16 : decode cX10_timeBy 16 = .ok (.invokevirtual 186, 3) := by decide +kernel
theorem dX10_timeBy_19 : decode cX10_timeBy 19 = .ok (.ireturn, 1) := by decide +kernel
theorem dX10_least_0 : decode cX10_least 0 = .ok (.iload_n 1, 1) := by decide +kernel
theorem dX10_least_1 : decode cX10_least 1 = .ok (.iconst 0, 1) := by decide +kernel
theorem dX10_least_2 : decode cX10_least 2 = .ok (.iconst 5, 1) := by decide +kernel
theorem dX10_least_3 : decode cX10_least 3 = .ok (.invokestatic 190, 3) := by decide +kernel
theorem dX10_least_6 : decode cX10_least 6 = .ok (.ifCond .ne 5, 3) := by decide +kernel
theorem dX10_least_9 : decode cX10_least 9 = .ok (.iconst (-1), 1) := by decide +kernel
theorem dX10_least_10 : decode cX10_least 10 = .ok (.ireturn, 1) := by decide +kernel
theorem dX10_least_11 : decode cX10_least 11 = .ok (.aload_n 0, 1) := by decide +kernel
theorem dX10_least_12 : decode cX10_least 12 = .ok (.iload_n 1, 1) := by decide +kernel
theorem dX10_least_13 : decode cX10_least 13 = .ok (.bipush 6, 2) := by decide +kernel
theorem dX10_least_15 : decode cX10_least 15 = .ok (.invokevirtual 199, 3) := by decide +kernel
theorem dX10_least_18 : decode cX10_least 18 = .ok (.istore_n 3, 1) := by decide +kernel
theorem dX10_least_19 : decode cX10_least 19 = .ok (.iload_n 2, 1) := by decide +kernel
theorem dX10_least_20 : decode cX10_least 20 = .ok (.ifCond .eq 10, 3) := by decide +kernel
theorem dX10_least_23 : decode cX10_least 23 = .ok (.iload_n 3, 1) := by decide +kernel
theorem dX10_least_24 : decode cX10_least 24 = .ok (.iconst (-1), 1) := by decide +kernel
theorem dX10_least_25 : decode cX10_least 25 = .ok (.if_icmp .ne 5, 3) := by decide +kernel
theorem dX10_least_28 : decode cX10_least 28 = .ok (.iconst (-1), 1) := by decide +kernel
theorem dX10_least_29 : decode cX10_least 29 = .ok (.ireturn, 1) := by decide +kernel
theorem dX10_least_30 : decode cX10_least 30 = .ok (.iconst 1, 1) := by decide +kernel
theorem dX10_least_31 : decode cX10_least 31 = .ok (.istore 4, 2) := by decide +kernel
theorem dX10_least_33 : decode cX10_least 33 = .ok (.iload 4, 2) := by decide +kernel
theorem dX10_least_35 : decode cX10_least 35 = .ok (.bipush 6, 2) := by decide +kernel
theorem dX10_least_37 : decode cX10_least 37 = .ok (.if_icmp .gt 46, 3) := by decide +kernel
theorem dX10_least_40 : decode cX10_least 40 = .ok (.aload_n 0, 1) := by decide +kernel
theorem dX10_least_41 : decode cX10_least 41 = .ok (.iload_n 1, 1) := by decide +kernel
theorem dX10_least_42 : decode cX10_least 42 = .ok (.iload 4, 2) := by decide +kernel
theorem dX10_least_44 : decode cX10_least 44 = .ok (.invokevirtual 199, 3) := by decide +kernel
theorem dX10_least_47 : decode cX10_least 47 = .ok (.istore 5, 2) := by decide +kernel
theorem dX10_least_49 : decode cX10_least 49 = .ok (.iload_n 2, 1) := by decide +kernel
theorem dX10_least_50 : decode cX10_least 50 = .ok (.ifCond .eq 12, 3) := by decide +kernel
theorem dX10_least_53 : decode cX10_least 53 = .ok (.iload 5, 2) := by decide +kernel
theorem dX10_least_55 : decode cX10_least 55 = .ok (.iload_n 3, 1) := by decide +kernel
theorem dX10_least_56 : decode cX10_least 56 = .ok (.if_icmp .ne 21, 3) := by decide +kernel
theorem dX10_least_59 : decode cX10_least 59 = .ok (.goto 15, 3) := by decide +kernel
theorem dX10_least_62 : decode cX10_least 62 = .ok (.aload_n 0, 1) := by decide +kernel
theorem dX10_least_63 : decode cX10_least 63 = .ok (.getfield 7, 3) := by decide +kernel
theorem dX10_least_66 : decode cX10_least 66 = .ok (.sipush 687, 3) := by decide +kernel
theorem dX10_least_69 : decode cX10_least 69 = .ok (.iaload, 1) := by decide +kernel
theorem dX10_least_70 : decode cX10_least 70 = .ok (.iconst 2, 1) := by decide +kernel
theorem dX10_least_71 : decode cX10_least 71 = .ok (.if_icmp .eq 6, 3) := by decide +kernel
theorem dX10_least_74 : decode cX10_least 74 = .ok (.iload 4, 2) := by decide +kernel
theorem dX10_least_76 : decode cX10_least 76 = .ok (.ireturn, 1) := by decide +kernel
theorem dX10_least_77 : decode cX10_least 77 = .ok (.iinc 4 1, 3) := by decide +kernel
theorem dX10_least_80 : decode cX10_least 80 = .ok (.goto (-47), 3) := by decide +kernel
theorem dX10_least_83 : decode cX10_least 83 = .ok (.iconst (-1), 1) := by decide +kernel
theorem dX10_least_84 : decode cX10_least 84 = .ok (.ireturn, 1) := by decide +kernel
theorem dX10_safe_0 : decode cX10_safe 0 = .ok (.iconst 1, 1) := by decide +kernel
theorem dX10_safe_1 : decode cX10_safe 1 = .ok (.istore_n 1, 1) := by decide +kernel
theorem dX10_safe_2 : decode cX10_safe 2 = .ok (.iload_n 1, 1) := by decide +kernel
theorem dX10_safe_3 : decode cX10_safe 3 = .ok (.bipush 6, 2) := by decide +kernel
theorem dX10_safe_5 : decode cX10_safe 5 = .ok (.if_icmp .gt 57, 3) := by decide +kernel
theorem dX10_safe_8 : decode cX10_safe 8 = .ok (.aload_n 0, 1) := by decide +kernel
theorem dX10_safe_9 : decode cX10_safe 9 = .ok (.invokevirtual 183, 3) := by decide +kernel
theorem dX10_safe_12 : decode cX10_safe 12 = .ok (.iconst 0, 1) := by decide +kernel
theorem dX10_safe_13 : decode cX10_safe 13 = .ok (.istore_n 2, 1) := by decide +kernel
theorem dX10_safe_14 : decode cX10_safe 14 = .ok (.iload_n 2, 1) := by decide +kernel
theorem dX10_safe_15 : decode cX10_safe 15 = .ok (.bipush 6, 2) := by decide +kernel
theorem dX10_safe_17 : decode cX10_safe 17 = .ok (.if_icmp .ge 20, 3) := by decide +kernel
theorem dX10_safe_20 : decode cX10_safe 20 = .ok (.aload_n 0, 1) := by decide +kernel
theorem dX10_safe_21 : decode cX10_safe 21 = .ok (.getfield 7, 3) := by decide +kernel
theorem dX10_safe_24 : decode cX10_safe 24 = .ok (.sipush 688, 3) := by decide +kernel
theorem dX10_safe_27 : decode cX10_safe 27 = .ok (.iload_n 2, 1) := by decide +kernel
theorem dX10_safe_28 : decode cX10_safe 28 = .ok (.iadd, 1) := by decide +kernel
theorem dX10_safe_29 : decode cX10_safe 29 = .ok (.iload_n 1, 1) := by decide +kernel
theorem dX10_safe_30 : decode cX10_safe 30 = .ok (.iastore, 1) := by decide +kernel
theorem dX10_safe_31 : decode cX10_safe 31 = .ok (.iinc 2 1, 3) := by decide +kernel
theorem dX10_safe_34 : decode cX10_safe 34 = .ok (.goto (-20), 3) := by decide +kernel
theorem dX10_safe_37 : decode cX10_safe 37 = .ok (.aload_n 0, 1) := by decide +kernel
theorem dX10_safe_38 : decode cX10_safe 38 = .ok (.invokevirtual 186, 3) := by decide +kernel
theorem dX10_safe_41 : decode cX10_safe 41 = .ok (.istore_n 2, 1) := by decide +kernel
theorem dX10_safe_42 : decode cX10_safe 42 = .ok (.aload_n 0, 1) := by decide +kernel
theorem dX10_safe_43 : decode cX10_safe 43 = .ok (.getfield 7, 3) := by decide +kernel
theorem dX10_safe_46 : decode cX10_safe 46 = .ok (.sipush 687, 3) := by decide +kernel
theorem dX10_safe_49 : decode cX10_safe 49 = .ok (.iaload, 1) := by decide +kernel
theorem dX10_safe_50 : decode cX10_safe 50 = .ok (.iconst 2, 1) := by decide +kernel
theorem dX10_safe_51 : decode cX10_safe 51 = .ok (.if_icmp .eq 5, 3) := by decide +kernel
theorem dX10_safe_54 : decode cX10_safe 54 = .ok (.iload_n 1, 1) := by decide +kernel
theorem dX10_safe_55 : decode cX10_safe 55 = .ok (.ireturn, 1) := by decide +kernel
theorem dX10_safe_56 : decode cX10_safe 56 = .ok (.iinc 1 1, 3) := by decide +kernel
theorem dX10_safe_59 : decode cX10_safe 59 = .ok (.goto (-57), 3) := by decide +kernel
theorem dX10_safe_62 : decode cX10_safe 62 = .ok (.iconst (-1), 1) := by decide +kernel
theorem dX10_safe_63 : decode cX10_safe 63 = .ok (.ireturn, 1) := by decide +kernel
theorem dX10_ahead_0 : decode cX10_ahead 0 = .ok (.iload_n 1, 1) := by decide +kernel
theorem dX10_ahead_1 : decode cX10_ahead 1 = .ok (.iconst 0, 1) := by decide +kernel
theorem dX10_ahead_2 : decode cX10_ahead 2 = .ok (.bipush 60, 2) := by decide +kernel
theorem dX10_ahead_4 : decode cX10_ahead 4 = .ok (.invokestatic 190, 3) := by decide +kernel
theorem dX10_ahead_7 : decode cX10_ahead 7 = .ok (.ifCond .eq 13, 3) := by decide +kernel
theorem dX10_ahead_10 : decode cX10_ahead 10 = .ok (.iload_n 2, 1) := by decide +kernel
theorem dX10_ahead_11 : decode cX10_ahead 11 = .ok (.iconst 0, 1) := by decide +kernel
theorem dX10_ahead_12 : decode cX10_ahead 12 = .ok (.bipush 11, 2) := by decide +kernel
theorem dX10_ahead_14 : decode cX10_ahead 14 = .ok (.invokestatic 190, 3) := by decide +kernel
theorem dX10_ahead_17 : decode cX10_ahead 17 = .ok (.ifCond .ne 5, 3) := by decide +kernel
theorem dX10_ahead_20 : decode cX10_ahead 20 = .ok (.iconst (-1), 1) := by decide +kernel
theorem dX10_ahead_21 : decode cX10_ahead 21 = .ok (.ireturn, 1) := by decide +kernel
theorem dX10_ahead_22 : decode cX10_ahead 22 = .ok (.aload_n 0, 1) := by decide +kernel
theorem dX10_ahead_23 : decode cX10_ahead 23 = .ok (.iconst 0, 1) := by decide +kernel
theorem dX10_ahead_24 : decode cX10_ahead 24 = .ok (.sipush 516, 3) := by decide +kernel
theorem dX10_ahead_27 : decode cX10_ahead 27 = .ok (.invokevirtual 177, 3) := by decide +kernel
theorem dX10_ahead_30 : decode cX10_ahead 30 = .ok (.aload_n 0, 1) := by decide +kernel
theorem dX10_ahead_31 : decode cX10_ahead 31 = .ok (.sipush 516, 3) := by decide +kernel
theorem dX10_ahead_34 : decode cX10_ahead 34 = .ok (.iload_n 1, 1) := by decide +kernel
theorem dX10_ahead_35 : decode cX10_ahead 35 = .ok (.invokevirtual 180, 3) := by decide +kernel
theorem dX10_ahead_38 : decode cX10_ahead 38 = .ok (.istore_n 3, 1) := by decide +kernel
theorem dX10_ahead_39 : decode cX10_ahead 39 = .ok (.aload_n 0, 1) := by decide +kernel
theorem dX10_ahead_40 : decode cX10_ahead 40 = .ok (.sipush 516, 3) := by decide +kernel
theorem dX10_ahead_43 : decode cX10_ahead 43 = .ok (.iload_n 2, 1) := by decide +kernel
theorem dX10_ahead_44 : decode cX10_ahead 44 = .ok (.invokevirtual 202, 3) := by decide +kernel
theorem dX10_ahead_47 : decode cX10_ahead 47 = .ok (.ireturn, 1) := by decide +kernel
theorem dX10_changed_0 : decode cX10_changed 0 = .ok (.iload_n 1, 1) := by decide +kernel
theorem dX10_changed_1 : decode cX10_changed 1 = .ok (.iconst 0, 1) := by decide +kernel
theorem dX10_changed_2 : decode cX10_changed 2 = .ok (.bipush 31, 2) := by decide +kernel
theorem dX10_changed_4 : decode cX10_changed 4 = .ok (.invokestatic 190, 3) := by decide +kernel
theorem dX10_changed_7 : decode cX10_changed 7 = .ok (.ifCond .ne 5, 3) := by decide +kernel
theorem dX10_changed_10 : decode cX10_changed 10 = .ok (.iconst (-1), 1) := by decide +kernel
theorem dX10_changed_11 : decode cX10_changed 11 = .ok (.ireturn, 1) := by decide +kernel
theorem dX10_changed_12 : decode cX10_changed 12 = .ok (.aload_n 0, 1) := by decide +kernel
theorem dX10_changed_13 : decode cX10_changed 13 = .ok (.invokevirtual 183, 3) := by decide +kernel
theorem dX10_changed_16 : decode cX10_changed 16 = .ok (.aload_n 0, 1) := by decide +kernel
theorem dX10_changed_17 : decode cX10_changed 17 = .ok (.getfield 7, 3) := by decide +kernel
theorem dX10_changed_20 : decode cX10_changed 20 = .ok (.sipush 694, 3) := by decide +kernel
theorem dX10_changed_23 : decode cX10_changed 23 = .ok (.iload_n 1, 1) := by decide +kernel
theorem dX10_changed_24 : decode cX10_changed 24 = .ok (.iadd, 1) := by decide +kernel
theorem dX10_changed_25 : decode cX10_changed 25 = .ok (.iaload, 1) := by decide +kernel
theorem dX10_changed_26 : decode cX10_changed 26 = .ok (.istore_n 2, 1) := by decide +kernel
theorem dX10_changed_27 : decode cX10_changed 27 = .ok (.aload_n 0, 1) := by decide +kernel
theorem dX10_changed_28 : decode cX10_changed 28 = .ok (.getfield 7, 3) := by decide +kernel
theorem dX10_changed_31 : decode cX10_changed 31 = .ok (.sipush 687, 3) := by decide +kernel
theorem dX10_changed_34 : decode cX10_changed 34 = .ok (.iaload, 1) := by decide +kernel
theorem dX10_changed_35 : decode cX10_changed 35 = .ok (.ifCond .ne 33, 3) := by decide +kernel
theorem dX10_changed_38 : decode cX10_changed 38 = .ok (.aload_n 0, 1) := by decide +kernel
theorem dX10_changed_39 : decode cX10_changed 39 = .ok (.sipush 516, 3) := by decide +kernel
theorem dX10_changed_42 : decode cX10_changed 42 = .ok (.invokevirtual 171, 3) := by decide +kernel
theorem dX10_changed_45 : decode cX10_changed 45 = .ok (.aload_n 0, 1) := by decide +kernel
theorem dX10_changed_46 : decode cX10_changed 46 = .ok (.getfield 7, 3) := by decide +kernel
theorem dX10_changed_49 : decode cX10_changed 49 = .ok (.sipush 694, 3) := by decide +kernel
theorem dX10_changed_52 : decode cX10_changed 52 = .ok (.iload_n 1, 1) := by decide +kernel
theorem dX10_changed_53 : decode cX10_changed 53 = .ok (.iadd, 1) := by decide +kernel
theorem dX10_changed_54 : decode cX10_changed 54 = .ok (.iaload, 1) := by decide +kernel
theorem dX10_changed_55 : decode cX10_changed 55 = .ok (.iload_n 2, 1) := by decide +kernel
theorem dX10_changed_56 : decode cX10_changed 56 = .ok (.if_icmp .eq (-29), 3) := by decide +kernel
theorem dX10_changed_59 : decode cX10_changed 59 = .ok (.aload_n 0, 1) := by decide +kernel
theorem dX10_changed_60 : decode cX10_changed 60 = .ok (.getfield 7, 3) := by decide +kernel
theorem dX10_changed_63 : decode cX10_changed 63 = .ok (.sipush 686, 3) := by decide +kernel
theorem dX10_changed_66 : decode cX10_changed 66 = .ok (.iaload, 1) := by decide +kernel
theorem dX10_changed_67 : decode cX10_changed 67 = .ok (.ireturn, 1) := by decide +kernel
theorem dX10_changed_68 : decode cX10_changed 68 = .ok (.iconst (-1), 1) := by decide +kernel
theorem dX10_changed_69 : decode cX10_changed 69 = .ok (.ireturn, 1) := by decide +kernel
theorem dX10_slipped_0 : decode cX10_slipped 0 = .ok (.aload_n 0, 1) := by decide +kernel
theorem dX10_slipped_1 : decode cX10_slipped 1 = .ok (.invokevirtual 183, 3) := by decide +kernel
theorem dX10_slipped_4 : decode cX10_slipped 4 = .ok (.aload_n 0, 1) := by decide +kernel
theorem dX10_slipped_5 : decode cX10_slipped 5 = .ok (.sipush 516, 3) := by decide +kernel
theorem dX10_slipped_8 : decode cX10_slipped 8 = .ok (.invokevirtual 165, 3) := by decide +kernel
theorem dX10_slipped_11 : decode cX10_slipped 11 = .ok (.iload_n 1, 1) := by decide +kernel
theorem dX10_slipped_12 : decode cX10_slipped 12 = .ok (.if_icmp .eq 26, 3) := by decide +kernel
theorem dX10_slipped_15 : decode cX10_slipped 15 = .ok (.aload_n 0, 1) := by decide +kernel
theorem dX10_slipped_16 : decode cX10_slipped 16 = .ok (.getfield 7, 3) := by decide +kernel
theorem dX10_slipped_19 : decode cX10_slipped 19 = .ok (.sipush 687, 3) := by decide +kernel
theorem dX10_slipped_22 : decode cX10_slipped 22 = .ok (.iaload, 1) := by decide +kernel
theorem dX10_slipped_23 : decode cX10_slipped 23 = .ok (.ifCond .eq 5, 3) := by decide +kernel
theorem dX10_slipped_26 : decode cX10_slipped 26 = .ok (.iconst (-1), 1) := by decide +kernel
theorem dX10_slipped_27 : decode cX10_slipped 27 = .ok (.ireturn, 1) := by decide +kernel
theorem dX10_slipped_28 : decode cX10_slipped 28 = .ok (.aload_n 0, 1) := by decide +kernel
theorem dX10_slipped_29 : decode cX10_slipped 29 = .ok (.sipush 516, 3) := by decide +kernel
theorem dX10_slipped_32 : decode cX10_slipped 32 = .ok (.invokevirtual 171, 3) := by decide +kernel
theorem dX10_slipped_35 : decode cX10_slipped 35 = .ok (.goto (-31), 3) := by decide +kernel
theorem dX10_slipped_38 : decode cX10_slipped 38 = .ok (.aload_n 0, 1) := by decide +kernel
theorem dX10_slipped_39 : decode cX10_slipped 39 = .ok (.getfield 7, 3) := by decide +kernel
theorem dX10_slipped_42 : decode cX10_slipped 42 = .ok (.sipush 686, 3) := by decide +kernel
theorem dX10_slipped_45 : decode cX10_slipped 45 = .ok (.iaload, 1) := by decide +kernel
theorem dX10_slipped_46 : decode cX10_slipped 46 = .ok (.ireturn, 1) := by decide +kernel
theorem dX10_step_0 : decode cX10_step 0 = .ok (.aload_n 0, 1) := by decide +kernel
theorem dX10_step_1 : decode cX10_step 1 = .ok (.getfield 205, 3) := by decide +kernel
theorem dX10_step_4 : decode cX10_step 4 = .ok (.istore_n 1, 1) := by decide +kernel
theorem dX10_step_5 : decode cX10_step 5 = .ok (.aload_n 0, 1) := by decide +kernel
theorem dX10_step_6 : decode cX10_step 6 = .ok (.sipush 516, 3) := by decide +kernel
theorem dX10_step_9 : decode cX10_step 9 = .ok (.iload_n 1, 1) := by decide +kernel
theorem dX10_step_10 : decode cX10_step 10 = .ok (.invokevirtual 58, 3) := by decide +kernel
theorem dX10_step_13 : decode cX10_step 13 = .ok (.istore_n 2, 1) := by decide +kernel
theorem dX10_step_14 : decode cX10_step 14 = .ok (.aload_n 0, 1) := by decide +kernel
theorem dX10_step_15 : decode cX10_step 15 = .ok (.sipush 516, 3) := by decide +kernel
theorem dX10_step_18 : decode cX10_step 18 = .ok (.iload_n 1, 1) := by decide +kernel
theorem dX10_step_19 : decode cX10_step 19 = .ok (.iconst 1, 1) := by decide +kernel
theorem dX10_step_20 : decode cX10_step 20 = .ok (.invokevirtual 54, 3) := by decide +kernel
theorem dX10_step_23 : decode cX10_step 23 = .ok (.istore_n 3, 1) := by decide +kernel
theorem dX10_step_24 : decode cX10_step 24 = .ok (.aload_n 0, 1) := by decide +kernel
theorem dX10_step_25 : decode cX10_step 25 = .ok (.sipush 516, 3) := by decide +kernel
theorem dX10_step_28 : decode cX10_step 28 = .ok (.iload_n 1, 1) := by decide +kernel
theorem dX10_step_29 : decode cX10_step 29 = .ok (.iconst 2, 1) := by decide +kernel
theorem dX10_step_30 : decode cX10_step 30 = .ok (.invokevirtual 54, 3) := by decide +kernel
theorem dX10_step_33 : decode cX10_step 33 = .ok (.istore 4, 2) := by decide +kernel
theorem dX10_step_35 : decode cX10_step 35 = .ok (.aload_n 0, 1) := by decide +kernel
theorem dX10_step_36 : decode cX10_step 36 = .ok (.dup, 1) := by decide +kernel
theorem dX10_step_37 : decode cX10_step 37 = .ok (.getfield 205, 3) := by decide +kernel
theorem dX10_step_40 : decode cX10_step 40 = .ok (.iconst 1, 1) := by decide +kernel
theorem dX10_step_41 : decode cX10_step 41 = .ok (.iadd, 1) := by decide +kernel
theorem dX10_step_42 : decode cX10_step 42 = .ok (.putfield 205, 3) := by decide +kernel
theorem dX10_step_45 : decode cX10_step 45 = .ok (.aload_n 0, 1) := by decide +kernel
theorem dX10_step_46 : decode cX10_step 46 = .ok (.iload_n 2, 1) := by decide +kernel
theorem dX10_step_47 : decode cX10_step 47 = .ok (.bipush 8, 2) := by decide +kernel
theorem dX10_step_49 : decode cX10_step 49 = .ok (.if_icmp .ne 7, 3) := by decide +kernel
theorem dX10_step_52 : decode cX10_step 52 = .ok (.iconst 1, 1) := by decide +kernel
theorem dX10_step_53 : decode cX10_step 53 = .ok (.goto 4, 3) := by decide +kernel
theorem dX10_step_56 : decode cX10_step 56 = .ok (.iconst 0, 1) := by decide +kernel
theorem dX10_step_57 : decode cX10_step 57 = .ok (.putfield 208, 3) := by decide +kernel
theorem dX10_step_60 : decode cX10_step 60 = .ok (.iload_n 2, 1) := by decide +kernel
theorem dX10_step_61 : decode cX10_step 61 = .ok (.bipush 6, 2) := by decide +kernel
theorem dX10_step_63 : decode cX10_step 63 = .ok (.if_icmp .ne 16, 3) := by decide +kernel
theorem dX10_step_66 : decode cX10_step 66 = .ok (.aload_n 0, 1) := by decide +kernel
theorem dX10_step_67 : decode cX10_step 67 = .ok (.aload_n 0, 1) := by decide +kernel
theorem dX10_step_68 : decode cX10_step 68 = .ok (.sipush 516, 3) := by decide +kernel
theorem dX10_step_71 : decode cX10_step 71 = .ok (.iload_n 1, 1) := by decide +kernel
theorem dX10_step_72 : decode cX10_step 72 = .ok (.iconst 4, 1) := by decide +kernel
theorem dX10_step_73 : decode cX10_step 73 = .ok (.invokevirtual 54, 3) := by decide +kernel
theorem dX10_step_76 : decode cX10_step 76 = .ok (.putfield 205, 3) := by decide +kernel
theorem dX10_step_79 : decode cX10_step 79 = .ok (.iload_n 2, 1) := by decide +kernel
theorem dX10_step_80 : decode cX10_step 80 = .ok (.bipush 7, 2) := by decide +kernel
theorem dX10_step_82 : decode cX10_step 82 = .ok (.if_icmp .ne 48, 3) := by decide +kernel
theorem dX10_step_85 : decode cX10_step 85 = .ok (.aload_n 0, 1) := by decide +kernel
theorem dX10_step_86 : decode cX10_step 86 = .ok (.sipush 516, 3) := by decide +kernel
theorem dX10_step_89 : decode cX10_step 89 = .ok (.iload_n 1, 1) := by decide +kernel
theorem dX10_step_90 : decode cX10_step 90 = .ok (.iconst 3, 1) := by decide +kernel
theorem dX10_step_91 : decode cX10_step 91 = .ok (.invokevirtual 54, 3) := by decide +kernel
theorem dX10_step_94 : decode cX10_step 94 = .ok (.aload_n 0, 1) := by decide +kernel
theorem dX10_step_95 : decode cX10_step 95 = .ok (.sipush 516, 3) := by decide +kernel
theorem dX10_step_98 : decode cX10_step 98 = .ok (.iload_n 3, 1) := by decide +kernel
theorem dX10_step_99 : decode cX10_step 99 = .ok (.invokevirtual 92, 3) := by decide +kernel
theorem dX10_step_102 : decode cX10_step 102 = .ok (.aload_n 0, 1) := by decide +kernel
theorem dX10_step_103 : decode cX10_step 103 = .ok (.sipush 516, 3) := by decide +kernel
theorem dX10_step_106 : decode cX10_step 106 = .ok (.iload 4, 2) := by decide +kernel
theorem dX10_step_108 : decode cX10_step 108 = .ok (.invokevirtual 92, 3) := by decide +kernel
theorem dX10_step_111 : decode cX10_step 111 = .ok (.invokestatic 128, 3) := by decide +kernel
theorem dX10_step_114 : decode cX10_step 114 = .ok (.ifCond .eq 16, 3) := by decide +kernel
theorem dX10_step_117 : decode cX10_step 117 = .ok (.aload_n 0, 1) := by decide +kernel
theorem dX10_step_118 : decode cX10_step 118 = .ok (.aload_n 0, 1) := by decide +kernel
theorem dX10_step_119 : decode cX10_step 119 = .ok (.sipush 516, 3) := by decide +kernel
theorem dX10_step_122 : decode cX10_step 122 = .ok (.iload_n 1, 1) := by decide +kernel
theorem dX10_step_123 : decode cX10_step 123 = .ok (.iconst 4, 1) := by decide +kernel
theorem dX10_step_124 : decode cX10_step 124 = .ok (.invokevirtual 54, 3) := by decide +kernel
theorem dX10_step_127 : decode cX10_step 127 = .ok (.putfield 205, 3) := by decide +kernel
theorem dX10_step_130 : decode cX10_step 130 = .ok (.iload_n 2, 1) := by decide +kernel
theorem dX10_step_131 : decode cX10_step 131 = .ok (.ifCond .eq 10, 3) := by decide +kernel
theorem dX10_step_134 : decode cX10_step 134 = .ok (.iload_n 2, 1) := by decide +kernel
theorem dX10_step_135 : decode cX10_step 135 = .ok (.invokestatic 62, 3) := by decide +kernel
theorem dX10_step_138 : decode cX10_step 138 = .ok (.ifCond .eq 21, 3) := by decide +kernel
theorem dX10_step_141 : decode cX10_step 141 = .ok (.aload_n 0, 1) := by decide +kernel
theorem dX10_step_142 : decode cX10_step 142 = .ok (.getfield 7, 3) := by decide +kernel
theorem dX10_step_145 : decode cX10_step 145 = .ok (.sipush 726, 3) := by decide +kernel
theorem dX10_step_148 : decode cX10_step 148 = .ok (.iload_n 3, 1) := by decide +kernel
theorem dX10_step_149 : decode cX10_step 149 = .ok (.iadd, 1) := by decide +kernel
theorem dX10_step_150 : decode cX10_step 150 = .ok (.aload_n 0, 1) := by decide +kernel
theorem dX10_step_151 : decode cX10_step 151 = .ok (.sipush 516, 3) := by decide +kernel
theorem dX10_step_154 : decode cX10_step 154 = .ok (.iload_n 1, 1) := by decide +kernel
theorem dX10_step_155 : decode cX10_step 155 = .ok (.invokevirtual 122, 3) := by decide +kernel
theorem dX10_step_158 : decode cX10_step 158 = .ok (.iastore, 1) := by decide +kernel
theorem dX10_step_159 : decode cX10_step 159 = .ok (.iload_n 2, 1) := by decide +kernel
theorem dX10_step_160 : decode cX10_step 160 = .ok (.iconst 4, 1) := by decide +kernel
theorem dX10_step_161 : decode cX10_step 161 = .ok (.if_icmp .ne 30, 3) := by decide +kernel
theorem dX10_step_164 : decode cX10_step 164 = .ok (.aload_n 0, 1) := by decide +kernel
theorem dX10_step_165 : decode cX10_step 165 = .ok (.getfield 7, 3) := by decide +kernel
theorem dX10_step_168 : decode cX10_step 168 = .ok (.sipush 726, 3) := by decide +kernel
theorem dX10_step_171 : decode cX10_step 171 = .ok (.iload_n 3, 1) := by decide +kernel
theorem dX10_step_172 : decode cX10_step 172 = .ok (.iadd, 1) := by decide +kernel
theorem dX10_step_173 : decode cX10_step 173 = .ok (.aload_n 0, 1) := by decide +kernel
theorem dX10_step_174 : decode cX10_step 174 = .ok (.getfield 7, 3) := by decide +kernel
theorem dX10_step_177 : decode cX10_step 177 = .ok (.sipush 694, 3) := by decide +kernel
theorem dX10_step_180 : decode cX10_step 180 = .ok (.aload_n 0, 1) := by decide +kernel
theorem dX10_step_181 : decode cX10_step 181 = .ok (.sipush 516, 3) := by decide +kernel
theorem dX10_step_184 : decode cX10_step 184 = .ok (.iload_n 1, 1) := by decide +kernel
theorem dX10_step_185 : decode cX10_step 185 = .ok (.invokevirtual 125, 3) := by decide +kernel
theorem dX10_step_188 : decode cX10_step 188 = .ok (.iadd, 1) := by decide +kernel
theorem dX10_step_189 : decode cX10_step 189 = .ok (.iaload, 1) := by decide +kernel
theorem dX10_step_190 : decode cX10_step 190 = .ok (.iastore, 1) := by decide +kernel
theorem dX10_step_191 : decode cX10_step 191 = .ok (.iload_n 2, 1) := by decide +kernel
theorem dX10_step_192 : decode cX10_step 192 = .ok (.iconst 5, 1) := by decide +kernel
theorem dX10_step_193 : decode cX10_step 193 = .ok (.if_icmp .ne 28, 3) := by decide +kernel
theorem dX10_step_196 : decode cX10_step 196 = .ok (.aload_n 0, 1) := by decide +kernel
theorem dX10_step_197 : decode cX10_step 197 = .ok (.getfield 7, 3) := by decide +kernel
theorem dX10_step_200 : decode cX10_step 200 = .ok (.sipush 694, 3) := by decide +kernel
theorem dX10_step_203 : decode cX10_step 203 = .ok (.aload_n 0, 1) := by decide +kernel
theorem dX10_step_204 : decode cX10_step 204 = .ok (.sipush 516, 3) := by decide +kernel
theorem dX10_step_207 : decode cX10_step 207 = .ok (.iload_n 1, 1) := by decide +kernel
theorem dX10_step_208 : decode cX10_step 208 = .ok (.invokevirtual 125, 3) := by decide +kernel
theorem dX10_step_211 : decode cX10_step 211 = .ok (.iadd, 1) := by decide +kernel
theorem dX10_step_212 : decode cX10_step 212 = .ok (.aload_n 0, 1) := by decide +kernel
theorem dX10_step_213 : decode cX10_step 213 = .ok (.sipush 516, 3) := by decide +kernel
theorem dX10_step_216 : decode cX10_step 216 = .ok (.iload_n 3, 1) := by decide +kernel
theorem dX10_step_217 : decode cX10_step 217 = .ok (.invokevirtual 92, 3) := by decide +kernel
theorem dX10_step_220 : decode cX10_step 220 = .ok (.iastore, 1) := by decide +kernel
theorem dX10_step_221 : decode cX10_step 221 = .ok (.return_, 1) := by decide +kernel
theorem dX10_alone_0 : decode cX10_alone 0 = .ok (.iload_n 2, 1) := by decide +kernel
theorem dX10_alone_1 : decode cX10_alone 1 = .ok (.iconst 0, 1) := by decide +kernel
theorem dX10_alone_2 : decode cX10_alone 2 = .ok (.iconst 2, 1) := by decide +kernel
theorem dX10_alone_3 : decode cX10_alone 3 = .ok (.invokestatic 190, 3) := by decide +kernel
theorem dX10_alone_6 : decode cX10_alone 6 = .ok (.ifCond .ne 25, 3) := by decide +kernel
theorem dX10_alone_9 : decode cX10_alone 9 = .ok (.iload_n 2, 1) := by decide +kernel
theorem dX10_alone_10 : decode cX10_alone 10 = .ok (.bipush 10, 2) := by decide +kernel
theorem dX10_alone_12 : decode cX10_alone 12 = .ok (.bipush 17, 2) := by decide +kernel
theorem dX10_alone_14 : decode cX10_alone 14 = .ok (.invokestatic 190, 3) := by decide +kernel
theorem dX10_alone_17 : decode cX10_alone 17 = .ok (.ifCond .ne 14, 3) := by decide +kernel
theorem dX10_alone_20 : decode cX10_alone 20 = .ok (.iload_n 2, 1) := by decide +kernel
theorem dX10_alone_21 : decode cX10_alone 21 = .ok (.bipush 20, 2) := by decide +kernel
theorem dX10_alone_23 : decode cX10_alone 23 = .ok (.bipush 51, 2) := by decide +kernel
theorem dX10_alone_25 : decode cX10_alone 25 = .ok (.invokestatic 190, 3) := by decide +kernel
theorem dX10_alone_28 : decode cX10_alone 28 = .ok (.ifCond .eq 7, 3) := by decide +kernel
theorem dX10_alone_31 : decode cX10_alone 31 = .ok (.iconst 1, 1) := by decide +kernel
theorem dX10_alone_32 : decode cX10_alone 32 = .ok (.goto 4, 3) := by decide +kernel
theorem dX10_alone_35 : decode cX10_alone 35 = .ok (.iconst 0, 1) := by decide +kernel
theorem dX10_alone_36 : decode cX10_alone 36 = .ok (.istore_n 3, 1) := by decide +kernel
theorem dX10_alone_37 : decode cX10_alone 37 = .ok (.iload_n 1, 1) := by decide +kernel
theorem dX10_alone_38 : decode cX10_alone 38 = .ok (.iconst 0, 1) := by decide +kernel
theorem dX10_alone_39 : decode cX10_alone 39 = .ok (.sipush 400, 3) := by decide +kernel
theorem dX10_alone_42 : decode cX10_alone 42 = .ok (.invokestatic 190, 3) := by decide +kernel
theorem dX10_alone_45 : decode cX10_alone 45 = .ok (.ifCond .eq 7, 3) := by decide +kernel
theorem dX10_alone_48 : decode cX10_alone 48 = .ok (.iload_n 3, 1) := by decide +kernel
theorem dX10_alone_49 : decode cX10_alone 49 = .ok (.ifCond .ne 5, 3) := by decide +kernel
theorem dX10_alone_52 : decode cX10_alone 52 = .ok (.iconst (-1), 1) := by decide +kernel
theorem dX10_alone_53 : decode cX10_alone 53 = .ok (.ireturn, 1) := by decide +kernel
theorem dX10_alone_54 : decode cX10_alone 54 = .ok (.aload_n 0, 1) := by decide +kernel
theorem dX10_alone_55 : decode cX10_alone 55 = .ok (.invokevirtual 183, 3) := by decide +kernel
theorem dX10_alone_58 : decode cX10_alone 58 = .ok (.aload_n 0, 1) := by decide +kernel
theorem dX10_alone_59 : decode cX10_alone 59 = .ok (.iconst 0, 1) := by decide +kernel
theorem dX10_alone_60 : decode cX10_alone 60 = .ok (.putfield 205, 3) := by decide +kernel
theorem dX10_alone_63 : decode cX10_alone 63 = .ok (.aload_n 0, 1) := by decide +kernel
theorem dX10_alone_64 : decode cX10_alone 64 = .ok (.iconst 0, 1) := by decide +kernel
theorem dX10_alone_65 : decode cX10_alone 65 = .ok (.putfield 208, 3) := by decide +kernel
theorem dX10_alone_68 : decode cX10_alone 68 = .ok (.iconst 0, 1) := by decide +kernel
theorem dX10_alone_69 : decode cX10_alone 69 = .ok (.istore 4, 2) := by decide +kernel
theorem dX10_alone_71 : decode cX10_alone 71 = .ok (.iload 4, 2) := by decide +kernel
theorem dX10_alone_73 : decode cX10_alone 73 = .ok (.iload_n 1, 1) := by decide +kernel
theorem dX10_alone_74 : decode cX10_alone 74 = .ok (.if_icmp .ge 20, 3) := by decide +kernel
theorem dX10_alone_77 : decode cX10_alone 77 = .ok (.aload_n 0, 1) := by decide +kernel
theorem dX10_alone_78 : decode cX10_alone 78 = .ok (.getfield 208, 3) := by decide +kernel
theorem dX10_alone_81 : decode cX10_alone 81 = .ok (.ifCond .ne 13, 3) := by decide +kernel
theorem dX10_alone_84 : decode cX10_alone 84 = .ok (.aload_n 0, 1) := by decide +kernel
theorem dX10_alone_85 : decode cX10_alone 85 = .ok (.invokevirtual 212, 3) := by decide +kernel
theorem dX10_alone_88 : decode cX10_alone 88 = .ok (.iinc 4 1, 3) := by decide +kernel
theorem dX10_alone_91 : decode cX10_alone 91 = .ok (.goto (-20), 3) := by decide +kernel
theorem dX10_alone_94 : decode cX10_alone 94 = .ok (.iload_n 2, 1) := by decide +kernel
theorem dX10_alone_95 : decode cX10_alone 95 = .ok (.bipush 20, 2) := by decide +kernel
theorem dX10_alone_97 : decode cX10_alone 97 = .ok (.if_icmp .lt 17, 3) := by decide +kernel
theorem dX10_alone_100 : decode cX10_alone 100 = .ok (.aload_n 0, 1) := by decide +kernel
theorem dX10_alone_101 : decode cX10_alone 101 = .ok (.getfield 7, 3) := by decide +kernel
theorem dX10_alone_104 : decode cX10_alone 104 = .ok (.sipush 694, 3) := by decide +kernel
theorem dX10_alone_107 : decode cX10_alone 107 = .ok (.iload_n 2, 1) := by decide +kernel
theorem dX10_alone_108 : decode cX10_alone 108 = .ok (.iadd, 1) := by decide +kernel
theorem dX10_alone_109 : decode cX10_alone 109 = .ok (.bipush 20, 2) := by decide +kernel
theorem dX10_alone_111 : decode cX10_alone 111 = .ok (.isub, 1) := by decide +kernel
theorem dX10_alone_112 : decode cX10_alone 112 = .ok (.iaload, 1) := by decide +kernel
theorem dX10_alone_113 : decode cX10_alone 113 = .ok (.ireturn, 1) := by decide +kernel
theorem dX10_alone_114 : decode cX10_alone 114 = .ok (.iload_n 2, 1) := by decide +kernel
theorem dX10_alone_115 : decode cX10_alone 115 = .ok (.bipush 10, 2) := by decide +kernel
theorem dX10_alone_117 : decode cX10_alone 117 = .ok (.if_icmp .lt 17, 3) := by decide +kernel
theorem dX10_alone_120 : decode cX10_alone 120 = .ok (.aload_n 0, 1) := by decide +kernel
theorem dX10_alone_121 : decode cX10_alone 121 = .ok (.getfield 7, 3) := by decide +kernel
theorem dX10_alone_124 : decode cX10_alone 124 = .ok (.sipush 726, 3) := by decide +kernel
theorem dX10_alone_127 : decode cX10_alone 127 = .ok (.iload_n 2, 1) := by decide +kernel
theorem dX10_alone_128 : decode cX10_alone 128 = .ok (.iadd, 1) := by decide +kernel
theorem dX10_alone_129 : decode cX10_alone 129 = .ok (.bipush 10, 2) := by decide +kernel
theorem dX10_alone_131 : decode cX10_alone 131 = .ok (.isub, 1) := by decide +kernel
theorem dX10_alone_132 : decode cX10_alone 132 = .ok (.iaload, 1) := by decide +kernel
theorem dX10_alone_133 : decode cX10_alone 133 = .ok (.ireturn, 1) := by decide +kernel
theorem dX10_alone_134 : decode cX10_alone 134 = .ok (.iload_n 2, 1) := by decide +kernel
theorem dX10_alone_135 : decode cX10_alone 135 = .ok (.ifCond .ne 8, 3) := by decide +kernel
theorem dX10_alone_138 : decode cX10_alone 138 = .ok (.iload 4, 2) := by decide +kernel
theorem dX10_alone_140 : decode cX10_alone 140 = .ok (.goto 38, 3) := by decide +kernel
theorem dX10_alone_143 : decode cX10_alone 143 = .ok (.iload_n 2, 1) := by decide +kernel
theorem dX10_alone_144 : decode cX10_alone 144 = .ok (.iconst 1, 1) := by decide +kernel
theorem dX10_alone_145 : decode cX10_alone 145 = .ok (.if_icmp .ne 18, 3) := by decide +kernel
theorem dX10_alone_148 : decode cX10_alone 148 = .ok (.aload_n 0, 1) := by decide +kernel
theorem dX10_alone_149 : decode cX10_alone 149 = .ok (.getfield 208, 3) := by decide +kernel
theorem dX10_alone_152 : decode cX10_alone 152 = .ok (.ifCond .eq 7, 3) := by decide +kernel
theorem dX10_alone_155 : decode cX10_alone 155 = .ok (.iconst 1, 1) := by decide +kernel
theorem dX10_alone_156 : decode cX10_alone 156 = .ok (.goto 22, 3) := by decide +kernel
theorem dX10_alone_159 : decode cX10_alone 159 = .ok (.iconst 0, 1) := by decide +kernel
theorem dX10_alone_160 : decode cX10_alone 160 = .ok (.goto 18, 3) := by decide +kernel
theorem dX10_alone_163 : decode cX10_alone 163 = .ok (.aload_n 0, 1) := by decide +kernel
theorem dX10_alone_164 : decode cX10_alone 164 = .ok (.getfield 208, 3) := by decide +kernel
theorem dX10_alone_167 : decode cX10_alone 167 = .ok (.ifCond .eq 7, 3) := by decide +kernel
theorem dX10_alone_170 : decode cX10_alone 170 = .ok (.iconst (-1), 1) := by decide +kernel
theorem dX10_alone_171 : decode cX10_alone 171 = .ok (.goto 7, 3) := by decide +kernel
theorem dX10_alone_174 : decode cX10_alone 174 = .ok (.aload_n 0, 1) := by decide +kernel
theorem dX10_alone_175 : decode cX10_alone 175 = .ok (.getfield 205, 3) := by decide +kernel
theorem dX10_alone_178 : decode cX10_alone 178 = .ok (.ireturn, 1) := by decide +kernel
theorem dX10_reach_0 : decode cX10_reach 0 = .ok (.aload_n 0, 1) := by decide +kernel
theorem dX10_reach_1 : decode cX10_reach 1 = .ok (.iload_n 1, 1) := by decide +kernel
theorem dX10_reach_2 : decode cX10_reach 2 = .ok (.invokevirtual 215, 3) := by decide +kernel
theorem dX10_reach_5 : decode cX10_reach 5 = .ok (.istore_n 2, 1) := by decide +kernel
theorem dX10_reach_6 : decode cX10_reach 6 = .ok (.iconst (-1), 1) := by decide +kernel
theorem dX10_reach_7 : decode cX10_reach 7 = .ok (.istore_n 3, 1) := by decide +kernel
theorem dX10_reach_8 : decode cX10_reach 8 = .ok (.iload_n 3, 1) := by decide +kernel
theorem dX10_reach_9 : decode cX10_reach 9 = .ok (.iload_n 2, 1) := by decide +kernel
theorem dX10_reach_10 : decode cX10_reach 10 = .ok (.if_icmp .eq 51, 3) := by decide +kernel
theorem dX10_reach_13 : decode cX10_reach 13 = .ok (.iload_n 2, 1) := by decide +kernel
theorem dX10_reach_14 : decode cX10_reach 14 = .ok (.istore_n 3, 1) := by decide +kernel
theorem dX10_reach_15 : decode cX10_reach 15 = .ok (.iconst 0, 1) := by decide +kernel
theorem dX10_reach_16 : decode cX10_reach 16 = .ok (.istore 4, 2) := by decide +kernel
theorem dX10_reach_18 : decode cX10_reach 18 = .ok (.iload 4, 2) := by decide +kernel
theorem dX10_reach_20 : decode cX10_reach 20 = .ok (.aload_n 0, 1) := by decide +kernel
theorem dX10_reach_21 : decode cX10_reach 21 = .ok (.getfield 7, 3) := by decide +kernel
theorem dX10_reach_24 : decode cX10_reach 24 = .ok (.bipush 48, 2) := by decide +kernel
theorem dX10_reach_26 : decode cX10_reach 26 = .ok (.iaload, 1) := by decide +kernel
theorem dX10_reach_27 : decode cX10_reach 27 = .ok (.if_icmp .ge 31, 3) := by decide +kernel
theorem dX10_reach_30 : decode cX10_reach 30 = .ok (.iload_n 2, 1) := by decide +kernel
theorem dX10_reach_31 : decode cX10_reach 31 = .ok (.iload_n 3, 1) := by decide +kernel
theorem dX10_reach_32 : decode cX10_reach 32 = .ok (.iload 4, 2) := by decide +kernel
theorem dX10_reach_34 : decode cX10_reach 34 = .ok (.invokestatic 66, 3) := by decide +kernel
theorem dX10_reach_37 : decode cX10_reach 37 = .ok (.ifCond .eq 12, 3) := by decide +kernel
theorem dX10_reach_40 : decode cX10_reach 40 = .ok (.aload_n 0, 1) := by decide +kernel
theorem dX10_reach_41 : decode cX10_reach 41 = .ok (.iload 4, 2) := by decide +kernel
theorem dX10_reach_43 : decode cX10_reach 43 = .ok (.invokevirtual 215, 3) := by decide +kernel
theorem dX10_reach_46 : decode cX10_reach 46 = .ok (.goto 4, 3) := by decide +kernel
theorem dX10_reach_49 : decode cX10_reach 49 = .ok (.iconst 0, 1) := by decide +kernel
theorem dX10_reach_50 : decode cX10_reach 50 = .ok (.ior, 1) := by decide +kernel
theorem dX10_reach_51 : decode cX10_reach 51 = .ok (.istore_n 2, 1) := by decide +kernel
theorem dX10_reach_52 : decode cX10_reach 52 = .ok (.iinc 4 1, 3) := by decide +kernel
theorem dX10_reach_55 : decode cX10_reach 55 = .ok (.goto (-37), 3) := by decide +kernel
theorem dX10_reach_58 : decode cX10_reach 58 = .ok (.goto (-50), 3) := by decide +kernel
theorem dX10_reach_61 : decode cX10_reach 61 = .ok (.iload_n 2, 1) := by decide +kernel
theorem dX10_reach_62 : decode cX10_reach 62 = .ok (.iconst 1, 1) := by decide +kernel
theorem dX10_reach_63 : decode cX10_reach 63 = .ok (.aload_n 0, 1) := by decide +kernel
theorem dX10_reach_64 : decode cX10_reach 64 = .ok (.getfield 7, 3) := by decide +kernel
theorem dX10_reach_67 : decode cX10_reach 67 = .ok (.bipush 48, 2) := by decide +kernel
theorem dX10_reach_69 : decode cX10_reach 69 = .ok (.iaload, 1) := by decide +kernel
theorem dX10_reach_70 : decode cX10_reach 70 = .ok (.ishl, 1) := by decide +kernel
theorem dX10_reach_71 : decode cX10_reach 71 = .ok (.iconst 1, 1) := by decide +kernel
theorem dX10_reach_72 : decode cX10_reach 72 = .ok (.isub, 1) := by decide +kernel
theorem dX10_reach_73 : decode cX10_reach 73 = .ok (.iand, 1) := by decide +kernel
theorem dX10_reach_74 : decode cX10_reach 74 = .ok (.ireturn, 1) := by decide +kernel
theorem dX10_next_0 : decode cX10_next 0 = .ok (.aload_n 0, 1) := by decide +kernel
theorem dX10_next_1 : decode cX10_next 1 = .ok (.iconst 0, 1) := by decide +kernel
theorem dX10_next_2 : decode cX10_next 2 = .ok (.iload_n 1, 1) := by decide +kernel
theorem dX10_next_3 : decode cX10_next 3 = .ok (.invokevirtual 58, 3) := by decide +kernel
theorem dX10_next_6 : decode cX10_next 6 = .ok (.istore_n 2, 1) := by decide +kernel
theorem dX10_next_7 : decode cX10_next 7 = .ok (.iload_n 2, 1) := by decide +kernel
theorem dX10_next_8 : decode cX10_next 8 = .ok (.bipush 8, 2) := by decide +kernel
theorem dX10_next_10 : decode cX10_next 10 = .ok (.if_icmp .eq 9, 3) := by decide +kernel
theorem dX10_next_13 : decode cX10_next 13 = .ok (.iload_n 2, 1) := by decide +kernel
theorem dX10_next_14 : decode cX10_next 14 = .ok (.bipush 6, 2) := by decide +kernel
theorem dX10_next_16 : decode cX10_next 16 = .ok (.if_icmp .ne 7, 3) := by decide +kernel
theorem dX10_next_19 : decode cX10_next 19 = .ok (.iconst 0, 1) := by decide +kernel
theorem dX10_next_20 : decode cX10_next 20 = .ok (.goto 8, 3) := by decide +kernel
theorem dX10_next_23 : decode cX10_next 23 = .ok (.iconst 1, 1) := by decide +kernel
theorem dX10_next_24 : decode cX10_next 24 = .ok (.iload_n 1, 1) := by decide +kernel
theorem dX10_next_25 : decode cX10_next 25 = .ok (.iconst 1, 1) := by decide +kernel
theorem dX10_next_26 : decode cX10_next 26 = .ok (.iadd, 1) := by decide +kernel
theorem dX10_next_27 : decode cX10_next 27 = .ok (.ishl, 1) := by decide +kernel
theorem dX10_next_28 : decode cX10_next 28 = .ok (.istore_n 3, 1) := by decide +kernel
theorem dX10_next_29 : decode cX10_next 29 = .ok (.iload_n 2, 1) := by decide +kernel
theorem dX10_next_30 : decode cX10_next 30 = .ok (.bipush 6, 2) := by decide +kernel
theorem dX10_next_32 : decode cX10_next 32 = .ok (.if_icmp .eq 9, 3) := by decide +kernel
theorem dX10_next_35 : decode cX10_next 35 = .ok (.iload_n 2, 1) := by decide +kernel
theorem dX10_next_36 : decode cX10_next 36 = .ok (.bipush 7, 2) := by decide +kernel
theorem dX10_next_38 : decode cX10_next 38 = .ok (.if_icmp .ne 17, 3) := by decide +kernel
theorem dX10_next_41 : decode cX10_next 41 = .ok (.iload_n 3, 1) := by decide +kernel
theorem dX10_next_42 : decode cX10_next 42 = .ok (.iconst 1, 1) := by decide +kernel
theorem dX10_next_43 : decode cX10_next 43 = .ok (.aload_n 0, 1) := by decide +kernel
theorem dX10_next_44 : decode cX10_next 44 = .ok (.iconst 0, 1) := by decide +kernel
theorem dX10_next_45 : decode cX10_next 45 = .ok (.iload_n 1, 1) := by decide +kernel
theorem dX10_next_46 : decode cX10_next 46 = .ok (.iconst 4, 1) := by decide +kernel
theorem dX10_next_47 : decode cX10_next 47 = .ok (.invokevirtual 54, 3) := by decide +kernel
theorem dX10_next_50 : decode cX10_next 50 = .ok (.ishl, 1) := by decide +kernel
theorem dX10_next_51 : decode cX10_next 51 = .ok (.ior, 1) := by decide +kernel
theorem dX10_next_52 : decode cX10_next 52 = .ok (.goto 4, 3) := by decide +kernel
theorem dX10_next_55 : decode cX10_next 55 = .ok (.iload_n 3, 1) := by decide +kernel
theorem dX10_next_56 : decode cX10_next 56 = .ok (.ireturn, 1) := by decide +kernel
theorem dX10_isLosing_0 : decode cX10_isLosing 0 = .ok (.aload_n 0, 1) := by decide +kernel
theorem dX10_isLosing_1 : decode cX10_isLosing 1 = .ok (.iconst 0, 1) := by decide +kernel
theorem dX10_isLosing_2 : decode cX10_isLosing 2 = .ok (.iconst 0, 1) := by decide +kernel
theorem dX10_isLosing_3 : decode cX10_isLosing 3 = .ok (.iload_n 1, 1) := by decide +kernel
theorem dX10_isLosing_4 : decode cX10_isLosing 4 = .ok (.invokevirtual 218, 3) := by decide +kernel
theorem dX10_isLosing_7 : decode cX10_isLosing 7 = .ok (.istore_n 2, 1) := by decide +kernel
theorem dX10_isLosing_8 : decode cX10_isLosing 8 = .ok (.iload_n 2, 1) := by decide +kernel
theorem dX10_isLosing_9 : decode cX10_isLosing 9 = .ok (.ifCond .ne 7, 3) := by decide +kernel
theorem dX10_isLosing_12 : decode cX10_isLosing 12 = .ok (.iconst 0, 1) := by decide +kernel
theorem dX10_isLosing_13 : decode cX10_isLosing 13 = .ok (.goto 16, 3) := by decide +kernel
theorem dX10_isLosing_16 : decode cX10_isLosing 16 = .ok (.aload_n 0, 1) := by decide +kernel
theorem dX10_isLosing_17 : decode cX10_isLosing 17 = .ok (.iconst 0, 1) := by decide +kernel
theorem dX10_isLosing_18 : decode cX10_isLosing 18 = .ok (.iconst 0, 1) := by decide +kernel
theorem dX10_isLosing_19 : decode cX10_isLosing 19 = .ok (.iload_n 1, 1) := by decide +kernel
theorem dX10_isLosing_20 : decode cX10_isLosing 20 = .ok (.iload_n 2, 1) := by decide +kernel
theorem dX10_isLosing_21 : decode cX10_isLosing 21 = .ok (.iconst 1, 1) := by decide +kernel
theorem dX10_isLosing_22 : decode cX10_isLosing 22 = .ok (.isub, 1) := by decide +kernel
theorem dX10_isLosing_23 : decode cX10_isLosing 23 = .ok (.invokevirtual 80, 3) := by decide +kernel
theorem dX10_isLosing_26 : decode cX10_isLosing 26 = .ok (.bipush 16, 2) := by decide +kernel
theorem dX10_isLosing_28 : decode cX10_isLosing 28 = .ok (.irem, 1) := by decide +kernel
theorem dX10_isLosing_29 : decode cX10_isLosing 29 = .ok (.istore_n 3, 1) := by decide +kernel
theorem dX10_isLosing_30 : decode cX10_isLosing 30 = .ok (.iload_n 3, 1) := by decide +kernel
theorem dX10_isLosing_31 : decode cX10_isLosing 31 = .ok (.bipush 12, 2) := by decide +kernel
theorem dX10_isLosing_33 : decode cX10_isLosing 33 = .ok (.if_icmp .eq 8, 3) := by decide +kernel
theorem dX10_isLosing_36 : decode cX10_isLosing 36 = .ok (.iload_n 3, 1) := by decide +kernel
theorem dX10_isLosing_37 : decode cX10_isLosing 37 = .ok (.iconst 3, 1) := by decide +kernel
theorem dX10_isLosing_38 : decode cX10_isLosing 38 = .ok (.if_icmp .ne 7, 3) := by decide +kernel
theorem dX10_isLosing_41 : decode cX10_isLosing 41 = .ok (.iconst 1, 1) := by decide +kernel
theorem dX10_isLosing_42 : decode cX10_isLosing 42 = .ok (.goto 4, 3) := by decide +kernel
theorem dX10_isLosing_45 : decode cX10_isLosing 45 = .ok (.iconst 0, 1) := by decide +kernel
theorem dX10_isLosing_46 : decode cX10_isLosing 46 = .ok (.ireturn, 1) := by decide +kernel
theorem dX10_rounds_0 : decode cX10_rounds 0 = .ok (.iload_n 1, 1) := by decide +kernel
theorem dX10_rounds_1 : decode cX10_rounds 1 = .ok (.iconst 0, 1) := by decide +kernel
theorem dX10_rounds_2 : decode cX10_rounds 2 = .ok (.iconst 2, 1) := by decide +kernel
theorem dX10_rounds_3 : decode cX10_rounds 3 = .ok (.invokestatic 190, 3) := by decide +kernel
theorem dX10_rounds_6 : decode cX10_rounds 6 = .ok (.ifCond .ne 6, 3) := by decide +kernel
theorem dX10_rounds_9 : decode cX10_rounds 9 = .ok (.bipush (-2), 2) := by decide +kernel
theorem dX10_rounds_11 : decode cX10_rounds 11 = .ok (.ireturn, 1) := by decide +kernel
theorem dX10_rounds_12 : decode cX10_rounds 12 = .ok (.iconst 0, 1) := by decide +kernel
theorem dX10_rounds_13 : decode cX10_rounds 13 = .ok (.istore_n 2, 1) := by decide +kernel
theorem dX10_rounds_14 : decode cX10_rounds 14 = .ok (.iconst 0, 1) := by decide +kernel
theorem dX10_rounds_15 : decode cX10_rounds 15 = .ok (.istore_n 3, 1) := by decide +kernel
theorem dX10_rounds_16 : decode cX10_rounds 16 = .ok (.iload_n 3, 1) := by decide +kernel
theorem dX10_rounds_17 : decode cX10_rounds 17 = .ok (.aload_n 0, 1) := by decide +kernel
theorem dX10_rounds_18 : decode cX10_rounds 18 = .ok (.getfield 7, 3) := by decide +kernel
theorem dX10_rounds_21 : decode cX10_rounds 21 = .ok (.bipush 48, 2) := by decide +kernel
theorem dX10_rounds_23 : decode cX10_rounds 23 = .ok (.iaload, 1) := by decide +kernel
theorem dX10_rounds_24 : decode cX10_rounds 24 = .ok (.if_icmp .ge 131, 3) := by decide +kernel
theorem dX10_rounds_27 : decode cX10_rounds 27 = .ok (.aload_n 0, 1) := by decide +kernel
theorem dX10_rounds_28 : decode cX10_rounds 28 = .ok (.iload_n 3, 1) := by decide +kernel
theorem dX10_rounds_29 : decode cX10_rounds 29 = .ok (.invokevirtual 221, 3) := by decide +kernel
theorem dX10_rounds_32 : decode cX10_rounds 32 = .ok (.iload_n 3, 1) := by decide +kernel
theorem dX10_rounds_33 : decode cX10_rounds 33 = .ok (.invokestatic 66, 3) := by decide +kernel
theorem dX10_rounds_36 : decode cX10_rounds 36 = .ok (.ifCond .ne 6, 3) := by decide +kernel
theorem dX10_rounds_39 : decode cX10_rounds 39 = .ok (.goto 110, 3) := by decide +kernel
theorem dX10_rounds_42 : decode cX10_rounds 42 = .ok (.iload_n 1, 1) := by decide +kernel
theorem dX10_rounds_43 : decode cX10_rounds 43 = .ok (.ifCond .eq 11, 3) := by decide +kernel
theorem dX10_rounds_46 : decode cX10_rounds 46 = .ok (.aload_n 0, 1) := by decide +kernel
theorem dX10_rounds_47 : decode cX10_rounds 47 = .ok (.iload_n 3, 1) := by decide +kernel
theorem dX10_rounds_48 : decode cX10_rounds 48 = .ok (.invokevirtual 224, 3) := by decide +kernel
theorem dX10_rounds_51 : decode cX10_rounds 51 = .ok (.ifCond .eq 7, 3) := by decide +kernel
theorem dX10_rounds_54 : decode cX10_rounds 54 = .ok (.iconst 1, 1) := by decide +kernel
theorem dX10_rounds_55 : decode cX10_rounds 55 = .ok (.goto 4, 3) := by decide +kernel
theorem dX10_rounds_58 : decode cX10_rounds 58 = .ok (.iconst 0, 1) := by decide +kernel
theorem dX10_rounds_59 : decode cX10_rounds 59 = .ok (.istore 4, 2) := by decide +kernel
theorem dX10_rounds_61 : decode cX10_rounds 61 = .ok (.iconst 0, 1) := by decide +kernel
theorem dX10_rounds_62 : decode cX10_rounds 62 = .ok (.istore 5, 2) := by decide +kernel
theorem dX10_rounds_64 : decode cX10_rounds 64 = .ok (.iload 5, 2) := by decide +kernel
theorem dX10_rounds_66 : decode cX10_rounds 66 = .ok (.aload_n 0, 1) := by decide +kernel
theorem dX10_rounds_67 : decode cX10_rounds 67 = .ok (.getfield 7, 3) := by decide +kernel
theorem dX10_rounds_70 : decode cX10_rounds 70 = .ok (.bipush 48, 2) := by decide +kernel
theorem dX10_rounds_72 : decode cX10_rounds 72 = .ok (.iaload, 1) := by decide +kernel
theorem dX10_rounds_73 : decode cX10_rounds 73 = .ok (.if_icmp .ge 61, 3) := by decide +kernel
theorem dX10_rounds_76 : decode cX10_rounds 76 = .ok (.iload_n 1, 1) := by decide +kernel
theorem dX10_rounds_77 : decode cX10_rounds 77 = .ok (.iconst 1, 1) := by decide +kernel
theorem dX10_rounds_78 : decode cX10_rounds 78 = .ok (.if_icmp .ne 56, 3) := by decide +kernel
theorem dX10_rounds_81 : decode cX10_rounds 81 = .ok (.iload 4, 2) := by decide +kernel
theorem dX10_rounds_83 : decode cX10_rounds 83 = .ok (.ifCond .ne 38, 3) := by decide +kernel
theorem dX10_rounds_86 : decode cX10_rounds 86 = .ok (.aload_n 0, 1) := by decide +kernel
theorem dX10_rounds_87 : decode cX10_rounds 87 = .ok (.iload 5, 2) := by decide +kernel
theorem dX10_rounds_89 : decode cX10_rounds 89 = .ok (.invokevirtual 224, 3) := by decide +kernel
theorem dX10_rounds_92 : decode cX10_rounds 92 = .ok (.ifCond .eq 33, 3) := by decide +kernel
theorem dX10_rounds_95 : decode cX10_rounds 95 = .ok (.aload_n 0, 1) := by decide +kernel
theorem dX10_rounds_96 : decode cX10_rounds 96 = .ok (.iload_n 3, 1) := by decide +kernel
theorem dX10_rounds_97 : decode cX10_rounds 97 = .ok (.invokevirtual 221, 3) := by decide +kernel
theorem dX10_rounds_100 : decode cX10_rounds 100 = .ok (.iload 5, 2) := by decide +kernel
theorem dX10_rounds_102 : decode cX10_rounds 102 = .ok (.invokestatic 66, 3) := by decide +kernel
theorem dX10_rounds_105 : decode cX10_rounds 105 = .ok (.ifCond .eq 20, 3) := by decide +kernel
theorem dX10_rounds_108 : decode cX10_rounds 108 = .ok (.aload_n 0, 1) := by decide +kernel
theorem dX10_rounds_109 : decode cX10_rounds 109 = .ok (.iload 5, 2) := by decide +kernel
theorem dX10_rounds_111 : decode cX10_rounds 111 = .ok (.invokevirtual 221, 3) := by decide +kernel
theorem dX10_rounds_114 : decode cX10_rounds 114 = .ok (.iload_n 3, 1) := by decide +kernel
theorem dX10_rounds_115 : decode cX10_rounds 115 = .ok (.invokestatic 66, 3) := by decide +kernel
theorem dX10_rounds_118 : decode cX10_rounds 118 = .ok (.ifCond .eq 7, 3) := by decide +kernel
theorem dX10_rounds_121 : decode cX10_rounds 121 = .ok (.iconst 1, 1) := by decide +kernel
theorem dX10_rounds_122 : decode cX10_rounds 122 = .ok (.goto 4, 3) := by decide +kernel
theorem dX10_rounds_125 : decode cX10_rounds 125 = .ok (.iconst 0, 1) := by decide +kernel
theorem dX10_rounds_126 : decode cX10_rounds 126 = .ok (.istore 4, 2) := by decide +kernel
theorem dX10_rounds_128 : decode cX10_rounds 128 = .ok (.iinc 5 1, 3) := by decide +kernel
theorem dX10_rounds_131 : decode cX10_rounds 131 = .ok (.goto (-67), 3) := by decide +kernel
theorem dX10_rounds_134 : decode cX10_rounds 134 = .ok (.iload_n 2, 1) := by decide +kernel
theorem dX10_rounds_135 : decode cX10_rounds 135 = .ok (.iload 4, 2) := by decide +kernel
theorem dX10_rounds_137 : decode cX10_rounds 137 = .ok (.ifCond .eq 9, 3) := by decide +kernel
theorem dX10_rounds_140 : decode cX10_rounds 140 = .ok (.iconst 1, 1) := by decide +kernel
theorem dX10_rounds_141 : decode cX10_rounds 141 = .ok (.iload_n 3, 1) := by decide +kernel
theorem dX10_rounds_142 : decode cX10_rounds 142 = .ok (.ishl, 1) := by decide +kernel
theorem dX10_rounds_143 : decode cX10_rounds 143 = .ok (.goto 4, 3) := by decide +kernel
theorem dX10_rounds_146 : decode cX10_rounds 146 = .ok (.iconst 0, 1) := by decide +kernel
theorem dX10_rounds_147 : decode cX10_rounds 147 = .ok (.ior, 1) := by decide +kernel
theorem dX10_rounds_148 : decode cX10_rounds 148 = .ok (.istore_n 2, 1) := by decide +kernel
theorem dX10_rounds_149 : decode cX10_rounds 149 = .ok (.iinc 3 1, 3) := by decide +kernel
theorem dX10_rounds_152 : decode cX10_rounds 152 = .ok (.goto (-136), 3) := by decide +kernel
theorem dX10_rounds_155 : decode cX10_rounds 155 = .ok (.iload_n 2, 1) := by decide +kernel
theorem dX10_rounds_156 : decode cX10_rounds 156 = .ok (.ireturn, 1) := by decide +kernel
theorem dX10_feed_0 : decode cX10_feed 0 = .ok (.aload_n 0, 1) := by decide +kernel
theorem dX10_feed_1 : decode cX10_feed 1 = .ok (.getfield 174, 3) := by decide +kernel
theorem dX10_feed_4 : decode cX10_feed 4 = .ok (.bipush 20, 2) := by decide +kernel
theorem dX10_feed_6 : decode cX10_feed 6 = .ok (.iadd, 1) := by decide +kernel
theorem dX10_feed_7 : decode cX10_feed 7 = .ok (.sipush 600, 3) := by decide +kernel
theorem dX10_feed_10 : decode cX10_feed 10 = .ok (.if_icmp .le 5, 3) := by decide +kernel
theorem dX10_feed_13 : decode cX10_feed 13 = .ok (.iconst (-1), 1) := by decide +kernel
theorem dX10_feed_14 : decode cX10_feed 14 = .ok (.ireturn, 1) := by decide +kernel
theorem dX10_feed_15 : decode cX10_feed 15 = .ok (.iconst 0, 1) := by decide +kernel
theorem dX10_feed_16 : decode cX10_feed 16 = .ok (.istore 6, 2) := by decide +kernel
theorem dX10_feed_18 : decode cX10_feed 18 = .ok (.iload 6, 2) := by decide +kernel
theorem dX10_feed_20 : decode cX10_feed 20 = .ok (.bipush 20, 2) := by decide +kernel
theorem dX10_feed_22 : decode cX10_feed 22 = .ok (.if_icmp .ge 86, 3) := by decide +kernel
theorem dX10_feed_25 : decode cX10_feed 25 = .ok (.iload 6, 2) := by decide +kernel
theorem dX10_feed_27 : decode cX10_feed 27 = .ok (.iconst 4, 1) := by decide +kernel
theorem dX10_feed_28 : decode cX10_feed 28 = .ok (.if_icmp .ge 7, 3) := by decide +kernel
theorem dX10_feed_31 : decode cX10_feed 31 = .ok (.iload_n 1, 1) := by decide +kernel
theorem dX10_feed_32 : decode cX10_feed 32 = .ok (.goto 39, 3) := by decide +kernel
theorem dX10_feed_35 : decode cX10_feed 35 = .ok (.iload 6, 2) := by decide +kernel
theorem dX10_feed_37 : decode cX10_feed 37 = .ok (.bipush 8, 2) := by decide +kernel
theorem dX10_feed_39 : decode cX10_feed 39 = .ok (.if_icmp .ge 7, 3) := by decide +kernel
theorem dX10_feed_42 : decode cX10_feed 42 = .ok (.iload_n 2, 1) := by decide +kernel
theorem dX10_feed_43 : decode cX10_feed 43 = .ok (.goto 28, 3) := by decide +kernel
theorem dX10_feed_46 : decode cX10_feed 46 = .ok (.iload 6, 2) := by decide +kernel
theorem dX10_feed_48 : decode cX10_feed 48 = .ok (.bipush 12, 2) := by decide +kernel
theorem dX10_feed_50 : decode cX10_feed 50 = .ok (.if_icmp .ge 7, 3) := by decide +kernel
theorem dX10_feed_53 : decode cX10_feed 53 = .ok (.iload_n 3, 1) := by decide +kernel
theorem dX10_feed_54 : decode cX10_feed 54 = .ok (.goto 17, 3) := by decide +kernel
theorem dX10_feed_57 : decode cX10_feed 57 = .ok (.iload 6, 2) := by decide +kernel
theorem dX10_feed_59 : decode cX10_feed 59 = .ok (.bipush 16, 2) := by decide +kernel
theorem dX10_feed_61 : decode cX10_feed 61 = .ok (.if_icmp .ge 8, 3) := by decide +kernel
theorem dX10_feed_64 : decode cX10_feed 64 = .ok (.iload 4, 2) := by decide +kernel
theorem dX10_feed_66 : decode cX10_feed 66 = .ok (.goto 5, 3) := by decide +kernel
theorem dX10_feed_69 : decode cX10_feed 69 = .ok (.iload 5, 2) := by decide +kernel
theorem dX10_feed_71 : decode cX10_feed 71 = .ok (.istore 7, 2) := by decide +kernel
theorem dX10_feed_73 : decode cX10_feed 73 = .ok (.aload_n 0, 1) := by decide +kernel
theorem dX10_feed_74 : decode cX10_feed 74 = .ok (.getfield 13, 3) := by decide +kernel
theorem dX10_feed_77 : decode cX10_feed 77 = .ok (.aload_n 0, 1) := by decide +kernel
theorem dX10_feed_78 : decode cX10_feed 78 = .ok (.getfield 174, 3) := by decide +kernel
theorem dX10_feed_81 : decode cX10_feed 81 = .ok (.iload 6, 2) := by decide +kernel
theorem dX10_feed_83 : decode cX10_feed 83 = .ok (.iadd, 1) := by decide +kernel
theorem dX10_feed_84 : decode cX10_feed 84 = .ok (.iload 7, 2) := by decide +kernel
theorem dX10_feed_86 : decode cX10_feed 86 = .ok (.bipush 24, 2) := by decide +kernel
theorem dX10_feed_88 : decode cX10_feed 88 = .ok (.bipush 8, 2) := by decide +kernel
theorem dX10_feed_90 : decode cX10_feed 90 = .ok (.iload 6, 2) := by decide +kernel
theorem dX10_feed_92 : decode cX10_feed 92 = .ok (.iconst 3, 1) := by decide +kernel
theorem dX10_feed_93 : decode cX10_feed 93 = .ok (.iand, 1) := by decide +kernel
theorem dX10_feed_94 : decode cX10_feed 94 = .ok (.imul, 1) := by decide +kernel
theorem dX10_feed_95 : decode cX10_feed 95 = .ok (.isub, 1) := by decide +kernel
theorem dX10_feed_96 : decode cX10_feed 96 = .ok (.ishr, 1) := by decide +kernel
theorem dX10_feed_97 : decode cX10_feed 97 = .ok (.sipush 255, 3) := by decide +kernel
theorem dX10_feed_100 : decode cX10_feed 100 = .ok (.iand, 1) := by decide +kernel
theorem dX10_feed_101 : decode cX10_feed 101 = .ok (.iastore, 1) := by decide +kernel
theorem dX10_feed_102 : decode cX10_feed 102 = .ok (.iinc 6 1, 3) := by decide +kernel
theorem dX10_feed_105 : decode cX10_feed 105 = .ok (.goto (-87), 3) := by decide +kernel
theorem dX10_feed_108 : decode cX10_feed 108 = .ok (.aload_n 0, 1) := by decide +kernel
theorem dX10_feed_109 : decode cX10_feed 109 = .ok (.dup, 1) := by decide +kernel
theorem dX10_feed_110 : decode cX10_feed 110 = .ok (.getfield 174, 3) := by decide +kernel
theorem dX10_feed_113 : decode cX10_feed 113 = .ok (.bipush 20, 2) := by decide +kernel
theorem dX10_feed_115 : decode cX10_feed 115 = .ok (.iadd, 1) := by decide +kernel
theorem dX10_feed_116 : decode cX10_feed 116 = .ok (.putfield 174, 3) := by decide +kernel
theorem dX10_feed_119 : decode cX10_feed 119 = .ok (.aload_n 0, 1) := by decide +kernel
theorem dX10_feed_120 : decode cX10_feed 120 = .ok (.getfield 174, 3) := by decide +kernel
theorem dX10_feed_123 : decode cX10_feed 123 = .ok (.ireturn, 1) := by decide +kernel
theorem dX10_end_0 : decode cX10_end 0 = .ok (.iload_n 1, 1) := by decide +kernel
theorem dX10_end_1 : decode cX10_end 1 = .ok (.iconst 0, 1) := by decide +kernel
theorem dX10_end_2 : decode cX10_end 2 = .ok (.aload_n 0, 1) := by decide +kernel
theorem dX10_end_3 : decode cX10_end 3 = .ok (.getfield 174, 3) := by decide +kernel
theorem dX10_end_6 : decode cX10_end 6 = .ok (.invokestatic 190, 3) := by decide +kernel
theorem dX10_end_9 : decode cX10_end 9 = .ok (.ifCond .ne 5, 3) := by decide +kernel
theorem dX10_end_12 : decode cX10_end 12 = .ok (.iconst (-1), 1) := by decide +kernel
theorem dX10_end_13 : decode cX10_end 13 = .ok (.ireturn, 1) := by decide +kernel
theorem dX10_end_14 : decode cX10_end 14 = .ok (.aload_n 0, 1) := by decide +kernel
theorem dX10_end_15 : decode cX10_end 15 = .ok (.iload_n 1, 1) := by decide +kernel
theorem dX10_end_16 : decode cX10_end 16 = .ok (.putfield 174, 3) := by decide +kernel
theorem dX10_end_19 : decode cX10_end 19 = .ok (.iload_n 1, 1) := by decide +kernel
theorem dX10_end_20 : decode cX10_end 20 = .ok (.ireturn, 1) := by decide +kernel
theorem dX10_fault_0 : decode cX10_fault 0 = .ok (.iload_n 1, 1) := by decide +kernel
theorem dX10_fault_1 : decode cX10_fault 1 = .ok (.ifCond .ne 10, 3) := by decide +kernel
theorem dX10_fault_4 : decode cX10_fault 4 = .ok (.aload_n 0, 1) := by decide +kernel
theorem dX10_fault_5 : decode cX10_fault 5 = .ok (.getfield 227, 3) := by decide +kernel
theorem dX10_fault_8 : decode cX10_fault 8 = .ok (.goto 16, 3) := by decide +kernel
theorem dX10_fault_11 : decode cX10_fault 11 = .ok (.iload_n 1, 1) := by decide +kernel
theorem dX10_fault_12 : decode cX10_fault 12 = .ok (.iconst 1, 1) := by decide +kernel
theorem dX10_fault_13 : decode cX10_fault 13 = .ok (.if_icmp .ne 10, 3) := by decide +kernel
theorem dX10_fault_16 : decode cX10_fault 16 = .ok (.aload_n 0, 1) := by decide +kernel
theorem dX10_fault_17 : decode cX10_fault 17 = .ok (.getfield 20, 3) := by decide +kernel
theorem dX10_fault_20 : decode cX10_fault 20 = .ok (.goto 4, 3) := by decide +kernel
theorem dX10_fault_23 : decode cX10_fault 23 = .ok (.iconst (-1), 1) := by decide +kernel
theorem dX10_fault_24 : decode cX10_fault 24 = .ok (.ireturn, 1) := by decide +kernel
theorem dX10_cycles_0 : decode cX10_cycles 0 = .ok (.iload_n 1, 1) := by decide +kernel
theorem dX10_cycles_1 : decode cX10_cycles 1 = .ok (.iconst 1, 1) := by decide +kernel
theorem dX10_cycles_2 : decode cX10_cycles 2 = .ok (.bipush 50, 2) := by decide +kernel
theorem dX10_cycles_4 : decode cX10_cycles 4 = .ok (.invokestatic 190, 3) := by decide +kernel
theorem dX10_cycles_7 : decode cX10_cycles 7 = .ok (.ifCond .eq 12, 3) := by decide +kernel
theorem dX10_cycles_10 : decode cX10_cycles 10 = .ok (.aload_n 0, 1) := by decide +kernel
theorem dX10_cycles_11 : decode cX10_cycles 11 = .ok (.iconst 0, 1) := by decide +kernel
theorem dX10_cycles_12 : decode cX10_cycles 12 = .ok (.iload_n 1, 1) := by decide +kernel
theorem dX10_cycles_13 : decode cX10_cycles 13 = .ok (.invokevirtual 180, 3) := by decide +kernel
theorem dX10_cycles_16 : decode cX10_cycles 16 = .ok (.goto 4, 3) := by decide +kernel
theorem dX10_cycles_19 : decode cX10_cycles 19 = .ok (.iconst (-1), 1) := by decide +kernel
theorem dX10_cycles_20 : decode cX10_cycles 20 = .ok (.ireturn, 1) := by decide +kernel
theorem dX10_begin_0 : decode cX10_begin 0 = .ok (.aload_n 0, 1) := by decide +kernel
theorem dX10_begin_1 : decode cX10_begin 1 = .ok (.iconst 0, 1) := by decide +kernel
theorem dX10_begin_2 : decode cX10_begin 2 = .ok (.invokevirtual 47, 3) := by decide +kernel
theorem dX10_begin_5 : decode cX10_begin 5 = .ok (.return_, 1) := by decide +kernel
theorem dX10_room_0 : decode cX10_room 0 = .ok (.iload_n 1, 1) := by decide +kernel
theorem dX10_room_1 : decode cX10_room 1 = .ok (.iconst 0, 1) := by decide +kernel
theorem dX10_room_2 : decode cX10_room 2 = .ok (.iconst 5, 1) := by decide +kernel
theorem dX10_room_3 : decode cX10_room 3 = .ok (.invokestatic 190, 3) := by decide +kernel
theorem dX10_room_6 : decode cX10_room 6 = .ok (.ifCond .eq 13, 3) := by decide +kernel
theorem dX10_room_9 : decode cX10_room 9 = .ok (.iload_n 2, 1) := by decide +kernel
theorem dX10_room_10 : decode cX10_room 10 = .ok (.iconst 1, 1) := by decide +kernel
theorem dX10_room_11 : decode cX10_room 11 = .ok (.bipush 6, 2) := by decide +kernel
theorem dX10_room_13 : decode cX10_room 13 = .ok (.invokestatic 190, 3) := by decide +kernel
theorem dX10_room_16 : decode cX10_room 16 = .ok (.ifCond .ne 5, 3) := by decide +kernel
theorem dX10_room_19 : decode cX10_room 19 = .ok (.iconst 0, 1) := by decide +kernel
theorem dX10_room_20 : decode cX10_room 20 = .ok (.ireturn, 1) := by decide +kernel
theorem dX10_room_21 : decode cX10_room 21 = .ok (.aload_n 0, 1) := by decide +kernel
theorem dX10_room_22 : decode cX10_room 22 = .ok (.getfield 7, 3) := by decide +kernel
theorem dX10_room_25 : decode cX10_room 25 = .ok (.sipush 172, 3) := by decide +kernel
theorem dX10_room_28 : decode cX10_room 28 = .ok (.iload_n 1, 1) := by decide +kernel
theorem dX10_room_29 : decode cX10_room 29 = .ok (.iadd, 1) := by decide +kernel
theorem dX10_room_30 : decode cX10_room 30 = .ok (.iload_n 2, 1) := by decide +kernel
theorem dX10_room_31 : decode cX10_room 31 = .ok (.iastore, 1) := by decide +kernel
theorem dX10_room_32 : decode cX10_room 32 = .ok (.iconst 1, 1) := by decide +kernel
theorem dX10_room_33 : decode cX10_room 33 = .ok (.ireturn, 1) := by decide +kernel
theorem dX10_count_0 : decode cX10_count 0 = .ok (.aload_n 0, 1) := by decide +kernel
theorem dX10_count_1 : decode cX10_count 1 = .ok (.iconst 0, 1) := by decide +kernel
theorem dX10_count_2 : decode cX10_count 2 = .ok (.iload_n 1, 1) := by decide +kernel
theorem dX10_count_3 : decode cX10_count 3 = .ok (.invokevirtual 202, 3) := by decide +kernel
theorem dX10_count_6 : decode cX10_count 6 = .ok (.ireturn, 1) := by decide +kernel
theorem dX10_side_0 : decode cX10_side 0 = .ok (.iload_n 1, 1) := by decide +kernel
theorem dX10_side_1 : decode cX10_side 1 = .ok (.iconst 0, 1) := by decide +kernel
theorem dX10_side_2 : decode cX10_side 2 = .ok (.iconst 1, 1) := by decide +kernel
theorem dX10_side_3 : decode cX10_side 3 = .ok (.invokestatic 190, 3) := by decide +kernel
theorem dX10_side_6 : decode cX10_side 6 = .ok (.ifCond .ne 5, 3) := by decide +kernel
theorem dX10_side_9 : decode cX10_side 9 = .ok (.iconst (-1), 1) := by decide +kernel
theorem dX10_side_10 : decode cX10_side 10 = .ok (.ireturn, 1) := by decide +kernel
theorem dX10_side_11 : decode cX10_side 11 = .ok (.iconst 0, 1) := by decide +kernel
theorem dX10_side_12 : decode cX10_side 12 = .ok (.iload_n 1, 1) := by decide +kernel
theorem dX10_side_13 : decode cX10_side 13 = .ok (.invokestatic 98, 3) := by decide +kernel
theorem dX10_side_16 : decode cX10_side 16 = .ok (.istore_n 3, 1) := by decide +kernel
theorem dX10_side_17 : decode cX10_side 17 = .ok (.iload_n 2, 1) := by decide +kernel
theorem dX10_side_18 : decode cX10_side 18 = .ok (.bipush 11, 2) := by decide +kernel
theorem dX10_side_20 : decode cX10_side 20 = .ok (.bipush 17, 2) := by decide +kernel
theorem dX10_side_22 : decode cX10_side 22 = .ok (.invokestatic 190, 3) := by decide +kernel
theorem dX10_side_25 : decode cX10_side 25 = .ok (.ifCond .eq 18, 3) := by decide +kernel
theorem dX10_side_28 : decode cX10_side 28 = .ok (.aload_n 0, 1) := by decide +kernel
theorem dX10_side_29 : decode cX10_side 29 = .ok (.getfield 7, 3) := by decide +kernel
theorem dX10_side_32 : decode cX10_side 32 = .ok (.iload_n 3, 1) := by decide +kernel
theorem dX10_side_33 : decode cX10_side 33 = .ok (.bipush 6, 2) := by decide +kernel
theorem dX10_side_35 : decode cX10_side 35 = .ok (.iadd, 1) := by decide +kernel
theorem dX10_side_36 : decode cX10_side 36 = .ok (.iload_n 2, 1) := by decide +kernel
theorem dX10_side_37 : decode cX10_side 37 = .ok (.iadd, 1) := by decide +kernel
theorem dX10_side_38 : decode cX10_side 38 = .ok (.bipush 10, 2) := by decide +kernel
theorem dX10_side_40 : decode cX10_side 40 = .ok (.isub, 1) := by decide +kernel
theorem dX10_side_41 : decode cX10_side 41 = .ok (.iaload, 1) := by decide +kernel
theorem dX10_side_42 : decode cX10_side 42 = .ok (.ireturn, 1) := by decide +kernel
theorem dX10_side_43 : decode cX10_side 43 = .ok (.iload_n 2, 1) := by decide +kernel
theorem dX10_side_44 : decode cX10_side 44 = .ok (.iconst 0, 1) := by decide +kernel
theorem dX10_side_45 : decode cX10_side 45 = .ok (.bipush 6, 2) := by decide +kernel
theorem dX10_side_47 : decode cX10_side 47 = .ok (.invokestatic 190, 3) := by decide +kernel
theorem dX10_side_50 : decode cX10_side 50 = .ok (.ifCond .ne 5, 3) := by decide +kernel
theorem dX10_side_53 : decode cX10_side 53 = .ok (.iconst (-1), 1) := by decide +kernel
theorem dX10_side_54 : decode cX10_side 54 = .ok (.ireturn, 1) := by decide +kernel
theorem dX10_side_55 : decode cX10_side 55 = .ok (.iload_n 2, 1) := by decide +kernel
theorem dX10_side_56 : decode cX10_side 56 = .ok (.ifCond .le 14, 3) := by decide +kernel
theorem dX10_side_59 : decode cX10_side 59 = .ok (.aload_n 0, 1) := by decide +kernel
theorem dX10_side_60 : decode cX10_side 60 = .ok (.getfield 7, 3) := by decide +kernel
theorem dX10_side_63 : decode cX10_side 63 = .ok (.iload_n 3, 1) := by decide +kernel
theorem dX10_side_64 : decode cX10_side 64 = .ok (.iload_n 2, 1) := by decide +kernel
theorem dX10_side_65 : decode cX10_side 65 = .ok (.iadd, 1) := by decide +kernel
theorem dX10_side_66 : decode cX10_side 66 = .ok (.iconst 1, 1) := by decide +kernel
theorem dX10_side_67 : decode cX10_side 67 = .ok (.isub, 1) := by decide +kernel
theorem dX10_side_68 : decode cX10_side 68 = .ok (.iaload, 1) := by decide +kernel
theorem dX10_side_69 : decode cX10_side 69 = .ok (.ireturn, 1) := by decide +kernel
theorem dX10_side_70 : decode cX10_side 70 = .ok (.iconst 0, 1) := by decide +kernel
theorem dX10_side_71 : decode cX10_side 71 = .ok (.istore 4, 2) := by decide +kernel
theorem dX10_side_73 : decode cX10_side 73 = .ok (.iconst 0, 1) := by decide +kernel
theorem dX10_side_74 : decode cX10_side 74 = .ok (.istore 5, 2) := by decide +kernel
theorem dX10_side_76 : decode cX10_side 76 = .ok (.iload 5, 2) := by decide +kernel
theorem dX10_side_78 : decode cX10_side 78 = .ok (.aload_n 0, 1) := by decide +kernel
theorem dX10_side_79 : decode cX10_side 79 = .ok (.getfield 7, 3) := by decide +kernel
theorem dX10_side_82 : decode cX10_side 82 = .ok (.bipush 48, 2) := by decide +kernel
theorem dX10_side_84 : decode cX10_side 84 = .ok (.iaload, 1) := by decide +kernel
theorem dX10_side_85 : decode cX10_side 85 = .ok (.if_icmp .gt 22, 3) := by decide +kernel
theorem dX10_side_88 : decode cX10_side 88 = .ok (.iload 4, 2) := by decide +kernel
theorem dX10_side_90 : decode cX10_side 90 = .ok (.aload_n 0, 1) := by decide +kernel
theorem dX10_side_91 : decode cX10_side 91 = .ok (.iconst 0, 1) := by decide +kernel
theorem dX10_side_92 : decode cX10_side 92 = .ok (.iload_n 1, 1) := by decide +kernel
theorem dX10_side_93 : decode cX10_side 93 = .ok (.iload 5, 2) := by decide +kernel
theorem dX10_side_95 : decode cX10_side 95 = .ok (.invokevirtual 218, 3) := by decide +kernel
theorem dX10_side_98 : decode cX10_side 98 = .ok (.iadd, 1) := by decide +kernel
theorem dX10_side_99 : decode cX10_side 99 = .ok (.istore 4, 2) := by decide +kernel
theorem dX10_side_101 : decode cX10_side 101 = .ok (.iinc 5 1, 3) := by decide +kernel
theorem dX10_side_104 : decode cX10_side 104 = .ok (.goto (-28), 3) := by decide +kernel
theorem dX10_side_107 : decode cX10_side 107 = .ok (.iload 4, 2) := by decide +kernel
theorem dX10_side_109 : decode cX10_side 109 = .ok (.ireturn, 1) := by decide +kernel
theorem dX10_deeds_0 : decode cX10_deeds 0 = .ok (.iload_n 1, 1) := by decide +kernel
theorem dX10_deeds_1 : decode cX10_deeds 1 = .ok (.iconst 0, 1) := by decide +kernel
theorem dX10_deeds_2 : decode cX10_deeds 2 = .ok (.iconst 1, 1) := by decide +kernel
theorem dX10_deeds_3 : decode cX10_deeds 3 = .ok (.invokestatic 190, 3) := by decide +kernel
theorem dX10_deeds_6 : decode cX10_deeds 6 = .ok (.ifCond .eq 28, 3) := by decide +kernel
theorem dX10_deeds_9 : decode cX10_deeds 9 = .ok (.iload_n 2, 1) := by decide +kernel
theorem dX10_deeds_10 : decode cX10_deeds 10 = .ok (.iconst 0, 1) := by decide +kernel
theorem dX10_deeds_11 : decode cX10_deeds 11 = .ok (.aload_n 0, 1) := by decide +kernel
theorem dX10_deeds_12 : decode cX10_deeds 12 = .ok (.getfield 7, 3) := by decide +kernel
theorem dX10_deeds_15 : decode cX10_deeds 15 = .ok (.bipush 48, 2) := by decide +kernel
theorem dX10_deeds_17 : decode cX10_deeds 17 = .ok (.iaload, 1) := by decide +kernel
theorem dX10_deeds_18 : decode cX10_deeds 18 = .ok (.invokestatic 190, 3) := by decide +kernel
theorem dX10_deeds_21 : decode cX10_deeds 21 = .ok (.ifCond .eq 13, 3) := by decide +kernel
theorem dX10_deeds_24 : decode cX10_deeds 24 = .ok (.aload_n 0, 1) := by decide +kernel
theorem dX10_deeds_25 : decode cX10_deeds 25 = .ok (.iconst 0, 1) := by decide +kernel
theorem dX10_deeds_26 : decode cX10_deeds 26 = .ok (.iload_n 1, 1) := by decide +kernel
theorem dX10_deeds_27 : decode cX10_deeds 27 = .ok (.iload_n 2, 1) := by decide +kernel
theorem dX10_deeds_28 : decode cX10_deeds 28 = .ok (.invokevirtual 218, 3) := by decide +kernel
theorem dX10_deeds_31 : decode cX10_deeds 31 = .ok (.goto 4, 3) := by decide +kernel
theorem dX10_deeds_34 : decode cX10_deeds 34 = .ok (.iconst (-1), 1) := by decide +kernel
theorem dX10_deeds_35 : decode cX10_deeds 35 = .ok (.ireturn, 1) := by decide +kernel
theorem dX10_isDeed_0 : decode cX10_isDeed 0 = .ok (.aload_n 0, 1) := by decide +kernel
theorem dX10_isDeed_1 : decode cX10_isDeed 1 = .ok (.iload_n 1, 1) := by decide +kernel
theorem dX10_isDeed_2 : decode cX10_isDeed 2 = .ok (.iload_n 2, 1) := by decide +kernel
theorem dX10_isDeed_3 : decode cX10_isDeed 3 = .ok (.invokevirtual 230, 3) := by decide +kernel
theorem dX10_isDeed_6 : decode cX10_isDeed 6 = .ok (.ifCond .le 23, 3) := by decide +kernel
theorem dX10_isDeed_9 : decode cX10_isDeed 9 = .ok (.iload_n 3, 1) := by decide +kernel
theorem dX10_isDeed_10 : decode cX10_isDeed 10 = .ok (.iconst 0, 1) := by decide +kernel
theorem dX10_isDeed_11 : decode cX10_isDeed 11 = .ok (.aload_n 0, 1) := by decide +kernel
theorem dX10_isDeed_12 : decode cX10_isDeed 12 = .ok (.iload_n 1, 1) := by decide +kernel
theorem dX10_isDeed_13 : decode cX10_isDeed 13 = .ok (.iload_n 2, 1) := by decide +kernel
theorem dX10_isDeed_14 : decode cX10_isDeed 14 = .ok (.invokevirtual 230, 3) := by decide +kernel
theorem dX10_isDeed_17 : decode cX10_isDeed 17 = .ok (.iconst 1, 1) := by decide +kernel
theorem dX10_isDeed_18 : decode cX10_isDeed 18 = .ok (.isub, 1) := by decide +kernel
theorem dX10_isDeed_19 : decode cX10_isDeed 19 = .ok (.invokestatic 190, 3) := by decide +kernel
theorem dX10_isDeed_22 : decode cX10_isDeed 22 = .ok (.ifCond .eq 7, 3) := by decide +kernel
theorem dX10_isDeed_25 : decode cX10_isDeed 25 = .ok (.iconst 1, 1) := by decide +kernel
theorem dX10_isDeed_26 : decode cX10_isDeed 26 = .ok (.goto 4, 3) := by decide +kernel
theorem dX10_isDeed_29 : decode cX10_isDeed 29 = .ok (.iconst 0, 1) := by decide +kernel
theorem dX10_isDeed_30 : decode cX10_isDeed 30 = .ok (.ireturn, 1) := by decide +kernel
theorem dX10_did_0 : decode cX10_did 0 = .ok (.aload_n 0, 1) := by decide +kernel
theorem dX10_did_1 : decode cX10_did 1 = .ok (.iload_n 1, 1) := by decide +kernel
theorem dX10_did_2 : decode cX10_did 2 = .ok (.iload_n 2, 1) := by decide +kernel
theorem dX10_did_3 : decode cX10_did 3 = .ok (.iload_n 3, 1) := by decide +kernel
theorem dX10_did_4 : decode cX10_did 4 = .ok (.invokevirtual 233, 3) := by decide +kernel
theorem dX10_did_7 : decode cX10_did 7 = .ok (.ifCond .eq 25, 3) := by decide +kernel
theorem dX10_did_10 : decode cX10_did 10 = .ok (.aload_n 0, 1) := by decide +kernel
theorem dX10_did_11 : decode cX10_did 11 = .ok (.getfield 7, 3) := by decide +kernel
theorem dX10_did_14 : decode cX10_did 14 = .ok (.sipush 366, 3) := by decide +kernel
theorem dX10_did_17 : decode cX10_did 17 = .ok (.bipush 75, 2) := by decide +kernel
theorem dX10_did_19 : decode cX10_did 19 = .ok (.iload_n 1, 1) := by decide +kernel
theorem dX10_did_20 : decode cX10_did 20 = .ok (.imul, 1) := by decide +kernel
theorem dX10_did_21 : decode cX10_did 21 = .ok (.iadd, 1) := by decide +kernel
theorem dX10_did_22 : decode cX10_did 22 = .ok (.iconst 3, 1) := by decide +kernel
theorem dX10_did_23 : decode cX10_did 23 = .ok (.iload_n 2, 1) := by decide +kernel
theorem dX10_did_24 : decode cX10_did 24 = .ok (.imul, 1) := by decide +kernel
theorem dX10_did_25 : decode cX10_did 25 = .ok (.iadd, 1) := by decide +kernel
theorem dX10_did_26 : decode cX10_did 26 = .ok (.iload_n 3, 1) := by decide +kernel
theorem dX10_did_27 : decode cX10_did 27 = .ok (.iadd, 1) := by decide +kernel
theorem dX10_did_28 : decode cX10_did 28 = .ok (.iaload, 1) := by decide +kernel
theorem dX10_did_29 : decode cX10_did 29 = .ok (.goto 4, 3) := by decide +kernel
theorem dX10_did_32 : decode cX10_did 32 = .ok (.iconst (-1), 1) := by decide +kernel
theorem dX10_did_33 : decode cX10_did 33 = .ok (.ireturn, 1) := by decide +kernel
theorem dX10_queue_0 : decode cX10_queue 0 = .ok (.iload_n 1, 1) := by decide +kernel
theorem dX10_queue_1 : decode cX10_queue 1 = .ok (.iconst 0, 1) := by decide +kernel
theorem dX10_queue_2 : decode cX10_queue 2 = .ok (.iconst 5, 1) := by decide +kernel
theorem dX10_queue_3 : decode cX10_queue 3 = .ok (.invokestatic 190, 3) := by decide +kernel
theorem dX10_queue_6 : decode cX10_queue 6 = .ok (.ifCond .ne 6, 3) := by decide +kernel
theorem dX10_queue_9 : decode cX10_queue 9 = .ok (.bipush (-2), 2) := by decide +kernel
theorem dX10_queue_11 : decode cX10_queue 11 = .ok (.ireturn, 1) := by decide +kernel
theorem dX10_queue_12 : decode cX10_queue 12 = .ok (.aload_n 0, 1) := by decide +kernel
theorem dX10_queue_13 : decode cX10_queue 13 = .ok (.iconst 0, 1) := by decide +kernel
theorem dX10_queue_14 : decode cX10_queue 14 = .ok (.iload_n 1, 1) := by decide +kernel
theorem dX10_queue_15 : decode cX10_queue 15 = .ok (.invokevirtual 86, 3) := by decide +kernel
theorem dX10_queue_18 : decode cX10_queue 18 = .ok (.istore_n 3, 1) := by decide +kernel
theorem dX10_queue_19 : decode cX10_queue 19 = .ok (.iload_n 2, 1) := by decide +kernel
theorem dX10_queue_20 : decode cX10_queue 20 = .ok (.iconst (-1), 1) := by decide +kernel
theorem dX10_queue_21 : decode cX10_queue 21 = .ok (.if_icmp .ne 5, 3) := by decide +kernel
theorem dX10_queue_24 : decode cX10_queue 24 = .ok (.iload_n 3, 1) := by decide +kernel
theorem dX10_queue_25 : decode cX10_queue 25 = .ok (.ireturn, 1) := by decide +kernel
theorem dX10_queue_26 : decode cX10_queue 26 = .ok (.iload_n 2, 1) := by decide +kernel
theorem dX10_queue_27 : decode cX10_queue 27 = .ok (.iconst 0, 1) := by decide +kernel
theorem dX10_queue_28 : decode cX10_queue 28 = .ok (.iload_n 3, 1) := by decide +kernel
theorem dX10_queue_29 : decode cX10_queue 29 = .ok (.iconst 1, 1) := by decide +kernel
theorem dX10_queue_30 : decode cX10_queue 30 = .ok (.isub, 1) := by decide +kernel
theorem dX10_queue_31 : decode cX10_queue 31 = .ok (.invokestatic 190, 3) := by decide +kernel
theorem dX10_queue_34 : decode cX10_queue 34 = .ok (.ifCond .eq 22, 3) := by decide +kernel
theorem dX10_queue_37 : decode cX10_queue 37 = .ok (.aload_n 0, 1) := by decide +kernel
theorem dX10_queue_38 : decode cX10_queue 38 = .ok (.getfield 7, 3) := by decide +kernel
theorem dX10_queue_41 : decode cX10_queue 41 = .ok (.iconst 0, 1) := by decide +kernel
theorem dX10_queue_42 : decode cX10_queue 42 = .ok (.iload_n 1, 1) := by decide +kernel
theorem dX10_queue_43 : decode cX10_queue 43 = .ok (.invokestatic 83, 3) := by decide +kernel
theorem dX10_queue_46 : decode cX10_queue 46 = .ok (.iconst 1, 1) := by decide +kernel
theorem dX10_queue_47 : decode cX10_queue 47 = .ok (.iadd, 1) := by decide +kernel
theorem dX10_queue_48 : decode cX10_queue 48 = .ok (.iconst 3, 1) := by decide +kernel
theorem dX10_queue_49 : decode cX10_queue 49 = .ok (.iload_n 2, 1) := by decide +kernel
theorem dX10_queue_50 : decode cX10_queue 50 = .ok (.imul, 1) := by decide +kernel
theorem dX10_queue_51 : decode cX10_queue 51 = .ok (.iadd, 1) := by decide +kernel
theorem dX10_queue_52 : decode cX10_queue 52 = .ok (.iaload, 1) := by decide +kernel
theorem dX10_queue_53 : decode cX10_queue 53 = .ok (.goto 5, 3) := by decide +kernel
theorem dX10_queue_56 : decode cX10_queue 56 = .ok (.bipush (-2), 2) := by decide +kernel
theorem dX10_queue_58 : decode cX10_queue 58 = .ok (.ireturn, 1) := by decide +kernel
theorem dX10_roomOf_0 : decode cX10_roomOf 0 = .ok (.iload_n 1, 1) := by decide +kernel
theorem dX10_roomOf_1 : decode cX10_roomOf 1 = .ok (.iconst 0, 1) := by decide +kernel
theorem dX10_roomOf_2 : decode cX10_roomOf 2 = .ok (.iconst 5, 1) := by decide +kernel
theorem dX10_roomOf_3 : decode cX10_roomOf 3 = .ok (.invokestatic 190, 3) := by decide +kernel
theorem dX10_roomOf_6 : decode cX10_roomOf 6 = .ok (.ifCond .eq 16, 3) := by decide +kernel
theorem dX10_roomOf_9 : decode cX10_roomOf 9 = .ok (.aload_n 0, 1) := by decide +kernel
theorem dX10_roomOf_10 : decode cX10_roomOf 10 = .ok (.getfield 7, 3) := by decide +kernel
theorem dX10_roomOf_13 : decode cX10_roomOf 13 = .ok (.sipush 172, 3) := by decide +kernel
theorem dX10_roomOf_16 : decode cX10_roomOf 16 = .ok (.iload_n 1, 1) := by decide +kernel
theorem dX10_roomOf_17 : decode cX10_roomOf 17 = .ok (.iadd, 1) := by decide +kernel
theorem dX10_roomOf_18 : decode cX10_roomOf 18 = .ok (.iaload, 1) := by decide +kernel
theorem dX10_roomOf_19 : decode cX10_roomOf 19 = .ok (.goto 4, 3) := by decide +kernel
theorem dX10_roomOf_22 : decode cX10_roomOf 22 = .ok (.iconst (-1), 1) := by decide +kernel
theorem dX10_roomOf_23 : decode cX10_roomOf 23 = .ok (.ireturn, 1) := by decide +kernel
theorem dX10_cell_0 : decode cX10_cell 0 = .ok (.iload_n 1, 1) := by decide +kernel
theorem dX10_cell_1 : decode cX10_cell 1 = .ok (.iconst 0, 1) := by decide +kernel
theorem dX10_cell_2 : decode cX10_cell 2 = .ok (.bipush 31, 2) := by decide +kernel
theorem dX10_cell_4 : decode cX10_cell 4 = .ok (.invokestatic 190, 3) := by decide +kernel
theorem dX10_cell_7 : decode cX10_cell 7 = .ok (.ifCond .eq 16, 3) := by decide +kernel
theorem dX10_cell_10 : decode cX10_cell 10 = .ok (.aload_n 0, 1) := by decide +kernel
theorem dX10_cell_11 : decode cX10_cell 11 = .ok (.getfield 7, 3) := by decide +kernel
theorem dX10_cell_14 : decode cX10_cell 14 = .ok (.sipush 178, 3) := by decide +kernel
theorem dX10_cell_17 : decode cX10_cell 17 = .ok (.iload_n 1, 1) := by decide +kernel
theorem dX10_cell_18 : decode cX10_cell 18 = .ok (.iadd, 1) := by decide +kernel
theorem dX10_cell_19 : decode cX10_cell 19 = .ok (.iaload, 1) := by decide +kernel
theorem dX10_cell_20 : decode cX10_cell 20 = .ok (.goto 4, 3) := by decide +kernel
theorem dX10_cell_23 : decode cX10_cell 23 = .ok (.iconst (-1), 1) := by decide +kernel
theorem dX10_cell_24 : decode cX10_cell 24 = .ok (.ireturn, 1) := by decide +kernel
theorem dX10_register_0 : decode cX10_register 0 = .ok (.iload_n 1, 1) := by decide +kernel
theorem dX10_register_1 : decode cX10_register 1 = .ok (.iconst 0, 1) := by decide +kernel
theorem dX10_register_2 : decode cX10_register 2 = .ok (.bipush 7, 2) := by decide +kernel
theorem dX10_register_4 : decode cX10_register 4 = .ok (.invokestatic 190, 3) := by decide +kernel
theorem dX10_register_7 : decode cX10_register 7 = .ok (.ifCond .eq 16, 3) := by decide +kernel
theorem dX10_register_10 : decode cX10_register 10 = .ok (.aload_n 0, 1) := by decide +kernel
theorem dX10_register_11 : decode cX10_register 11 = .ok (.getfield 7, 3) := by decide +kernel
theorem dX10_register_14 : decode cX10_register 14 = .ok (.sipush 210, 3) := by decide +kernel
theorem dX10_register_17 : decode cX10_register 17 = .ok (.iload_n 1, 1) := by decide +kernel
theorem dX10_register_18 : decode cX10_register 18 = .ok (.iadd, 1) := by decide +kernel
theorem dX10_register_19 : decode cX10_register 19 = .ok (.iaload, 1) := by decide +kernel
theorem dX10_register_20 : decode cX10_register 20 = .ok (.goto 4, 3) := by decide +kernel
theorem dX10_register_23 : decode cX10_register 23 = .ok (.iconst (-1), 1) := by decide +kernel
theorem dX10_register_24 : decode cX10_register 24 = .ok (.ireturn, 1) := by decide +kernel
theorem dX10_lays_0 : decode cX10_lays 0 = .ok (.aload_n 0, 1) := by decide +kernel
theorem dX10_lays_1 : decode cX10_lays 1 = .ok (.getfield 24, 3) := by decide +kernel
theorem dX10_lays_4 : decode cX10_lays 4 = .ok (.aload_n 0, 1) := by decide +kernel
theorem dX10_lays_5 : decode cX10_lays 5 = .ok (.getfield 236, 3) := by decide +kernel
theorem dX10_lays_8 : decode cX10_lays 8 = .ok (.iload_n 1, 1) := by decide +kernel
theorem dX10_lays_9 : decode cX10_lays 9 = .ok (.iastore, 1) := by decide +kernel
theorem dX10_lays_10 : decode cX10_lays 10 = .ok (.aload_n 0, 1) := by decide +kernel
theorem dX10_lays_11 : decode cX10_lays 11 = .ok (.dup, 1) := by decide +kernel
theorem dX10_lays_12 : decode cX10_lays 12 = .ok (.getfield 236, 3) := by decide +kernel
theorem dX10_lays_15 : decode cX10_lays 15 = .ok (.iconst 1, 1) := by decide +kernel
theorem dX10_lays_16 : decode cX10_lays 16 = .ok (.iadd, 1) := by decide +kernel
theorem dX10_lays_17 : decode cX10_lays 17 = .ok (.putfield 236, 3) := by decide +kernel
theorem dX10_lays_20 : decode cX10_lays 20 = .ok (.return_, 1) := by decide +kernel
theorem dX10_word_0 : decode cX10_word 0 = .ok (.bipush 56, 2) := by decide +kernel
theorem dX10_word_2 : decode cX10_word 2 = .ok (.istore_n 3, 1) := by decide +kernel
theorem dX10_word_3 : decode cX10_word 3 = .ok (.iload_n 3, 1) := by decide +kernel
theorem dX10_word_4 : decode cX10_word 4 = .ok (.ifCond .lt 33, 3) := by decide +kernel
theorem dX10_word_7 : decode cX10_word 7 = .ok (.lload_n 1, 1) := by decide +kernel
theorem dX10_word_8 : decode cX10_word 8 = .ok (.iload_n 3, 1) := by decide +kernel
theorem dX10_word_9 : decode cX10_word 9 = .ok (.lshr, 1) := by decide +kernel
theorem dX10_word_10 : decode cX10_word 10 = .ok (.ldc2_w 239, 3) := by decide +kernel
theorem dX10_word_13 : decode cX10_word 13 = .ok (.land, 1) := by decide +kernel
theorem dX10_word_14 : decode cX10_word 14 = .ok (.lconst 0, 1) := by decide +kernel
theorem dX10_word_15 : decode cX10_word 15 = .ok (.lcmp, 1) := by decide +kernel
theorem dX10_word_16 : decode cX10_word 16 = .ok (.ifCond .eq 15, 3) := by decide +kernel
theorem dX10_word_19 : decode cX10_word 19 = .ok (.aload_n 0, 1) := by decide +kernel
theorem dX10_word_20 : decode cX10_word 20 = .ok (.lload_n 1, 1) := by decide +kernel
theorem dX10_word_21 : decode cX10_word 21 = .ok (.iload_n 3, 1) := by decide +kernel
theorem dX10_word_22 : decode cX10_word 22 = .ok (.lshr, 1) := by decide +kernel
theorem dX10_word_23 : decode cX10_word 23 = .ok (.ldc2_w 239, 3) := by decide +kernel
theorem dX10_word_26 : decode cX10_word 26 = .ok (.land, 1) := by decide +kernel
theorem dX10_word_27 : decode cX10_word 27 = .ok (.l2i, 1) := by decide +kernel
theorem dX10_word_28 : decode cX10_word 28 = .ok (.invokevirtual 241, 3) := by decide +kernel
theorem dX10_word_31 : decode cX10_word 31 = .ok (.iinc 3 (-8), 3) := by decide +kernel
theorem dX10_word_34 : decode cX10_word 34 = .ok (.goto (-31), 3) := by decide +kernel
theorem dX10_word_37 : decode cX10_word 37 = .ok (.return_, 1) := by decide +kernel
theorem dX10_letter_0 : decode cX10_letter 0 = .ok (.aload_n 0, 1) := by decide +kernel
theorem dX10_letter_1 : decode cX10_letter 1 = .ok (.bipush 32, 2) := by decide +kernel
theorem dX10_letter_3 : decode cX10_letter 3 = .ok (.invokevirtual 241, 3) := by decide +kernel
theorem dX10_letter_6 : decode cX10_letter 6 = .ok (.aload_n 0, 1) := by decide +kernel
theorem dX10_letter_7 : decode cX10_letter 7 = .ok (.bipush 97, 2) := by decide +kernel
theorem dX10_letter_9 : decode cX10_letter 9 = .ok (.iload_n 1, 1) := by decide +kernel
theorem dX10_letter_10 : decode cX10_letter 10 = .ok (.iadd, 1) := by decide +kernel
theorem dX10_letter_11 : decode cX10_letter 11 = .ok (.invokevirtual 241, 3) := by decide +kernel
theorem dX10_letter_14 : decode cX10_letter 14 = .ok (.return_, 1) := by decide +kernel
theorem dX10_number_0 : decode cX10_number 0 = .ok (.aload_n 0, 1) := by decide +kernel
theorem dX10_number_1 : decode cX10_number 1 = .ok (.bipush 32, 2) := by decide +kernel
theorem dX10_number_3 : decode cX10_number 3 = .ok (.invokevirtual 241, 3) := by decide +kernel
theorem dX10_number_6 : decode cX10_number 6 = .ok (.iload_n 1, 1) := by decide +kernel
theorem dX10_number_7 : decode cX10_number 7 = .ok (.bipush 99, 2) := by decide +kernel
theorem dX10_number_9 : decode cX10_number 9 = .ok (.if_icmp .le 14, 3) := by decide +kernel
theorem dX10_number_12 : decode cX10_number 12 = .ok (.aload_n 0, 1) := by decide +kernel
theorem dX10_number_13 : decode cX10_number 13 = .ok (.bipush 48, 2) := by decide +kernel
theorem dX10_number_15 : decode cX10_number 15 = .ok (.iload_n 1, 1) := by decide +kernel
theorem dX10_number_16 : decode cX10_number 16 = .ok (.bipush 100, 2) := by decide +kernel
theorem dX10_number_18 : decode cX10_number 18 = .ok (.idiv, 1) := by decide +kernel
theorem dX10_number_19 : decode cX10_number 19 = .ok (.iadd, 1) := by decide +kernel
theorem dX10_number_20 : decode cX10_number 20 = .ok (.invokevirtual 241, 3) := by decide +kernel
theorem dX10_number_23 : decode cX10_number 23 = .ok (.iload_n 1, 1) := by decide +kernel
theorem dX10_number_24 : decode cX10_number 24 = .ok (.bipush 9, 2) := by decide +kernel
theorem dX10_number_26 : decode cX10_number 26 = .ok (.if_icmp .le 17, 3) := by decide +kernel
theorem dX10_number_29 : decode cX10_number 29 = .ok (.aload_n 0, 1) := by decide +kernel
theorem dX10_number_30 : decode cX10_number 30 = .ok (.bipush 48, 2) := by decide +kernel
theorem dX10_number_32 : decode cX10_number 32 = .ok (.iload_n 1, 1) := by decide +kernel
theorem dX10_number_33 : decode cX10_number 33 = .ok (.bipush 10, 2) := by decide +kernel
theorem dX10_number_35 : decode cX10_number 35 = .ok (.idiv, 1) := by decide +kernel
theorem dX10_number_36 : decode cX10_number 36 = .ok (.bipush 10, 2) := by decide +kernel
theorem dX10_number_38 : decode cX10_number 38 = .ok (.irem, 1) := by decide +kernel
theorem dX10_number_39 : decode cX10_number 39 = .ok (.iadd, 1) := by decide +kernel
theorem dX10_number_40 : decode cX10_number 40 = .ok (.invokevirtual 241, 3) := by decide +kernel
theorem dX10_number_43 : decode cX10_number 43 = .ok (.aload_n 0, 1) := by decide +kernel
theorem dX10_number_44 : decode cX10_number 44 = .ok (.bipush 48, 2) := by decide +kernel
theorem dX10_number_46 : decode cX10_number 46 = .ok (.iload_n 1, 1) := by decide +kernel
theorem dX10_number_47 : decode cX10_number 47 = .ok (.bipush 10, 2) := by decide +kernel
theorem dX10_number_49 : decode cX10_number 49 = .ok (.irem, 1) := by decide +kernel
theorem dX10_number_50 : decode cX10_number 50 = .ok (.iadd, 1) := by decide +kernel
theorem dX10_number_51 : decode cX10_number 51 = .ok (.invokevirtual 241, 3) := by decide +kernel
theorem dX10_number_54 : decode cX10_number 54 = .ok (.return_, 1) := by decide +kernel
theorem dX10_decides_0 : decode cX10_decides 0 = .ok (.aload_n 0, 1) := by decide +kernel
theorem dX10_decides_1 : decode cX10_decides 1 = .ok (.aload_n 0, 1) := by decide +kernel
theorem dX10_decides_2 : decode cX10_decides 2 = .ok (.iconst 0, 1) := by decide +kernel
theorem dX10_decides_3 : decode cX10_decides 3 = .ok (.iload_n 1, 1) := by decide +kernel
theorem dX10_decides_4 : decode cX10_decides 4 = .ok (.iconst 1, 1) := by decide +kernel
theorem dX10_decides_5 : decode cX10_decides 5 = .ok (.invokevirtual 54, 3) := by decide +kernel
theorem dX10_decides_8 : decode cX10_decides 8 = .ok (.invokevirtual 244, 3) := by decide +kernel
theorem dX10_decides_11 : decode cX10_decides 11 = .ok (.aload_n 0, 1) := by decide +kernel
theorem dX10_decides_12 : decode cX10_decides 12 = .ok (.aload_n 0, 1) := by decide +kernel
theorem dX10_decides_13 : decode cX10_decides 13 = .ok (.iconst 0, 1) := by decide +kernel
theorem dX10_decides_14 : decode cX10_decides 14 = .ok (.iload_n 1, 1) := by decide +kernel
theorem dX10_decides_15 : decode cX10_decides 15 = .ok (.iconst 3, 1) := by decide +kernel
theorem dX10_decides_16 : decode cX10_decides 16 = .ok (.invokevirtual 54, 3) := by decide +kernel
theorem dX10_decides_19 : decode cX10_decides 19 = .ok (.invokevirtual 241, 3) := by decide +kernel
theorem dX10_decides_22 : decode cX10_decides 22 = .ok (.aload_n 0, 1) := by decide +kernel
theorem dX10_decides_23 : decode cX10_decides 23 = .ok (.bipush 97, 2) := by decide +kernel
theorem dX10_decides_25 : decode cX10_decides 25 = .ok (.aload_n 0, 1) := by decide +kernel
theorem dX10_decides_26 : decode cX10_decides 26 = .ok (.iconst 0, 1) := by decide +kernel
theorem dX10_decides_27 : decode cX10_decides 27 = .ok (.iload_n 1, 1) := by decide +kernel
theorem dX10_decides_28 : decode cX10_decides 28 = .ok (.iconst 2, 1) := by decide +kernel
theorem dX10_decides_29 : decode cX10_decides 29 = .ok (.invokevirtual 54, 3) := by decide +kernel
theorem dX10_decides_32 : decode cX10_decides 32 = .ok (.iadd, 1) := by decide +kernel
theorem dX10_decides_33 : decode cX10_decides 33 = .ok (.invokevirtual 241, 3) := by decide +kernel
theorem dX10_decides_36 : decode cX10_decides 36 = .ok (.aload_n 0, 1) := by decide +kernel
theorem dX10_decides_37 : decode cX10_decides 37 = .ok (.aload_n 0, 1) := by decide +kernel
theorem dX10_decides_38 : decode cX10_decides 38 = .ok (.iconst 0, 1) := by decide +kernel
theorem dX10_decides_39 : decode cX10_decides 39 = .ok (.iload_n 1, 1) := by decide +kernel
theorem dX10_decides_40 : decode cX10_decides 40 = .ok (.iconst 4, 1) := by decide +kernel
theorem dX10_decides_41 : decode cX10_decides 41 = .ok (.invokevirtual 54, 3) := by decide +kernel
theorem dX10_decides_44 : decode cX10_decides 44 = .ok (.invokevirtual 247, 3) := by decide +kernel
theorem dX10_decides_47 : decode cX10_decides 47 = .ok (.return_, 1) := by decide +kernel
theorem dX10_tells_0 : decode cX10_tells 0 = .ok (.iload_n 2, 1) := by decide +kernel
theorem dX10_tells_1 : decode cX10_tells 1 = .ok (.bipush 16, 2) := by decide +kernel
theorem dX10_tells_3 : decode cX10_tells 3 = .ok (.irem, 1) := by decide +kernel
theorem dX10_tells_4 : decode cX10_tells 4 = .ok (.istore_n 3, 1) := by decide +kernel
theorem dX10_tells_5 : decode cX10_tells 5 = .ok (.iload_n 3, 1) := by decide +kernel
theorem dX10_tells_6 : decode cX10_tells 6 = .ok (.iconst 3, 1) := by decide +kernel
theorem dX10_tells_7 : decode cX10_tells 7 = .ok (.if_icmp .eq 9, 3) := by decide +kernel
theorem dX10_tells_10 : decode cX10_tells 10 = .ok (.iload_n 3, 1) := by decide +kernel
theorem dX10_tells_11 : decode cX10_tells 11 = .ok (.bipush 6, 2) := by decide +kernel
theorem dX10_tells_13 : decode cX10_tells 13 = .ok (.if_icmp .ne 7, 3) := by decide +kernel
theorem dX10_tells_16 : decode cX10_tells 16 = .ok (.iconst 1, 1) := by decide +kernel
theorem dX10_tells_17 : decode cX10_tells 17 = .ok (.goto 4, 3) := by decide +kernel
theorem dX10_tells_20 : decode cX10_tells 20 = .ok (.iconst 0, 1) := by decide +kernel
theorem dX10_tells_21 : decode cX10_tells 21 = .ok (.istore 4, 2) := by decide +kernel
theorem dX10_tells_23 : decode cX10_tells 23 = .ok (.aload_n 0, 1) := by decide +kernel
theorem dX10_tells_24 : decode cX10_tells 24 = .ok (.iload_n 3, 1) := by decide +kernel
theorem dX10_tells_25 : decode cX10_tells 25 = .ok (.iconst 1, 1) := by decide +kernel
theorem dX10_tells_26 : decode cX10_tells 26 = .ok (.if_icmp .ne 9, 3) := by decide +kernel
theorem dX10_tells_29 : decode cX10_tells 29 = .ok (.ldc2_w 250, 3) := by decide +kernel
theorem dX10_tells_32 : decode cX10_tells 32 = .ok (.goto 152, 3) := by decide +kernel
theorem dX10_tells_35 : decode cX10_tells 35 = .ok (.iload_n 3, 1) := by decide +kernel
theorem dX10_tells_36 : decode cX10_tells 36 = .ok (.iconst 2, 1) := by decide +kernel
theorem dX10_tells_37 : decode cX10_tells 37 = .ok (.if_icmp .ne 15, 3) := by decide +kernel
theorem dX10_tells_40 : decode cX10_tells 40 = .ok (.aload_n 0, 1) := by decide +kernel
theorem dX10_tells_41 : decode cX10_tells 41 = .ok (.iconst 0, 1) := by decide +kernel
theorem dX10_tells_42 : decode cX10_tells 42 = .ok (.iload_n 1, 1) := by decide +kernel
theorem dX10_tells_43 : decode cX10_tells 43 = .ok (.invokevirtual 58, 3) := by decide +kernel
theorem dX10_tells_46 : decode cX10_tells 46 = .ok (.invokestatic 252, 3) := by decide +kernel
theorem dX10_tells_49 : decode cX10_tells 49 = .ok (.goto 135, 3) := by decide +kernel
theorem dX10_tells_52 : decode cX10_tells 52 = .ok (.iload_n 3, 1) := by decide +kernel
theorem dX10_tells_53 : decode cX10_tells 53 = .ok (.iconst 3, 1) := by decide +kernel
theorem dX10_tells_54 : decode cX10_tells 54 = .ok (.if_icmp .ne 9, 3) := by decide +kernel
theorem dX10_tells_57 : decode cX10_tells 57 = .ok (.ldc2_w 256, 3) := by decide +kernel
theorem dX10_tells_60 : decode cX10_tells 60 = .ok (.goto 124, 3) := by decide +kernel
theorem dX10_tells_63 : decode cX10_tells 63 = .ok (.iload_n 3, 1) := by decide +kernel
theorem dX10_tells_64 : decode cX10_tells 64 = .ok (.iconst 4, 1) := by decide +kernel
theorem dX10_tells_65 : decode cX10_tells 65 = .ok (.if_icmp .ne 9, 3) := by decide +kernel
theorem dX10_tells_68 : decode cX10_tells 68 = .ok (.ldc2_w 258, 3) := by decide +kernel
theorem dX10_tells_71 : decode cX10_tells 71 = .ok (.goto 113, 3) := by decide +kernel
theorem dX10_tells_74 : decode cX10_tells 74 = .ok (.iload_n 3, 1) := by decide +kernel
theorem dX10_tells_75 : decode cX10_tells 75 = .ok (.iconst 5, 1) := by decide +kernel
theorem dX10_tells_76 : decode cX10_tells 76 = .ok (.if_icmp .ne 9, 3) := by decide +kernel
theorem dX10_tells_79 : decode cX10_tells 79 = .ok (.ldc2_w 260, 3) := by decide +kernel
theorem dX10_tells_82 : decode cX10_tells 82 = .ok (.goto 102, 3) := by decide +kernel
theorem dX10_tells_85 : decode cX10_tells 85 = .ok (.iload_n 3, 1) := by decide +kernel
theorem dX10_tells_86 : decode cX10_tells 86 = .ok (.bipush 6, 2) := by decide +kernel
theorem dX10_tells_88 : decode cX10_tells 88 = .ok (.if_icmp .ne 9, 3) := by decide +kernel
theorem dX10_tells_91 : decode cX10_tells 91 = .ok (.ldc2_w 262, 3) := by decide +kernel
theorem dX10_tells_94 : decode cX10_tells 94 = .ok (.goto 90, 3) := by decide +kernel
theorem dX10_tells_97 : decode cX10_tells 97 = .ok (.iload_n 3, 1) := by decide +kernel
theorem dX10_tells_98 : decode cX10_tells 98 = .ok (.bipush 7, 2) := by decide +kernel
theorem dX10_tells_100 : decode cX10_tells 100 = .ok (.if_icmp .ne 9, 3) := by decide +kernel
theorem dX10_tells_103 : decode cX10_tells 103 = .ok (.ldc2_w 264, 3) := by decide +kernel
theorem dX10_tells_106 : decode cX10_tells 106 = .ok (.goto 78, 3) := by decide +kernel
theorem dX10_tells_109 : decode cX10_tells 109 = .ok (.iload_n 3, 1) := by decide +kernel
theorem dX10_tells_110 : decode cX10_tells 110 = .ok (.bipush 8, 2) := by decide +kernel
theorem dX10_tells_112 : decode cX10_tells 112 = .ok (.if_icmp .ne 9, 3) := by decide +kernel
theorem dX10_tells_115 : decode cX10_tells 115 = .ok (.ldc2_w 266, 3) := by decide +kernel
theorem dX10_tells_118 : decode cX10_tells 118 = .ok (.goto 66, 3) := by decide +kernel
theorem dX10_tells_121 : decode cX10_tells 121 = .ok (.iload_n 3, 1) := by decide +kernel
theorem dX10_tells_122 : decode cX10_tells 122 = .ok (.bipush 9, 2) := by decide +kernel
theorem dX10_tells_124 : decode cX10_tells 124 = .ok (.if_icmp .ne 9, 3) := by decide +kernel
theorem dX10_tells_127 : decode cX10_tells 127 = .ok (.ldc2_w 268, 3) := by decide +kernel
theorem dX10_tells_130 : decode cX10_tells 130 = .ok (.goto 54, 3) := by decide +kernel
theorem dX10_tells_133 : decode cX10_tells 133 = .ok (.iload_n 3, 1) := by decide +kernel
theorem dX10_tells_134 : decode cX10_tells 134 = .ok (.bipush 10, 2) := by decide +kernel
theorem dX10_tells_136 : decode cX10_tells 136 = .ok (.if_icmp .ne 9, 3) := by decide +kernel
theorem dX10_tells_139 : decode cX10_tells 139 = .ok (.ldc2_w 270, 3) := by decide +kernel
theorem dX10_tells_142 : decode cX10_tells 142 = .ok (.goto 42, 3) := by decide +kernel
theorem dX10_tells_145 : decode cX10_tells 145 = .ok (.iload_n 3, 1) := by decide +kernel
theorem dX10_tells_146 : decode cX10_tells 146 = .ok (.bipush 11, 2) := by decide +kernel
theorem dX10_tells_148 : decode cX10_tells 148 = .ok (.if_icmp .ne 9, 3) := by decide +kernel
theorem dX10_tells_151 : decode cX10_tells 151 = .ok (.ldc2_w 272, 3) := by decide +kernel
theorem dX10_tells_154 : decode cX10_tells 154 = .ok (.goto 30, 3) := by decide +kernel
theorem dX10_tells_157 : decode cX10_tells 157 = .ok (.iload_n 3, 1) := by decide +kernel
theorem dX10_tells_158 : decode cX10_tells 158 = .ok (.bipush 12, 2) := by decide +kernel
theorem dX10_tells_160 : decode cX10_tells 160 = .ok (.if_icmp .ne 9, 3) := by decide +kernel
theorem dX10_tells_163 : decode cX10_tells 163 = .ok (.ldc2_w 274, 3) := by decide +kernel
theorem dX10_tells_166 : decode cX10_tells 166 = .ok (.goto 18, 3) := by decide +kernel
theorem dX10_tells_169 : decode cX10_tells 169 = .ok (.iload_n 3, 1) := by decide +kernel
theorem dX10_tells_170 : decode cX10_tells 170 = .ok (.bipush 13, 2) := by decide +kernel
theorem dX10_tells_172 : decode cX10_tells 172 = .ok (.if_icmp .ne 9, 3) := by decide +kernel
theorem dX10_tells_175 : decode cX10_tells 175 = .ok (.ldc2_w 276, 3) := by decide +kernel
theorem dX10_tells_178 : decode cX10_tells 178 = .ok (.goto 6, 3) := by decide +kernel
theorem dX10_tells_181 : decode cX10_tells 181 = .ok (.ldc2_w 278, 3) := by decide +kernel
theorem dX10_tells_184 : decode cX10_tells 184 = .ok (.invokevirtual 280, 3) := by decide +kernel
theorem dX10_tells_187 : decode cX10_tells 187 = .ok (.iload_n 3, 1) := by decide +kernel
theorem dX10_tells_188 : decode cX10_tells 188 = .ok (.iconst 1, 1) := by decide +kernel
theorem dX10_tells_189 : decode cX10_tells 189 = .ok (.if_icmp .ne 11, 3) := by decide +kernel
theorem dX10_tells_192 : decode cX10_tells 192 = .ok (.aload_n 0, 1) := by decide +kernel
theorem dX10_tells_193 : decode cX10_tells 193 = .ok (.iload_n 2, 1) := by decide +kernel
theorem dX10_tells_194 : decode cX10_tells 194 = .ok (.bipush 16, 2) := by decide +kernel
theorem dX10_tells_196 : decode cX10_tells 196 = .ok (.idiv, 1) := by decide +kernel
theorem dX10_tells_197 : decode cX10_tells 197 = .ok (.invokevirtual 244, 3) := by decide +kernel
theorem dX10_tells_200 : decode cX10_tells 200 = .ok (.iload 4, 2) := by decide +kernel
theorem dX10_tells_202 : decode cX10_tells 202 = .ok (.ifCond .ne 19, 3) := by decide +kernel
theorem dX10_tells_205 : decode cX10_tells 205 = .ok (.iload_n 3, 1) := by decide +kernel
theorem dX10_tells_206 : decode cX10_tells 206 = .ok (.iconst 5, 1) := by decide +kernel
theorem dX10_tells_207 : decode cX10_tells 207 = .ok (.if_icmp .eq 14, 3) := by decide +kernel
theorem dX10_tells_210 : decode cX10_tells 210 = .ok (.iload_n 3, 1) := by decide +kernel
theorem dX10_tells_211 : decode cX10_tells 211 = .ok (.bipush 8, 2) := by decide +kernel
theorem dX10_tells_213 : decode cX10_tells 213 = .ok (.if_icmp .eq 8, 3) := by decide +kernel
theorem dX10_tells_216 : decode cX10_tells 216 = .ok (.iload_n 3, 1) := by decide +kernel
theorem dX10_tells_217 : decode cX10_tells 217 = .ok (.iconst 2, 1) := by decide +kernel
theorem dX10_tells_218 : decode cX10_tells 218 = .ok (.if_icmp .ne 14, 3) := by decide +kernel
theorem dX10_tells_221 : decode cX10_tells 221 = .ok (.aload_n 0, 1) := by decide +kernel
theorem dX10_tells_222 : decode cX10_tells 222 = .ok (.aload_n 0, 1) := by decide +kernel
theorem dX10_tells_223 : decode cX10_tells 223 = .ok (.iconst 0, 1) := by decide +kernel
theorem dX10_tells_224 : decode cX10_tells 224 = .ok (.iload_n 1, 1) := by decide +kernel
theorem dX10_tells_225 : decode cX10_tells 225 = .ok (.iconst 1, 1) := by decide +kernel
theorem dX10_tells_226 : decode cX10_tells 226 = .ok (.invokevirtual 54, 3) := by decide +kernel
theorem dX10_tells_229 : decode cX10_tells 229 = .ok (.invokevirtual 244, 3) := by decide +kernel
theorem dX10_tells_232 : decode cX10_tells 232 = .ok (.iload 4, 2) := by decide +kernel
theorem dX10_tells_234 : decode cX10_tells 234 = .ok (.ifCond .ne 28, 3) := by decide +kernel
theorem dX10_tells_237 : decode cX10_tells 237 = .ok (.iload_n 3, 1) := by decide +kernel
theorem dX10_tells_238 : decode cX10_tells 238 = .ok (.iconst 4, 1) := by decide +kernel
theorem dX10_tells_239 : decode cX10_tells 239 = .ok (.if_icmp .eq 23, 3) := by decide +kernel
theorem dX10_tells_242 : decode cX10_tells 242 = .ok (.iload_n 3, 1) := by decide +kernel
theorem dX10_tells_243 : decode cX10_tells 243 = .ok (.bipush 7, 2) := by decide +kernel
theorem dX10_tells_245 : decode cX10_tells 245 = .ok (.if_icmp .eq 17, 3) := by decide +kernel
theorem dX10_tells_248 : decode cX10_tells 248 = .ok (.iload_n 3, 1) := by decide +kernel
theorem dX10_tells_249 : decode cX10_tells 249 = .ok (.iconst 2, 1) := by decide +kernel
theorem dX10_tells_250 : decode cX10_tells 250 = .ok (.if_icmp .ne 23, 3) := by decide +kernel
theorem dX10_tells_253 : decode cX10_tells 253 = .ok (.aload_n 0, 1) := by decide +kernel
theorem dX10_tells_254 : decode cX10_tells 254 = .ok (.iconst 0, 1) := by decide +kernel
theorem dX10_tells_255 : decode cX10_tells 255 = .ok (.iload_n 1, 1) := by decide +kernel
theorem dX10_tells_256 : decode cX10_tells 256 = .ok (.invokevirtual 58, 3) := by decide +kernel
theorem dX10_tells_259 : decode cX10_tells 259 = .ok (.ifCond .eq 14, 3) := by decide +kernel
theorem dX10_tells_262 : decode cX10_tells 262 = .ok (.aload_n 0, 1) := by decide +kernel
theorem dX10_tells_263 : decode cX10_tells 263 = .ok (.aload_n 0, 1) := by decide +kernel
theorem dX10_tells_264 : decode cX10_tells 264 = .ok (.iconst 0, 1) := by decide +kernel
theorem dX10_tells_265 : decode cX10_tells 265 = .ok (.iload_n 1, 1) := by decide +kernel
theorem dX10_tells_266 : decode cX10_tells 266 = .ok (.iconst 2, 1) := by decide +kernel
theorem dX10_tells_267 : decode cX10_tells 267 = .ok (.invokevirtual 54, 3) := by decide +kernel
theorem dX10_tells_270 : decode cX10_tells 270 = .ok (.invokevirtual 244, 3) := by decide +kernel
theorem dX10_tells_273 : decode cX10_tells 273 = .ok (.iload_n 3, 1) := by decide +kernel
theorem dX10_tells_274 : decode cX10_tells 274 = .ok (.iconst 2, 1) := by decide +kernel
theorem dX10_tells_275 : decode cX10_tells 275 = .ok (.if_icmp .ne 23, 3) := by decide +kernel
theorem dX10_tells_278 : decode cX10_tells 278 = .ok (.aload_n 0, 1) := by decide +kernel
theorem dX10_tells_279 : decode cX10_tells 279 = .ok (.iconst 0, 1) := by decide +kernel
theorem dX10_tells_280 : decode cX10_tells 280 = .ok (.iload_n 1, 1) := by decide +kernel
theorem dX10_tells_281 : decode cX10_tells 281 = .ok (.invokevirtual 58, 3) := by decide +kernel
theorem dX10_tells_284 : decode cX10_tells 284 = .ok (.ifCond .eq 14, 3) := by decide +kernel
theorem dX10_tells_287 : decode cX10_tells 287 = .ok (.aload_n 0, 1) := by decide +kernel
theorem dX10_tells_288 : decode cX10_tells 288 = .ok (.aload_n 0, 1) := by decide +kernel
theorem dX10_tells_289 : decode cX10_tells 289 = .ok (.iconst 0, 1) := by decide +kernel
theorem dX10_tells_290 : decode cX10_tells 290 = .ok (.iload_n 1, 1) := by decide +kernel
theorem dX10_tells_291 : decode cX10_tells 291 = .ok (.iconst 3, 1) := by decide +kernel
theorem dX10_tells_292 : decode cX10_tells 292 = .ok (.invokevirtual 54, 3) := by decide +kernel
theorem dX10_tells_295 : decode cX10_tells 295 = .ok (.invokevirtual 244, 3) := by decide +kernel
theorem dX10_tells_298 : decode cX10_tells 298 = .ok (.iload_n 3, 1) := by decide +kernel
theorem dX10_tells_299 : decode cX10_tells 299 = .ok (.iconst 2, 1) := by decide +kernel
theorem dX10_tells_300 : decode cX10_tells 300 = .ok (.if_icmp .ne 12, 3) := by decide +kernel
theorem dX10_tells_303 : decode cX10_tells 303 = .ok (.aload_n 0, 1) := by decide +kernel
theorem dX10_tells_304 : decode cX10_tells 304 = .ok (.iconst 0, 1) := by decide +kernel
theorem dX10_tells_305 : decode cX10_tells 305 = .ok (.iload_n 1, 1) := by decide +kernel
theorem dX10_tells_306 : decode cX10_tells 306 = .ok (.invokevirtual 58, 3) := by decide +kernel
theorem dX10_tells_309 : decode cX10_tells 309 = .ok (.ifCond .eq 37, 3) := by decide +kernel
theorem dX10_tells_312 : decode cX10_tells 312 = .ok (.iload 4, 2) := by decide +kernel
theorem dX10_tells_314 : decode cX10_tells 314 = .ok (.ifCond .ne 32, 3) := by decide +kernel
theorem dX10_tells_317 : decode cX10_tells 317 = .ok (.iload_n 3, 1) := by decide +kernel
theorem dX10_tells_318 : decode cX10_tells 318 = .ok (.iconst 4, 1) := by decide +kernel
theorem dX10_tells_319 : decode cX10_tells 319 = .ok (.if_icmp .eq 27, 3) := by decide +kernel
theorem dX10_tells_322 : decode cX10_tells 322 = .ok (.iload_n 3, 1) := by decide +kernel
theorem dX10_tells_323 : decode cX10_tells 323 = .ok (.bipush 7, 2) := by decide +kernel
theorem dX10_tells_325 : decode cX10_tells 325 = .ok (.if_icmp .eq 21, 3) := by decide +kernel
theorem dX10_tells_328 : decode cX10_tells 328 = .ok (.iload_n 3, 1) := by decide +kernel
theorem dX10_tells_329 : decode cX10_tells 329 = .ok (.bipush 9, 2) := by decide +kernel
theorem dX10_tells_331 : decode cX10_tells 331 = .ok (.if_icmp .eq 15, 3) := by decide +kernel
theorem dX10_tells_334 : decode cX10_tells 334 = .ok (.iload_n 3, 1) := by decide +kernel
theorem dX10_tells_335 : decode cX10_tells 335 = .ok (.bipush 11, 2) := by decide +kernel
theorem dX10_tells_337 : decode cX10_tells 337 = .ok (.if_icmp .eq 9, 3) := by decide +kernel
theorem dX10_tells_340 : decode cX10_tells 340 = .ok (.iload_n 3, 1) := by decide +kernel
theorem dX10_tells_341 : decode cX10_tells 341 = .ok (.bipush 12, 2) := by decide +kernel
theorem dX10_tells_343 : decode cX10_tells 343 = .ok (.if_icmp .ne 14, 3) := by decide +kernel
theorem dX10_tells_346 : decode cX10_tells 346 = .ok (.aload_n 0, 1) := by decide +kernel
theorem dX10_tells_347 : decode cX10_tells 347 = .ok (.aload_n 0, 1) := by decide +kernel
theorem dX10_tells_348 : decode cX10_tells 348 = .ok (.iconst 0, 1) := by decide +kernel
theorem dX10_tells_349 : decode cX10_tells 349 = .ok (.iload_n 1, 1) := by decide +kernel
theorem dX10_tells_350 : decode cX10_tells 350 = .ok (.iconst 4, 1) := by decide +kernel
theorem dX10_tells_351 : decode cX10_tells 351 = .ok (.invokevirtual 54, 3) := by decide +kernel
theorem dX10_tells_354 : decode cX10_tells 354 = .ok (.invokevirtual 247, 3) := by decide +kernel
theorem dX10_tells_357 : decode cX10_tells 357 = .ok (.iload_n 3, 1) := by decide +kernel
theorem dX10_tells_358 : decode cX10_tells 358 = .ok (.bipush 10, 2) := by decide +kernel
theorem dX10_tells_360 : decode cX10_tells 360 = .ok (.if_icmp .eq 9, 3) := by decide +kernel
theorem dX10_tells_363 : decode cX10_tells 363 = .ok (.iload_n 3, 1) := by decide +kernel
theorem dX10_tells_364 : decode cX10_tells 364 = .ok (.bipush 13, 2) := by decide +kernel
theorem dX10_tells_366 : decode cX10_tells 366 = .ok (.if_icmp .ne 8, 3) := by decide +kernel
theorem dX10_tells_369 : decode cX10_tells 369 = .ok (.aload_n 0, 1) := by decide +kernel
theorem dX10_tells_370 : decode cX10_tells 370 = .ok (.iload_n 1, 1) := by decide +kernel
theorem dX10_tells_371 : decode cX10_tells 371 = .ok (.invokevirtual 284, 3) := by decide +kernel
theorem dX10_tells_374 : decode cX10_tells 374 = .ok (.return_, 1) := by decide +kernel
theorem dX10_opWord_0 : decode cX10_opWord 0 = .ok (.iload_n 0, 1) := by decide +kernel
theorem dX10_opWord_1 : decode cX10_opWord 1 = .ok (.ifCond .ne 9, 3) := by decide +kernel
theorem dX10_opWord_4 : decode cX10_opWord 4 = .ok (.ldc2_w 287, 3) := by decide +kernel
theorem dX10_opWord_7 : decode cX10_opWord 7 = .ok (.goto 28, 3) := by decide +kernel
theorem dX10_opWord_10 : decode cX10_opWord 10 = .ok (.iload_n 0, 1) := by decide +kernel
theorem dX10_opWord_11 : decode cX10_opWord 11 = .ok (.iconst 1, 1) := by decide +kernel
theorem dX10_opWord_12 : decode cX10_opWord 12 = .ok (.if_icmp .ne 9, 3) := by decide +kernel
theorem dX10_opWord_15 : decode cX10_opWord 15 = .ok (.ldc2_w 289, 3) := by decide +kernel
theorem dX10_opWord_18 : decode cX10_opWord 18 = .ok (.goto 17, 3) := by decide +kernel
theorem dX10_opWord_21 : decode cX10_opWord 21 = .ok (.iload_n 0, 1) := by decide +kernel
theorem dX10_opWord_22 : decode cX10_opWord 22 = .ok (.iconst 2, 1) := by decide +kernel
theorem dX10_opWord_23 : decode cX10_opWord 23 = .ok (.if_icmp .ne 9, 3) := by decide +kernel
theorem dX10_opWord_26 : decode cX10_opWord 26 = .ok (.ldc2_w 291, 3) := by decide +kernel
theorem dX10_opWord_29 : decode cX10_opWord 29 = .ok (.goto 6, 3) := by decide +kernel
theorem dX10_opWord_32 : decode cX10_opWord 32 = .ok (.ldc2_w 293, 3) := by decide +kernel
theorem dX10_opWord_35 : decode cX10_opWord 35 = .ok (.lreturn, 1) := by decide +kernel
theorem dX10_text_0 : decode cX10_text 0 = .ok (.aload_n 0, 1) := by decide +kernel
theorem dX10_text_1 : decode cX10_text 1 = .ok (.iload_n 1, 1) := by decide +kernel
theorem dX10_text_2 : decode cX10_text 2 = .ok (.iload_n 2, 1) := by decide +kernel
theorem dX10_text_3 : decode cX10_text 3 = .ok (.iload_n 3, 1) := by decide +kernel
theorem dX10_text_4 : decode cX10_text 4 = .ok (.invokevirtual 233, 3) := by decide +kernel
theorem dX10_text_7 : decode cX10_text 7 = .ok (.ifCond .ne 5, 3) := by decide +kernel
theorem dX10_text_10 : decode cX10_text 10 = .ok (.iconst (-1), 1) := by decide +kernel
theorem dX10_text_11 : decode cX10_text 11 = .ok (.ireturn, 1) := by decide +kernel
theorem dX10_text_12 : decode cX10_text 12 = .ok (.aload_n 0, 1) := by decide +kernel
theorem dX10_text_13 : decode cX10_text 13 = .ok (.iconst 0, 1) := by decide +kernel
theorem dX10_text_14 : decode cX10_text 14 = .ok (.putfield 236, 3) := by decide +kernel
theorem dX10_text_17 : decode cX10_text 17 = .ok (.aload_n 0, 1) := by decide +kernel
theorem dX10_text_18 : decode cX10_text 18 = .ok (.iload_n 2, 1) := by decide +kernel
theorem dX10_text_19 : decode cX10_text 19 = .ok (.aload_n 0, 1) := by decide +kernel
theorem dX10_text_20 : decode cX10_text 20 = .ok (.iconst 0, 1) := by decide +kernel
theorem dX10_text_21 : decode cX10_text 21 = .ok (.iload_n 1, 1) := by decide +kernel
theorem dX10_text_22 : decode cX10_text 22 = .ok (.iload_n 2, 1) := by decide +kernel
theorem dX10_text_23 : decode cX10_text 23 = .ok (.iload_n 3, 1) := by decide +kernel
theorem dX10_text_24 : decode cX10_text 24 = .ok (.invokevirtual 80, 3) := by decide +kernel
theorem dX10_text_27 : decode cX10_text 27 = .ok (.invokevirtual 295, 3) := by decide +kernel
theorem dX10_text_30 : decode cX10_text 30 = .ok (.iload 4, 2) := by decide +kernel
theorem dX10_text_32 : decode cX10_text 32 = .ok (.iconst 0, 1) := by decide +kernel
theorem dX10_text_33 : decode cX10_text 33 = .ok (.aload_n 0, 1) := by decide +kernel
theorem dX10_text_34 : decode cX10_text 34 = .ok (.getfield 236, 3) := by decide +kernel
theorem dX10_text_37 : decode cX10_text 37 = .ok (.iconst 1, 1) := by decide +kernel
theorem dX10_text_38 : decode cX10_text 38 = .ok (.isub, 1) := by decide +kernel
theorem dX10_text_39 : decode cX10_text 39 = .ok (.invokestatic 190, 3) := by decide +kernel
theorem dX10_text_42 : decode cX10_text 42 = .ok (.ifCond .eq 13, 3) := by decide +kernel
theorem dX10_text_45 : decode cX10_text 45 = .ok (.aload_n 0, 1) := by decide +kernel
theorem dX10_text_46 : decode cX10_text 46 = .ok (.getfield 24, 3) := by decide +kernel
theorem dX10_text_49 : decode cX10_text 49 = .ok (.iload 4, 2) := by decide +kernel
theorem dX10_text_51 : decode cX10_text 51 = .ok (.iaload, 1) := by decide +kernel
theorem dX10_text_52 : decode cX10_text 52 = .ok (.goto 4, 3) := by decide +kernel
theorem dX10_text_55 : decode cX10_text 55 = .ok (.iconst (-1), 1) := by decide +kernel
theorem dX10_text_56 : decode cX10_text 56 = .ok (.ireturn, 1) := by decide +kernel
theorem dX10_byteAt_0 : decode cX10_byteAt 0 = .ok (.iload_n 1, 1) := by decide +kernel
theorem dX10_byteAt_1 : decode cX10_byteAt 1 = .ok (.aload_n 0, 1) := by decide +kernel
theorem dX10_byteAt_2 : decode cX10_byteAt 2 = .ok (.getfield 298, 3) := by decide +kernel
theorem dX10_byteAt_5 : decode cX10_byteAt 5 = .ok (.if_icmp .ge 12, 3) := by decide +kernel
theorem dX10_byteAt_8 : decode cX10_byteAt 8 = .ok (.aload_n 0, 1) := by decide +kernel
theorem dX10_byteAt_9 : decode cX10_byteAt 9 = .ok (.getfield 13, 3) := by decide +kernel
theorem dX10_byteAt_12 : decode cX10_byteAt 12 = .ok (.iload_n 1, 1) := by decide +kernel
theorem dX10_byteAt_13 : decode cX10_byteAt 13 = .ok (.iaload, 1) := by decide +kernel
theorem dX10_byteAt_14 : decode cX10_byteAt 14 = .ok (.goto 4, 3) := by decide +kernel
theorem dX10_byteAt_17 : decode cX10_byteAt 17 = .ok (.iconst (-1), 1) := by decide +kernel
theorem dX10_byteAt_18 : decode cX10_byteAt 18 = .ok (.ireturn, 1) := by decide +kernel
theorem dX10_isLetter_0 : decode cX10_isLetter 0 = .ok (.iload_n 0, 1) := by decide +kernel
theorem dX10_isLetter_1 : decode cX10_isLetter 1 = .ok (.bipush 97, 2) := by decide +kernel
theorem dX10_isLetter_3 : decode cX10_isLetter 3 = .ok (.if_icmp .lt 13, 3) := by decide +kernel
theorem dX10_isLetter_6 : decode cX10_isLetter 6 = .ok (.iload_n 0, 1) := by decide +kernel
theorem dX10_isLetter_7 : decode cX10_isLetter 7 = .ok (.bipush 122, 2) := by decide +kernel
theorem dX10_isLetter_9 : decode cX10_isLetter 9 = .ok (.if_icmp .gt 7, 3) := by decide +kernel
theorem dX10_isLetter_12 : decode cX10_isLetter 12 = .ok (.iconst 1, 1) := by decide +kernel
theorem dX10_isLetter_13 : decode cX10_isLetter 13 = .ok (.goto 4, 3) := by decide +kernel
theorem dX10_isLetter_16 : decode cX10_isLetter 16 = .ok (.iconst 0, 1) := by decide +kernel
theorem dX10_isLetter_17 : decode cX10_isLetter 17 = .ok (.ireturn, 1) := by decide +kernel
theorem dX10_isDigit_0 : decode cX10_isDigit 0 = .ok (.iload_n 0, 1) := by decide +kernel
theorem dX10_isDigit_1 : decode cX10_isDigit 1 = .ok (.bipush 48, 2) := by decide +kernel
theorem dX10_isDigit_3 : decode cX10_isDigit 3 = .ok (.if_icmp .lt 13, 3) := by decide +kernel
theorem dX10_isDigit_6 : decode cX10_isDigit 6 = .ok (.iload_n 0, 1) := by decide +kernel
theorem dX10_isDigit_7 : decode cX10_isDigit 7 = .ok (.bipush 57, 2) := by decide +kernel
theorem dX10_isDigit_9 : decode cX10_isDigit 9 = .ok (.if_icmp .gt 7, 3) := by decide +kernel
theorem dX10_isDigit_12 : decode cX10_isDigit 12 = .ok (.iconst 1, 1) := by decide +kernel
theorem dX10_isDigit_13 : decode cX10_isDigit 13 = .ok (.goto 4, 3) := by decide +kernel
theorem dX10_isDigit_16 : decode cX10_isDigit 16 = .ok (.iconst 0, 1) := by decide +kernel
theorem dX10_isDigit_17 : decode cX10_isDigit 17 = .ok (.ireturn, 1) := by decide +kernel
theorem dX10_takesToken_0 : decode cX10_takesToken 0 = .ok (.aload_n 0, 1) := by decide +kernel
theorem dX10_takesToken_1 : decode cX10_takesToken 1 = .ok (.aload_n 0, 1) := by decide +kernel
theorem dX10_takesToken_2 : decode cX10_takesToken 2 = .ok (.getfield 301, 3) := by decide +kernel
theorem dX10_takesToken_5 : decode cX10_takesToken 5 = .ok (.invokevirtual 304, 3) := by decide +kernel
theorem dX10_takesToken_8 : decode cX10_takesToken 8 = .ok (.bipush 32, 2) := by decide +kernel
theorem dX10_takesToken_10 : decode cX10_takesToken 10 = .ok (.if_icmp .eq 16, 3) := by decide +kernel
theorem dX10_takesToken_13 : decode cX10_takesToken 13 = .ok (.aload_n 0, 1) := by decide +kernel
theorem dX10_takesToken_14 : decode cX10_takesToken 14 = .ok (.aload_n 0, 1) := by decide +kernel
theorem dX10_takesToken_15 : decode cX10_takesToken 15 = .ok (.getfield 301, 3) := by decide +kernel
theorem dX10_takesToken_18 : decode cX10_takesToken 18 = .ok (.invokevirtual 304, 3) := by decide +kernel
theorem dX10_takesToken_21 : decode cX10_takesToken 21 = .ok (.bipush 10, 2) := by decide +kernel
theorem dX10_takesToken_23 : decode cX10_takesToken 23 = .ok (.if_icmp .ne 16, 3) := by decide +kernel
theorem dX10_takesToken_26 : decode cX10_takesToken 26 = .ok (.aload_n 0, 1) := by decide +kernel
theorem dX10_takesToken_27 : decode cX10_takesToken 27 = .ok (.dup, 1) := by decide +kernel
theorem dX10_takesToken_28 : decode cX10_takesToken 28 = .ok (.getfield 301, 3) := by decide +kernel
theorem dX10_takesToken_31 : decode cX10_takesToken 31 = .ok (.iconst 1, 1) := by decide +kernel
theorem dX10_takesToken_32 : decode cX10_takesToken 32 = .ok (.iadd, 1) := by decide +kernel
theorem dX10_takesToken_33 : decode cX10_takesToken 33 = .ok (.putfield 301, 3) := by decide +kernel
theorem dX10_takesToken_36 : decode cX10_takesToken 36 = .ok (.goto (-36), 3) := by decide +kernel
theorem dX10_takesToken_39 : decode cX10_takesToken 39 = .ok (.aload_n 0, 1) := by decide +kernel
theorem dX10_takesToken_40 : decode cX10_takesToken 40 = .ok (.aload_n 0, 1) := by decide +kernel
theorem dX10_takesToken_41 : decode cX10_takesToken 41 = .ok (.getfield 301, 3) := by decide +kernel
theorem dX10_takesToken_44 : decode cX10_takesToken 44 = .ok (.putfield 307, 3) := by decide +kernel
theorem dX10_takesToken_47 : decode cX10_takesToken 47 = .ok (.aload_n 0, 1) := by decide +kernel
theorem dX10_takesToken_48 : decode cX10_takesToken 48 = .ok (.aload_n 0, 1) := by decide +kernel
theorem dX10_takesToken_49 : decode cX10_takesToken 49 = .ok (.getfield 301, 3) := by decide +kernel
theorem dX10_takesToken_52 : decode cX10_takesToken 52 = .ok (.invokevirtual 304, 3) := by decide +kernel
theorem dX10_takesToken_55 : decode cX10_takesToken 55 = .ok (.istore_n 1, 1) := by decide +kernel
theorem dX10_takesToken_56 : decode cX10_takesToken 56 = .ok (.aload_n 0, 1) := by decide +kernel
theorem dX10_takesToken_57 : decode cX10_takesToken 57 = .ok (.lconst 0, 1) := by decide +kernel
theorem dX10_takesToken_58 : decode cX10_takesToken 58 = .ok (.putfield 310, 3) := by decide +kernel
theorem dX10_takesToken_61 : decode cX10_takesToken 61 = .ok (.iload_n 1, 1) := by decide +kernel
theorem dX10_takesToken_62 : decode cX10_takesToken 62 = .ok (.ifCond .ge 11, 3) := by decide +kernel
theorem dX10_takesToken_65 : decode cX10_takesToken 65 = .ok (.aload_n 0, 1) := by decide +kernel
theorem dX10_takesToken_66 : decode cX10_takesToken 66 = .ok (.iconst 0, 1) := by decide +kernel
theorem dX10_takesToken_67 : decode cX10_takesToken 67 = .ok (.putfield 314, 3) := by decide +kernel
theorem dX10_takesToken_70 : decode cX10_takesToken 70 = .ok (.goto 265, 3) := by decide +kernel
theorem dX10_takesToken_73 : decode cX10_takesToken 73 = .ok (.iload_n 1, 1) := by decide +kernel
theorem dX10_takesToken_74 : decode cX10_takesToken 74 = .ok (.invokestatic 317, 3) := by decide +kernel
theorem dX10_takesToken_77 : decode cX10_takesToken 77 = .ok (.ifCond .eq 98, 3) := by decide +kernel
theorem dX10_takesToken_80 : decode cX10_takesToken 80 = .ok (.aload_n 0, 1) := by decide +kernel
theorem dX10_takesToken_81 : decode cX10_takesToken 81 = .ok (.aload_n 0, 1) := by decide +kernel
theorem dX10_takesToken_82 : decode cX10_takesToken 82 = .ok (.getfield 301, 3) := by decide +kernel
theorem dX10_takesToken_85 : decode cX10_takesToken 85 = .ok (.invokevirtual 304, 3) := by decide +kernel
theorem dX10_takesToken_88 : decode cX10_takesToken 88 = .ok (.invokestatic 317, 3) := by decide +kernel
theorem dX10_takesToken_91 : decode cX10_takesToken 91 = .ok (.ifCond .eq 58, 3) := by decide +kernel
theorem dX10_takesToken_94 : decode cX10_takesToken 94 = .ok (.aload_n 0, 1) := by decide +kernel
theorem dX10_takesToken_95 : decode cX10_takesToken 95 = .ok (.aload_n 0, 1) := by decide +kernel
theorem dX10_takesToken_96 : decode cX10_takesToken 96 = .ok (.getfield 301, 3) := by decide +kernel
theorem dX10_takesToken_99 : decode cX10_takesToken 99 = .ok (.aload_n 0, 1) := by decide +kernel
theorem dX10_takesToken_100 : decode cX10_takesToken 100 = .ok (.getfield 307, 3) := by decide +kernel
theorem dX10_takesToken_103 : decode cX10_takesToken 103 = .ok (.isub, 1) := by decide +kernel
theorem dX10_takesToken_104 : decode cX10_takesToken 104 = .ok (.bipush 8, 2) := by decide +kernel
theorem dX10_takesToken_106 : decode cX10_takesToken 106 = .ok (.if_icmp .ge 23, 3) := by decide +kernel
theorem dX10_takesToken_109 : decode cX10_takesToken 109 = .ok (.aload_n 0, 1) := by decide +kernel
theorem dX10_takesToken_110 : decode cX10_takesToken 110 = .ok (.getfield 310, 3) := by decide +kernel
theorem dX10_takesToken_113 : decode cX10_takesToken 113 = .ok (.bipush 8, 2) := by decide +kernel
theorem dX10_takesToken_115 : decode cX10_takesToken 115 = .ok (.lshl, 1) := by decide +kernel
theorem dX10_takesToken_116 : decode cX10_takesToken 116 = .ok (.aload_n 0, 1) := by decide +kernel
theorem dX10_takesToken_117 : decode cX10_takesToken 117 = .ok (.aload_n 0, 1) := by decide +kernel
theorem dX10_takesToken_118 : decode cX10_takesToken 118 = .ok (.getfield 301, 3) := by decide +kernel
theorem dX10_takesToken_121 : decode cX10_takesToken 121 = .ok (.invokevirtual 304, 3) := by decide +kernel
theorem dX10_takesToken_124 : decode cX10_takesToken 124 = .ok (.i2l, 1) := by decide +kernel
theorem dX10_takesToken_125 : decode cX10_takesToken 125 = .ok (.lor, 1) := by decide +kernel
theorem dX10_takesToken_126 : decode cX10_takesToken 126 = .ok (.goto 7, 3) := by decide +kernel
theorem dX10_takesToken_129 : decode cX10_takesToken 129 = .ok (.aload_n 0, 1) := by decide +kernel
theorem dX10_takesToken_130 : decode cX10_takesToken 130 = .ok (.getfield 310, 3) := by decide +kernel
theorem dX10_takesToken_133 : decode cX10_takesToken 133 = .ok (.putfield 310, 3) := by decide +kernel
theorem dX10_takesToken_136 : decode cX10_takesToken 136 = .ok (.aload_n 0, 1) := by decide +kernel
theorem dX10_takesToken_137 : decode cX10_takesToken 137 = .ok (.dup, 1) := by decide +kernel
theorem dX10_takesToken_138 : decode cX10_takesToken 138 = .ok (.getfield 301, 3) := by decide +kernel
theorem dX10_takesToken_141 : decode cX10_takesToken 141 = .ok (.iconst 1, 1) := by decide +kernel
theorem dX10_takesToken_142 : decode cX10_takesToken 142 = .ok (.iadd, 1) := by decide +kernel
theorem dX10_takesToken_143 : decode cX10_takesToken 143 = .ok (.putfield 301, 3) := by decide +kernel
theorem dX10_takesToken_146 : decode cX10_takesToken 146 = .ok (.goto (-66), 3) := by decide +kernel
theorem dX10_takesToken_149 : decode cX10_takesToken 149 = .ok (.aload_n 0, 1) := by decide +kernel
theorem dX10_takesToken_150 : decode cX10_takesToken 150 = .ok (.aload_n 0, 1) := by decide +kernel
theorem dX10_takesToken_151 : decode cX10_takesToken 151 = .ok (.getfield 301, 3) := by decide +kernel
theorem dX10_takesToken_154 : decode cX10_takesToken 154 = .ok (.aload_n 0, 1) := by decide +kernel
theorem dX10_takesToken_155 : decode cX10_takesToken 155 = .ok (.getfield 307, 3) := by decide +kernel
theorem dX10_takesToken_158 : decode cX10_takesToken 158 = .ok (.isub, 1) := by decide +kernel
theorem dX10_takesToken_159 : decode cX10_takesToken 159 = .ok (.bipush 8, 2) := by decide +kernel
theorem dX10_takesToken_161 : decode cX10_takesToken 161 = .ok (.if_icmp .le 7, 3) := by decide +kernel
theorem dX10_takesToken_164 : decode cX10_takesToken 164 = .ok (.iconst 4, 1) := by decide +kernel
theorem dX10_takesToken_165 : decode cX10_takesToken 165 = .ok (.goto 4, 3) := by decide +kernel
theorem dX10_takesToken_168 : decode cX10_takesToken 168 = .ok (.iconst 1, 1) := by decide +kernel
theorem dX10_takesToken_169 : decode cX10_takesToken 169 = .ok (.putfield 314, 3) := by decide +kernel
theorem dX10_takesToken_172 : decode cX10_takesToken 172 = .ok (.goto 163, 3) := by decide +kernel
theorem dX10_takesToken_175 : decode cX10_takesToken 175 = .ok (.iload_n 1, 1) := by decide +kernel
theorem dX10_takesToken_176 : decode cX10_takesToken 176 = .ok (.invokestatic 320, 3) := by decide +kernel
theorem dX10_takesToken_179 : decode cX10_takesToken 179 = .ok (.ifCond .eq 101, 3) := by decide +kernel
theorem dX10_takesToken_182 : decode cX10_takesToken 182 = .ok (.aload_n 0, 1) := by decide +kernel
theorem dX10_takesToken_183 : decode cX10_takesToken 183 = .ok (.aload_n 0, 1) := by decide +kernel
theorem dX10_takesToken_184 : decode cX10_takesToken 184 = .ok (.getfield 301, 3) := by decide +kernel
theorem dX10_takesToken_187 : decode cX10_takesToken 187 = .ok (.invokevirtual 304, 3) := by decide +kernel
theorem dX10_takesToken_190 : decode cX10_takesToken 190 = .ok (.invokestatic 320, 3) := by decide +kernel
theorem dX10_takesToken_193 : decode cX10_takesToken 193 = .ok (.ifCond .eq 62, 3) := by decide +kernel
theorem dX10_takesToken_196 : decode cX10_takesToken 196 = .ok (.aload_n 0, 1) := by decide +kernel
theorem dX10_takesToken_197 : decode cX10_takesToken 197 = .ok (.aload_n 0, 1) := by decide +kernel
theorem dX10_takesToken_198 : decode cX10_takesToken 198 = .ok (.getfield 301, 3) := by decide +kernel
theorem dX10_takesToken_201 : decode cX10_takesToken 201 = .ok (.aload_n 0, 1) := by decide +kernel
theorem dX10_takesToken_202 : decode cX10_takesToken 202 = .ok (.getfield 307, 3) := by decide +kernel
theorem dX10_takesToken_205 : decode cX10_takesToken 205 = .ok (.isub, 1) := by decide +kernel
theorem dX10_takesToken_206 : decode cX10_takesToken 206 = .ok (.iconst 3, 1) := by decide +kernel
theorem dX10_takesToken_207 : decode cX10_takesToken 207 = .ok (.if_icmp .ge 28, 3) := by decide +kernel
theorem dX10_takesToken_210 : decode cX10_takesToken 210 = .ok (.ldc2_w 323, 3) := by decide +kernel
theorem dX10_takesToken_213 : decode cX10_takesToken 213 = .ok (.aload_n 0, 1) := by decide +kernel
theorem dX10_takesToken_214 : decode cX10_takesToken 214 = .ok (.getfield 310, 3) := by decide +kernel
theorem dX10_takesToken_217 : decode cX10_takesToken 217 = .ok (.lmul, 1) := by decide +kernel
theorem dX10_takesToken_218 : decode cX10_takesToken 218 = .ok (.aload_n 0, 1) := by decide +kernel
theorem dX10_takesToken_219 : decode cX10_takesToken 219 = .ok (.aload_n 0, 1) := by decide +kernel
theorem dX10_takesToken_220 : decode cX10_takesToken 220 = .ok (.getfield 301, 3) := by decide +kernel
theorem dX10_takesToken_223 : decode cX10_takesToken 223 = .ok (.invokevirtual 304, 3) := by decide +kernel
theorem dX10_takesToken_226 : decode cX10_takesToken 226 = .ok (.i2l, 1) := by decide +kernel
theorem dX10_takesToken_227 : decode cX10_takesToken 227 = .ok (.ladd, 1) := by decide +kernel
theorem dX10_takesToken_228 : decode cX10_takesToken 228 = .ok (.ldc2_w 325, 3) := by decide +kernel
theorem dX10_takesToken_231 : decode cX10_takesToken 231 = .ok (.lsub, 1) := by decide +kernel
theorem dX10_takesToken_232 : decode cX10_takesToken 232 = .ok (.goto 7, 3) := by decide +kernel
theorem dX10_takesToken_235 : decode cX10_takesToken 235 = .ok (.aload_n 0, 1) := by decide +kernel
theorem dX10_takesToken_236 : decode cX10_takesToken 236 = .ok (.getfield 310, 3) := by decide +kernel
theorem dX10_takesToken_239 : decode cX10_takesToken 239 = .ok (.putfield 310, 3) := by decide +kernel
theorem dX10_takesToken_242 : decode cX10_takesToken 242 = .ok (.aload_n 0, 1) := by decide +kernel
theorem dX10_takesToken_243 : decode cX10_takesToken 243 = .ok (.dup, 1) := by decide +kernel
theorem dX10_takesToken_244 : decode cX10_takesToken 244 = .ok (.getfield 301, 3) := by decide +kernel
theorem dX10_takesToken_247 : decode cX10_takesToken 247 = .ok (.iconst 1, 1) := by decide +kernel
theorem dX10_takesToken_248 : decode cX10_takesToken 248 = .ok (.iadd, 1) := by decide +kernel
theorem dX10_takesToken_249 : decode cX10_takesToken 249 = .ok (.putfield 301, 3) := by decide +kernel
theorem dX10_takesToken_252 : decode cX10_takesToken 252 = .ok (.goto (-70), 3) := by decide +kernel
theorem dX10_takesToken_255 : decode cX10_takesToken 255 = .ok (.aload_n 0, 1) := by decide +kernel
theorem dX10_takesToken_256 : decode cX10_takesToken 256 = .ok (.aload_n 0, 1) := by decide +kernel
theorem dX10_takesToken_257 : decode cX10_takesToken 257 = .ok (.getfield 301, 3) := by decide +kernel
theorem dX10_takesToken_260 : decode cX10_takesToken 260 = .ok (.aload_n 0, 1) := by decide +kernel
theorem dX10_takesToken_261 : decode cX10_takesToken 261 = .ok (.getfield 307, 3) := by decide +kernel
theorem dX10_takesToken_264 : decode cX10_takesToken 264 = .ok (.isub, 1) := by decide +kernel
theorem dX10_takesToken_265 : decode cX10_takesToken 265 = .ok (.iconst 3, 1) := by decide +kernel
theorem dX10_takesToken_266 : decode cX10_takesToken 266 = .ok (.if_icmp .le 7, 3) := by decide +kernel
theorem dX10_takesToken_269 : decode cX10_takesToken 269 = .ok (.iconst 4, 1) := by decide +kernel
theorem dX10_takesToken_270 : decode cX10_takesToken 270 = .ok (.goto 4, 3) := by decide +kernel
theorem dX10_takesToken_273 : decode cX10_takesToken 273 = .ok (.iconst 2, 1) := by decide +kernel
theorem dX10_takesToken_274 : decode cX10_takesToken 274 = .ok (.putfield 314, 3) := by decide +kernel
theorem dX10_takesToken_277 : decode cX10_takesToken 277 = .ok (.goto 58, 3) := by decide +kernel
theorem dX10_takesToken_280 : decode cX10_takesToken 280 = .ok (.aload_n 0, 1) := by decide +kernel
theorem dX10_takesToken_281 : decode cX10_takesToken 281 = .ok (.dup, 1) := by decide +kernel
theorem dX10_takesToken_282 : decode cX10_takesToken 282 = .ok (.getfield 301, 3) := by decide +kernel
theorem dX10_takesToken_285 : decode cX10_takesToken 285 = .ok (.iconst 1, 1) := by decide +kernel
theorem dX10_takesToken_286 : decode cX10_takesToken 286 = .ok (.iadd, 1) := by decide +kernel
theorem dX10_takesToken_287 : decode cX10_takesToken 287 = .ok (.putfield 301, 3) := by decide +kernel
theorem dX10_takesToken_290 : decode cX10_takesToken 290 = .ok (.aload_n 0, 1) := by decide +kernel
theorem dX10_takesToken_291 : decode cX10_takesToken 291 = .ok (.iload_n 1, 1) := by decide +kernel
theorem dX10_takesToken_292 : decode cX10_takesToken 292 = .ok (.i2l, 1) := by decide +kernel
theorem dX10_takesToken_293 : decode cX10_takesToken 293 = .ok (.putfield 310, 3) := by decide +kernel
theorem dX10_takesToken_296 : decode cX10_takesToken 296 = .ok (.aload_n 0, 1) := by decide +kernel
theorem dX10_takesToken_297 : decode cX10_takesToken 297 = .ok (.iload_n 1, 1) := by decide +kernel
theorem dX10_takesToken_298 : decode cX10_takesToken 298 = .ok (.bipush 59, 2) := by decide +kernel
theorem dX10_takesToken_300 : decode cX10_takesToken 300 = .ok (.if_icmp .eq 27, 3) := by decide +kernel
theorem dX10_takesToken_303 : decode cX10_takesToken 303 = .ok (.iload_n 1, 1) := by decide +kernel
theorem dX10_takesToken_304 : decode cX10_takesToken 304 = .ok (.bipush 58, 2) := by decide +kernel
theorem dX10_takesToken_306 : decode cX10_takesToken 306 = .ok (.if_icmp .eq 21, 3) := by decide +kernel
theorem dX10_takesToken_309 : decode cX10_takesToken 309 = .ok (.iload_n 1, 1) := by decide +kernel
theorem dX10_takesToken_310 : decode cX10_takesToken 310 = .ok (.bipush 60, 2) := by decide +kernel
theorem dX10_takesToken_312 : decode cX10_takesToken 312 = .ok (.if_icmp .eq 15, 3) := by decide +kernel
theorem dX10_takesToken_315 : decode cX10_takesToken 315 = .ok (.iload_n 1, 1) := by decide +kernel
theorem dX10_takesToken_316 : decode cX10_takesToken 316 = .ok (.bipush 61, 2) := by decide +kernel
theorem dX10_takesToken_318 : decode cX10_takesToken 318 = .ok (.if_icmp .eq 9, 3) := by decide +kernel
theorem dX10_takesToken_321 : decode cX10_takesToken 321 = .ok (.iload_n 1, 1) := by decide +kernel
theorem dX10_takesToken_322 : decode cX10_takesToken 322 = .ok (.bipush 62, 2) := by decide +kernel
theorem dX10_takesToken_324 : decode cX10_takesToken 324 = .ok (.if_icmp .ne 7, 3) := by decide +kernel
theorem dX10_takesToken_327 : decode cX10_takesToken 327 = .ok (.iconst 3, 1) := by decide +kernel
theorem dX10_takesToken_328 : decode cX10_takesToken 328 = .ok (.goto 4, 3) := by decide +kernel
theorem dX10_takesToken_331 : decode cX10_takesToken 331 = .ok (.iconst 4, 1) := by decide +kernel
theorem dX10_takesToken_332 : decode cX10_takesToken 332 = .ok (.putfield 314, 3) := by decide +kernel
theorem dX10_takesToken_335 : decode cX10_takesToken 335 = .ok (.return_, 1) := by decide +kernel
theorem dX10_fails_0 : decode cX10_fails 0 = .ok (.aload_n 0, 1) := by decide +kernel
theorem dX10_fails_1 : decode cX10_fails 1 = .ok (.getfield 227, 3) := by decide +kernel
theorem dX10_fails_4 : decode cX10_fails 4 = .ok (.ifCond .le 4, 3) := by decide +kernel
theorem dX10_fails_7 : decode cX10_fails 7 = .ok (.return_, 1) := by decide +kernel
theorem dX10_fails_8 : decode cX10_fails 8 = .ok (.aload_n 0, 1) := by decide +kernel
theorem dX10_fails_9 : decode cX10_fails 9 = .ok (.iconst 1, 1) := by decide +kernel
theorem dX10_fails_10 : decode cX10_fails 10 = .ok (.putfield 227, 3) := by decide +kernel
theorem dX10_fails_13 : decode cX10_fails 13 = .ok (.aload_n 0, 1) := by decide +kernel
theorem dX10_fails_14 : decode cX10_fails 14 = .ok (.aload_n 0, 1) := by decide +kernel
theorem dX10_fails_15 : decode cX10_fails 15 = .ok (.getfield 307, 3) := by decide +kernel
theorem dX10_fails_18 : decode cX10_fails 18 = .ok (.putfield 20, 3) := by decide +kernel
theorem dX10_fails_21 : decode cX10_fails 21 = .ok (.return_, 1) := by decide +kernel
theorem dX10_isGood_0 : decode cX10_isGood 0 = .ok (.aload_n 0, 1) := by decide +kernel
theorem dX10_isGood_1 : decode cX10_isGood 1 = .ok (.getfield 227, 3) := by decide +kernel
theorem dX10_isGood_4 : decode cX10_isGood 4 = .ok (.ifCond .ne 7, 3) := by decide +kernel
theorem dX10_isGood_7 : decode cX10_isGood 7 = .ok (.iconst 1, 1) := by decide +kernel
theorem dX10_isGood_8 : decode cX10_isGood 8 = .ok (.goto 4, 3) := by decide +kernel
theorem dX10_isGood_11 : decode cX10_isGood 11 = .ok (.iconst 0, 1) := by decide +kernel
theorem dX10_isGood_12 : decode cX10_isGood 12 = .ok (.ireturn, 1) := by decide +kernel
theorem dX10_alsoWrong_0 : decode cX10_alsoWrong 0 = .ok (.aload_n 0, 1) := by decide +kernel
theorem dX10_alsoWrong_1 : decode cX10_alsoWrong 1 = .ok (.getfield 327, 3) := by decide +kernel
theorem dX10_alsoWrong_4 : decode cX10_alsoWrong 4 = .ok (.ifCond .le 28, 3) := by decide +kernel
theorem dX10_alsoWrong_7 : decode cX10_alsoWrong 7 = .ok (.iload_n 2, 1) := by decide +kernel
theorem dX10_alsoWrong_8 : decode cX10_alsoWrong 8 = .ok (.aload_n 0, 1) := by decide +kernel
theorem dX10_alsoWrong_9 : decode cX10_alsoWrong 9 = .ok (.getfield 330, 3) := by decide +kernel
theorem dX10_alsoWrong_12 : decode cX10_alsoWrong 12 = .ok (.if_icmp .gt 19, 3) := by decide +kernel
theorem dX10_alsoWrong_15 : decode cX10_alsoWrong 15 = .ok (.iload_n 2, 1) := by decide +kernel
theorem dX10_alsoWrong_16 : decode cX10_alsoWrong 16 = .ok (.aload_n 0, 1) := by decide +kernel
theorem dX10_alsoWrong_17 : decode cX10_alsoWrong 17 = .ok (.getfield 330, 3) := by decide +kernel
theorem dX10_alsoWrong_20 : decode cX10_alsoWrong 20 = .ok (.if_icmp .ne 12, 3) := by decide +kernel
theorem dX10_alsoWrong_23 : decode cX10_alsoWrong 23 = .ok (.iload_n 1, 1) := by decide +kernel
theorem dX10_alsoWrong_24 : decode cX10_alsoWrong 24 = .ok (.aload_n 0, 1) := by decide +kernel
theorem dX10_alsoWrong_25 : decode cX10_alsoWrong 25 = .ok (.getfield 327, 3) := by decide +kernel
theorem dX10_alsoWrong_28 : decode cX10_alsoWrong 28 = .ok (.if_icmp .lt 4, 3) := by decide +kernel
theorem dX10_alsoWrong_31 : decode cX10_alsoWrong 31 = .ok (.return_, 1) := by decide +kernel
theorem dX10_alsoWrong_32 : decode cX10_alsoWrong 32 = .ok (.aload_n 0, 1) := by decide +kernel
theorem dX10_alsoWrong_33 : decode cX10_alsoWrong 33 = .ok (.iload_n 1, 1) := by decide +kernel
theorem dX10_alsoWrong_34 : decode cX10_alsoWrong 34 = .ok (.putfield 327, 3) := by decide +kernel
theorem dX10_alsoWrong_37 : decode cX10_alsoWrong 37 = .ok (.aload_n 0, 1) := by decide +kernel
theorem dX10_alsoWrong_38 : decode cX10_alsoWrong 38 = .ok (.iload_n 2, 1) := by decide +kernel
theorem dX10_alsoWrong_39 : decode cX10_alsoWrong 39 = .ok (.putfield 330, 3) := by decide +kernel
theorem dX10_alsoWrong_42 : decode cX10_alsoWrong 42 = .ok (.return_, 1) := by decide +kernel
theorem dX10_isWord_0 : decode cX10_isWord 0 = .ok (.aload_n 0, 1) := by decide +kernel
theorem dX10_isWord_1 : decode cX10_isWord 1 = .ok (.invokevirtual 333, 3) := by decide +kernel
theorem dX10_isWord_4 : decode cX10_isWord 4 = .ok (.ifCond .eq 24, 3) := by decide +kernel
theorem dX10_isWord_7 : decode cX10_isWord 7 = .ok (.aload_n 0, 1) := by decide +kernel
theorem dX10_isWord_8 : decode cX10_isWord 8 = .ok (.getfield 314, 3) := by decide +kernel
theorem dX10_isWord_11 : decode cX10_isWord 11 = .ok (.iconst 1, 1) := by decide +kernel
theorem dX10_isWord_12 : decode cX10_isWord 12 = .ok (.if_icmp .ne 16, 3) := by decide +kernel
theorem dX10_isWord_15 : decode cX10_isWord 15 = .ok (.aload_n 0, 1) := by decide +kernel
theorem dX10_isWord_16 : decode cX10_isWord 16 = .ok (.getfield 310, 3) := by decide +kernel
theorem dX10_isWord_19 : decode cX10_isWord 19 = .ok (.lload_n 1, 1) := by decide +kernel
theorem dX10_isWord_20 : decode cX10_isWord 20 = .ok (.lcmp, 1) := by decide +kernel
theorem dX10_isWord_21 : decode cX10_isWord 21 = .ok (.ifCond .ne 7, 3) := by decide +kernel
theorem dX10_isWord_24 : decode cX10_isWord 24 = .ok (.iconst 1, 1) := by decide +kernel
theorem dX10_isWord_25 : decode cX10_isWord 25 = .ok (.goto 4, 3) := by decide +kernel
theorem dX10_isWord_28 : decode cX10_isWord 28 = .ok (.iconst 0, 1) := by decide +kernel
theorem dX10_isWord_29 : decode cX10_isWord 29 = .ok (.ireturn, 1) := by decide +kernel
theorem dX10_hasWord_0 : decode cX10_hasWord 0 = .ok (.aload_n 0, 1) := by decide +kernel
theorem dX10_hasWord_1 : decode cX10_hasWord 1 = .ok (.lload_n 1, 1) := by decide +kernel
theorem dX10_hasWord_2 : decode cX10_hasWord 2 = .ok (.invokevirtual 337, 3) := by decide +kernel
theorem dX10_hasWord_5 : decode cX10_hasWord 5 = .ok (.istore_n 3, 1) := by decide +kernel
theorem dX10_hasWord_6 : decode cX10_hasWord 6 = .ok (.iload_n 3, 1) := by decide +kernel
theorem dX10_hasWord_7 : decode cX10_hasWord 7 = .ok (.ifCond .eq 7, 3) := by decide +kernel
theorem dX10_hasWord_10 : decode cX10_hasWord 10 = .ok (.aload_n 0, 1) := by decide +kernel
theorem dX10_hasWord_11 : decode cX10_hasWord 11 = .ok (.invokevirtual 341, 3) := by decide +kernel
theorem dX10_hasWord_14 : decode cX10_hasWord 14 = .ok (.iload_n 3, 1) := by decide +kernel
theorem dX10_hasWord_15 : decode cX10_hasWord 15 = .ok (.ireturn, 1) := by decide +kernel
theorem dX10_sign_0 : decode cX10_sign 0 = .ok (.aload_n 0, 1) := by decide +kernel
theorem dX10_sign_1 : decode cX10_sign 1 = .ok (.invokevirtual 333, 3) := by decide +kernel
theorem dX10_sign_4 : decode cX10_sign 4 = .ok (.ifCond .ne 4, 3) := by decide +kernel
theorem dX10_sign_7 : decode cX10_sign 7 = .ok (.return_, 1) := by decide +kernel
theorem dX10_sign_8 : decode cX10_sign 8 = .ok (.aload_n 0, 1) := by decide +kernel
theorem dX10_sign_9 : decode cX10_sign 9 = .ok (.getfield 314, 3) := by decide +kernel
theorem dX10_sign_12 : decode cX10_sign 12 = .ok (.iconst 3, 1) := by decide +kernel
theorem dX10_sign_13 : decode cX10_sign 13 = .ok (.if_icmp .ne 20, 3) := by decide +kernel
theorem dX10_sign_16 : decode cX10_sign 16 = .ok (.aload_n 0, 1) := by decide +kernel
theorem dX10_sign_17 : decode cX10_sign 17 = .ok (.getfield 310, 3) := by decide +kernel
theorem dX10_sign_20 : decode cX10_sign 20 = .ok (.iload_n 1, 1) := by decide +kernel
theorem dX10_sign_21 : decode cX10_sign 21 = .ok (.i2l, 1) := by decide +kernel
theorem dX10_sign_22 : decode cX10_sign 22 = .ok (.lcmp, 1) := by decide +kernel
theorem dX10_sign_23 : decode cX10_sign 23 = .ok (.ifCond .ne 10, 3) := by decide +kernel
theorem dX10_sign_26 : decode cX10_sign 26 = .ok (.aload_n 0, 1) := by decide +kernel
theorem dX10_sign_27 : decode cX10_sign 27 = .ok (.invokevirtual 341, 3) := by decide +kernel
theorem dX10_sign_30 : decode cX10_sign 30 = .ok (.goto 7, 3) := by decide +kernel
theorem dX10_sign_33 : decode cX10_sign 33 = .ok (.aload_n 0, 1) := by decide +kernel
theorem dX10_sign_34 : decode cX10_sign 34 = .ok (.invokevirtual 344, 3) := by decide +kernel
theorem dX10_sign_37 : decode cX10_sign 37 = .ok (.return_, 1) := by decide +kernel
theorem dX10_numeral_0 : decode cX10_numeral 0 = .ok (.aload_n 0, 1) := by decide +kernel
theorem dX10_numeral_1 : decode cX10_numeral 1 = .ok (.invokevirtual 333, 3) := by decide +kernel
theorem dX10_numeral_4 : decode cX10_numeral 4 = .ok (.ifCond .eq 15, 3) := by decide +kernel
theorem dX10_numeral_7 : decode cX10_numeral 7 = .ok (.aload_n 0, 1) := by decide +kernel
theorem dX10_numeral_8 : decode cX10_numeral 8 = .ok (.getfield 314, 3) := by decide +kernel
theorem dX10_numeral_11 : decode cX10_numeral 11 = .ok (.iconst 2, 1) := by decide +kernel
theorem dX10_numeral_12 : decode cX10_numeral 12 = .ok (.if_icmp .eq 7, 3) := by decide +kernel
theorem dX10_numeral_15 : decode cX10_numeral 15 = .ok (.aload_n 0, 1) := by decide +kernel
theorem dX10_numeral_16 : decode cX10_numeral 16 = .ok (.invokevirtual 344, 3) := by decide +kernel
theorem dX10_numeral_19 : decode cX10_numeral 19 = .ok (.aload_n 0, 1) := by decide +kernel
theorem dX10_numeral_20 : decode cX10_numeral 20 = .ok (.invokevirtual 333, 3) := by decide +kernel
theorem dX10_numeral_23 : decode cX10_numeral 23 = .ok (.ifCond .ne 5, 3) := by decide +kernel
theorem dX10_numeral_26 : decode cX10_numeral 26 = .ok (.iload_n 1, 1) := by decide +kernel
theorem dX10_numeral_27 : decode cX10_numeral 27 = .ok (.ireturn, 1) := by decide +kernel
theorem dX10_numeral_28 : decode cX10_numeral 28 = .ok (.aload_n 0, 1) := by decide +kernel
theorem dX10_numeral_29 : decode cX10_numeral 29 = .ok (.getfield 310, 3) := by decide +kernel
theorem dX10_numeral_32 : decode cX10_numeral 32 = .ok (.iload_n 1, 1) := by decide +kernel
theorem dX10_numeral_33 : decode cX10_numeral 33 = .ok (.i2l, 1) := by decide +kernel
theorem dX10_numeral_34 : decode cX10_numeral 34 = .ok (.lcmp, 1) := by decide +kernel
theorem dX10_numeral_35 : decode cX10_numeral 35 = .ok (.ifCond .lt 17, 3) := by decide +kernel
theorem dX10_numeral_38 : decode cX10_numeral 38 = .ok (.aload_n 0, 1) := by decide +kernel
theorem dX10_numeral_39 : decode cX10_numeral 39 = .ok (.getfield 310, 3) := by decide +kernel
theorem dX10_numeral_42 : decode cX10_numeral 42 = .ok (.iload_n 2, 1) := by decide +kernel
theorem dX10_numeral_43 : decode cX10_numeral 43 = .ok (.i2l, 1) := by decide +kernel
theorem dX10_numeral_44 : decode cX10_numeral 44 = .ok (.lcmp, 1) := by decide +kernel
theorem dX10_numeral_45 : decode cX10_numeral 45 = .ok (.ifCond .gt 7, 3) := by decide +kernel
theorem dX10_numeral_48 : decode cX10_numeral 48 = .ok (.iconst 1, 1) := by decide +kernel
theorem dX10_numeral_49 : decode cX10_numeral 49 = .ok (.goto 4, 3) := by decide +kernel
theorem dX10_numeral_52 : decode cX10_numeral 52 = .ok (.iconst 0, 1) := by decide +kernel
theorem dX10_numeral_53 : decode cX10_numeral 53 = .ok (.istore_n 3, 1) := by decide +kernel
theorem dX10_numeral_54 : decode cX10_numeral 54 = .ok (.iload_n 3, 1) := by decide +kernel
theorem dX10_numeral_55 : decode cX10_numeral 55 = .ok (.ifCond .eq 11, 3) := by decide +kernel
theorem dX10_numeral_58 : decode cX10_numeral 58 = .ok (.aload_n 0, 1) := by decide +kernel
theorem dX10_numeral_59 : decode cX10_numeral 59 = .ok (.getfield 310, 3) := by decide +kernel
theorem dX10_numeral_62 : decode cX10_numeral 62 = .ok (.l2i, 1) := by decide +kernel
theorem dX10_numeral_63 : decode cX10_numeral 63 = .ok (.goto 4, 3) := by decide +kernel
theorem dX10_numeral_66 : decode cX10_numeral 66 = .ok (.iload_n 1, 1) := by decide +kernel
theorem dX10_numeral_67 : decode cX10_numeral 67 = .ok (.istore 4, 2) := by decide +kernel
theorem dX10_numeral_69 : decode cX10_numeral 69 = .ok (.iload_n 3, 1) := by decide +kernel
theorem dX10_numeral_70 : decode cX10_numeral 70 = .ok (.ifCond .ne 12, 3) := by decide +kernel
theorem dX10_numeral_73 : decode cX10_numeral 73 = .ok (.aload_n 0, 1) := by decide +kernel
theorem dX10_numeral_74 : decode cX10_numeral 74 = .ok (.iconst 2, 1) := by decide +kernel
theorem dX10_numeral_75 : decode cX10_numeral 75 = .ok (.aload_n 0, 1) := by decide +kernel
theorem dX10_numeral_76 : decode cX10_numeral 76 = .ok (.getfield 307, 3) := by decide +kernel
theorem dX10_numeral_79 : decode cX10_numeral 79 = .ok (.invokevirtual 347, 3) := by decide +kernel
theorem dX10_numeral_82 : decode cX10_numeral 82 = .ok (.aload_n 0, 1) := by decide +kernel
theorem dX10_numeral_83 : decode cX10_numeral 83 = .ok (.invokevirtual 341, 3) := by decide +kernel
theorem dX10_numeral_86 : decode cX10_numeral 86 = .ok (.iload 4, 2) := by decide +kernel
theorem dX10_numeral_88 : decode cX10_numeral 88 = .ok (.ireturn, 1) := by decide +kernel
theorem dX10_letterTaken_0 : decode cX10_letterTaken 0 = .ok (.aload_n 0, 1) := by decide +kernel
theorem dX10_letterTaken_1 : decode cX10_letterTaken 1 = .ok (.invokevirtual 333, 3) := by decide +kernel
theorem dX10_letterTaken_4 : decode cX10_letterTaken 4 = .ok (.ifCond .eq 37, 3) := by decide +kernel
theorem dX10_letterTaken_7 : decode cX10_letterTaken 7 = .ok (.aload_n 0, 1) := by decide +kernel
theorem dX10_letterTaken_8 : decode cX10_letterTaken 8 = .ok (.getfield 314, 3) := by decide +kernel
theorem dX10_letterTaken_11 : decode cX10_letterTaken 11 = .ok (.iconst 1, 1) := by decide +kernel
theorem dX10_letterTaken_12 : decode cX10_letterTaken 12 = .ok (.if_icmp .ne 25, 3) := by decide +kernel
theorem dX10_letterTaken_15 : decode cX10_letterTaken 15 = .ok (.aload_n 0, 1) := by decide +kernel
theorem dX10_letterTaken_16 : decode cX10_letterTaken 16 = .ok (.getfield 310, 3) := by decide +kernel
theorem dX10_letterTaken_19 : decode cX10_letterTaken 19 = .ok (.ldc2_w 350, 3) := by decide +kernel
theorem dX10_letterTaken_22 : decode cX10_letterTaken 22 = .ok (.lcmp, 1) := by decide +kernel
theorem dX10_letterTaken_23 : decode cX10_letterTaken 23 = .ok (.ifCond .lt 14, 3) := by decide +kernel
theorem dX10_letterTaken_26 : decode cX10_letterTaken 26 = .ok (.aload_n 0, 1) := by decide +kernel
theorem dX10_letterTaken_27 : decode cX10_letterTaken 27 = .ok (.getfield 310, 3) := by decide +kernel
theorem dX10_letterTaken_30 : decode cX10_letterTaken 30 = .ok (.ldc2_w 352, 3) := by decide +kernel
theorem dX10_letterTaken_33 : decode cX10_letterTaken 33 = .ok (.lcmp, 1) := by decide +kernel
theorem dX10_letterTaken_34 : decode cX10_letterTaken 34 = .ok (.ifCond .le 7, 3) := by decide +kernel
theorem dX10_letterTaken_37 : decode cX10_letterTaken 37 = .ok (.aload_n 0, 1) := by decide +kernel
theorem dX10_letterTaken_38 : decode cX10_letterTaken 38 = .ok (.invokevirtual 344, 3) := by decide +kernel
theorem dX10_letterTaken_41 : decode cX10_letterTaken 41 = .ok (.aload_n 0, 1) := by decide +kernel
theorem dX10_letterTaken_42 : decode cX10_letterTaken 42 = .ok (.invokevirtual 333, 3) := by decide +kernel
theorem dX10_letterTaken_45 : decode cX10_letterTaken 45 = .ok (.ifCond .ne 5, 3) := by decide +kernel
theorem dX10_letterTaken_48 : decode cX10_letterTaken 48 = .ok (.iconst 0, 1) := by decide +kernel
theorem dX10_letterTaken_49 : decode cX10_letterTaken 49 = .ok (.ireturn, 1) := by decide +kernel
theorem dX10_letterTaken_50 : decode cX10_letterTaken 50 = .ok (.aload_n 0, 1) := by decide +kernel
theorem dX10_letterTaken_51 : decode cX10_letterTaken 51 = .ok (.getfield 310, 3) := by decide +kernel
theorem dX10_letterTaken_54 : decode cX10_letterTaken 54 = .ok (.l2i, 1) := by decide +kernel
theorem dX10_letterTaken_55 : decode cX10_letterTaken 55 = .ok (.bipush 97, 2) := by decide +kernel
theorem dX10_letterTaken_57 : decode cX10_letterTaken 57 = .ok (.isub, 1) := by decide +kernel
theorem dX10_letterTaken_58 : decode cX10_letterTaken 58 = .ok (.istore_n 1, 1) := by decide +kernel
theorem dX10_letterTaken_59 : decode cX10_letterTaken 59 = .ok (.aload_n 0, 1) := by decide +kernel
theorem dX10_letterTaken_60 : decode cX10_letterTaken 60 = .ok (.invokevirtual 341, 3) := by decide +kernel
theorem dX10_letterTaken_63 : decode cX10_letterTaken 63 = .ok (.iload_n 1, 1) := by decide +kernel
theorem dX10_letterTaken_64 : decode cX10_letterTaken 64 = .ok (.ireturn, 1) := by decide +kernel
theorem dX10_queueWord_0 : decode cX10_queueWord 0 = .ok (.iload_n 0, 1) := by decide +kernel
theorem dX10_queueWord_1 : decode cX10_queueWord 1 = .ok (.ifCond .ne 9, 3) := by decide +kernel
theorem dX10_queueWord_4 : decode cX10_queueWord 4 = .ok (.ldc2_w 354, 3) := by decide +kernel
theorem dX10_queueWord_7 : decode cX10_queueWord 7 = .ok (.goto 50, 3) := by decide +kernel
theorem dX10_queueWord_10 : decode cX10_queueWord 10 = .ok (.iload_n 0, 1) := by decide +kernel
theorem dX10_queueWord_11 : decode cX10_queueWord 11 = .ok (.iconst 1, 1) := by decide +kernel
theorem dX10_queueWord_12 : decode cX10_queueWord 12 = .ok (.if_icmp .ne 9, 3) := by decide +kernel
theorem dX10_queueWord_15 : decode cX10_queueWord 15 = .ok (.ldc2_w 356, 3) := by decide +kernel
theorem dX10_queueWord_18 : decode cX10_queueWord 18 = .ok (.goto 39, 3) := by decide +kernel
theorem dX10_queueWord_21 : decode cX10_queueWord 21 = .ok (.iload_n 0, 1) := by decide +kernel
theorem dX10_queueWord_22 : decode cX10_queueWord 22 = .ok (.iconst 2, 1) := by decide +kernel
theorem dX10_queueWord_23 : decode cX10_queueWord 23 = .ok (.if_icmp .ne 9, 3) := by decide +kernel
theorem dX10_queueWord_26 : decode cX10_queueWord 26 = .ok (.ldc2_w 358, 3) := by decide +kernel
theorem dX10_queueWord_29 : decode cX10_queueWord 29 = .ok (.goto 28, 3) := by decide +kernel
theorem dX10_queueWord_32 : decode cX10_queueWord 32 = .ok (.iload_n 0, 1) := by decide +kernel
theorem dX10_queueWord_33 : decode cX10_queueWord 33 = .ok (.iconst 3, 1) := by decide +kernel
theorem dX10_queueWord_34 : decode cX10_queueWord 34 = .ok (.if_icmp .ne 9, 3) := by decide +kernel
theorem dX10_queueWord_37 : decode cX10_queueWord 37 = .ok (.ldc2_w 360, 3) := by decide +kernel
theorem dX10_queueWord_40 : decode cX10_queueWord 40 = .ok (.goto 17, 3) := by decide +kernel
theorem dX10_queueWord_43 : decode cX10_queueWord 43 = .ok (.iload_n 0, 1) := by decide +kernel
theorem dX10_queueWord_44 : decode cX10_queueWord 44 = .ok (.iconst 4, 1) := by decide +kernel
theorem dX10_queueWord_45 : decode cX10_queueWord 45 = .ok (.if_icmp .ne 9, 3) := by decide +kernel
theorem dX10_queueWord_48 : decode cX10_queueWord 48 = .ok (.ldc2_w 362, 3) := by decide +kernel
theorem dX10_queueWord_51 : decode cX10_queueWord 51 = .ok (.goto 6, 3) := by decide +kernel
theorem dX10_queueWord_54 : decode cX10_queueWord 54 = .ok (.ldc2_w 364, 3) := by decide +kernel
theorem dX10_queueWord_57 : decode cX10_queueWord 57 = .ok (.lreturn, 1) := by decide +kernel
theorem dX10_queueTaken_0 : decode cX10_queueTaken 0 = .ok (.iconst 0, 1) := by decide +kernel
theorem dX10_queueTaken_1 : decode cX10_queueTaken 1 = .ok (.istore_n 1, 1) := by decide +kernel
theorem dX10_queueTaken_2 : decode cX10_queueTaken 2 = .ok (.iload_n 1, 1) := by decide +kernel
theorem dX10_queueTaken_3 : decode cX10_queueTaken 3 = .ok (.bipush 6, 2) := by decide +kernel
theorem dX10_queueTaken_5 : decode cX10_queueTaken 5 = .ok (.if_icmp .ge 22, 3) := by decide +kernel
theorem dX10_queueTaken_8 : decode cX10_queueTaken 8 = .ok (.aload_n 0, 1) := by decide +kernel
theorem dX10_queueTaken_9 : decode cX10_queueTaken 9 = .ok (.iload_n 1, 1) := by decide +kernel
theorem dX10_queueTaken_10 : decode cX10_queueTaken 10 = .ok (.invokestatic 366, 3) := by decide +kernel
theorem dX10_queueTaken_13 : decode cX10_queueTaken 13 = .ok (.invokevirtual 369, 3) := by decide +kernel
theorem dX10_queueTaken_16 : decode cX10_queueTaken 16 = .ok (.ifCond .eq 5, 3) := by decide +kernel
theorem dX10_queueTaken_19 : decode cX10_queueTaken 19 = .ok (.iload_n 1, 1) := by decide +kernel
theorem dX10_queueTaken_20 : decode cX10_queueTaken 20 = .ok (.ireturn, 1) := by decide +kernel
theorem dX10_queueTaken_21 : decode cX10_queueTaken 21 = .ok (.iinc 1 1, 3) := by decide +kernel
theorem dX10_queueTaken_24 : decode cX10_queueTaken 24 = .ok (.goto (-22), 3) := by decide +kernel
theorem dX10_queueTaken_27 : decode cX10_queueTaken 27 = .ok (.aload_n 0, 1) := by decide +kernel
theorem dX10_queueTaken_28 : decode cX10_queueTaken 28 = .ok (.invokevirtual 344, 3) := by decide +kernel
theorem dX10_queueTaken_31 : decode cX10_queueTaken 31 = .ok (.iconst 0, 1) := by decide +kernel
theorem dX10_queueTaken_32 : decode cX10_queueTaken 32 = .ok (.ireturn, 1) := by decide +kernel
theorem dX10_isKept_0 : decode cX10_isKept 0 = .ok (.lload_n 0, 1) := by decide +kernel
theorem dX10_isKept_1 : decode cX10_isKept 1 = .ok (.ldc2_w 372, 3) := by decide +kernel
theorem dX10_isKept_4 : decode cX10_isKept 4 = .ok (.lcmp, 1) := by decide +kernel
theorem dX10_isKept_5 : decode cX10_isKept 5 = .ok (.ifCond .eq 75, 3) := by decide +kernel
theorem dX10_isKept_8 : decode cX10_isKept 8 = .ok (.lload_n 0, 1) := by decide +kernel
theorem dX10_isKept_9 : decode cX10_isKept 9 = .ok (.ldc2_w 374, 3) := by decide +kernel
theorem dX10_isKept_12 : decode cX10_isKept 12 = .ok (.lcmp, 1) := by decide +kernel
theorem dX10_isKept_13 : decode cX10_isKept 13 = .ok (.ifCond .eq 67, 3) := by decide +kernel
theorem dX10_isKept_16 : decode cX10_isKept 16 = .ok (.lload_n 0, 1) := by decide +kernel
theorem dX10_isKept_17 : decode cX10_isKept 17 = .ok (.ldc2_w 376, 3) := by decide +kernel
theorem dX10_isKept_20 : decode cX10_isKept 20 = .ok (.lcmp, 1) := by decide +kernel
theorem dX10_isKept_21 : decode cX10_isKept 21 = .ok (.ifCond .eq 59, 3) := by decide +kernel
theorem dX10_isKept_24 : decode cX10_isKept 24 = .ok (.lload_n 0, 1) := by decide +kernel
theorem dX10_isKept_25 : decode cX10_isKept 25 = .ok (.ldc2_w 378, 3) := by decide +kernel
theorem dX10_isKept_28 : decode cX10_isKept 28 = .ok (.lcmp, 1) := by decide +kernel
theorem dX10_isKept_29 : decode cX10_isKept 29 = .ok (.ifCond .eq 51, 3) := by decide +kernel
theorem dX10_isKept_32 : decode cX10_isKept 32 = .ok (.lload_n 0, 1) := by decide +kernel
theorem dX10_isKept_33 : decode cX10_isKept 33 = .ok (.ldc2_w 380, 3) := by decide +kernel
theorem dX10_isKept_36 : decode cX10_isKept 36 = .ok (.lcmp, 1) := by decide +kernel
theorem dX10_isKept_37 : decode cX10_isKept 37 = .ok (.ifCond .eq 43, 3) := by decide +kernel
theorem dX10_isKept_40 : decode cX10_isKept 40 = .ok (.lload_n 0, 1) := by decide +kernel
theorem dX10_isKept_41 : decode cX10_isKept 41 = .ok (.ldc2_w 287, 3) := by decide +kernel
theorem dX10_isKept_44 : decode cX10_isKept 44 = .ok (.lcmp, 1) := by decide +kernel
theorem dX10_isKept_45 : decode cX10_isKept 45 = .ok (.ifCond .eq 35, 3) := by decide +kernel
theorem dX10_isKept_48 : decode cX10_isKept 48 = .ok (.lload_n 0, 1) := by decide +kernel
theorem dX10_isKept_49 : decode cX10_isKept 49 = .ok (.ldc2_w 289, 3) := by decide +kernel
theorem dX10_isKept_52 : decode cX10_isKept 52 = .ok (.lcmp, 1) := by decide +kernel
theorem dX10_isKept_53 : decode cX10_isKept 53 = .ok (.ifCond .eq 27, 3) := by decide +kernel
theorem dX10_isKept_56 : decode cX10_isKept 56 = .ok (.lload_n 0, 1) := by decide +kernel
theorem dX10_isKept_57 : decode cX10_isKept 57 = .ok (.ldc2_w 291, 3) := by decide +kernel
theorem dX10_isKept_60 : decode cX10_isKept 60 = .ok (.lcmp, 1) := by decide +kernel
theorem dX10_isKept_61 : decode cX10_isKept 61 = .ok (.ifCond .eq 19, 3) := by decide +kernel
theorem dX10_isKept_64 : decode cX10_isKept 64 = .ok (.lload_n 0, 1) := by decide +kernel
theorem dX10_isKept_65 : decode cX10_isKept 65 = .ok (.ldc2_w 293, 3) := by decide +kernel
