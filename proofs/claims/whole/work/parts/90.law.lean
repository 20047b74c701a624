theorem dL_law_0 : decode cL_law 0 = .ok (.new 7, 3) := by decide +kernel
theorem dL_law_3 : decode cL_law 3 = .ok (.dup, 1) := by decide +kernel
theorem dL_law_4 : decode cL_law 4 = .ok (.invokespecial 9, 3) := by decide +kernel
theorem dL_law_7 : decode cL_law 7 = .ok (.astore_n 1, 1) := by decide +kernel
theorem dL_law_8 : decode cL_law 8 = .ok (.new 10, 3) := by decide +kernel
theorem dL_law_11 : decode cL_law 11 = .ok (.dup, 1) := by decide +kernel
theorem dL_law_12 : decode cL_law 12 = .ok (.invokespecial 12, 3) := by decide +kernel
theorem dL_law_15 : decode cL_law 15 = .ok (.astore_n 2, 1) := by decide +kernel
theorem dL_law_16 : decode cL_law 16 = .ok (.iconst 0, 1) := by decide +kernel
theorem dL_law_17 : decode cL_law 17 = .ok (.istore_n 3, 1) := by decide +kernel
theorem dL_law_18 : decode cL_law 18 = .ok (.iload_n 3, 1) := by decide +kernel
theorem dL_law_19 : decode cL_law 19 = .ok (.aload_n 0, 1) := by decide +kernel
theorem dL_law_20 : decode cL_law 20 = .ok (.arraylength, 1) := by decide +kernel
theorem dL_law_21 : decode cL_law 21 = .ok (.iconst 4, 1) := by decide +kernel
theorem dL_law_22 : decode cL_law 22 = .ok (.isub, 1) := by decide +kernel
theorem dL_law_23 : decode cL_law 23 = .ok (.if_icmp .gt 556, 3) := by decide +kernel
theorem dL_law_26 : decode cL_law 26 = .ok (.aload_n 0, 1) := by decide +kernel
theorem dL_law_27 : decode cL_law 27 = .ok (.iload_n 3, 1) := by decide +kernel
theorem dL_law_28 : decode cL_law 28 = .ok (.iaload, 1) := by decide +kernel
theorem dL_law_29 : decode cL_law 29 = .ok (.bipush 31, 2) := by decide +kernel
theorem dL_law_31 : decode cL_law 31 = .ok (.iand, 1) := by decide +kernel
theorem dL_law_32 : decode cL_law 32 = .ok (.tableswitch 541 0 16 #[84, 129, 152, 175, 188, 211, 244, 269, 282, 295, 308, 321, 354, 387, 430, 473, 518], 84) := by decide +kernel
theorem dL_law_116 : decode cL_law 116 = .ok (.aload_n 1, 1) := by decide +kernel
theorem dL_law_117 : decode cL_law 117 = .ok (.aload_n 0, 1) := by decide +kernel
theorem dL_law_118 : decode cL_law 118 = .ok (.iload_n 3, 1) := by decide +kernel
theorem dL_law_119 : decode cL_law 119 = .ok (.iconst 1, 1) := by decide +kernel
theorem dL_law_120 : decode cL_law 120 = .ok (.iadd, 1) := by decide +kernel
theorem dL_law_121 : decode cL_law 121 = .ok (.iaload, 1) := by decide +kernel
theorem dL_law_122 : decode cL_law 122 = .ok (.i2c, 1) := by decide +kernel
theorem dL_law_123 : decode cL_law 123 = .ok (.aload_n 0, 1) := by decide +kernel
theorem dL_law_124 : decode cL_law 124 = .ok (.iload_n 3, 1) := by decide +kernel
theorem dL_law_125 : decode cL_law 125 = .ok (.iconst 2, 1) := by decide +kernel
theorem dL_law_126 : decode cL_law 126 = .ok (.iadd, 1) := by decide +kernel
theorem dL_law_127 : decode cL_law 127 = .ok (.iaload, 1) := by decide +kernel
theorem dL_law_128 : decode cL_law 128 = .ok (.aload_n 0, 1) := by decide +kernel
theorem dL_law_129 : decode cL_law 129 = .ok (.iload_n 3, 1) := by decide +kernel
theorem dL_law_130 : decode cL_law 130 = .ok (.iconst 3, 1) := by decide +kernel
theorem dL_law_131 : decode cL_law 131 = .ok (.iadd, 1) := by decide +kernel
theorem dL_law_132 : decode cL_law 132 = .ok (.iaload, 1) := by decide +kernel
theorem dL_law_133 : decode cL_law 133 = .ok (.invokevirtual 13, 3) := by decide +kernel
theorem dL_law_136 : decode cL_law 136 = .ok (.aload_n 2, 1) := by decide +kernel
theorem dL_law_137 : decode cL_law 137 = .ok (.aload_n 0, 1) := by decide +kernel
theorem dL_law_138 : decode cL_law 138 = .ok (.iload_n 3, 1) := by decide +kernel
theorem dL_law_139 : decode cL_law 139 = .ok (.iconst 1, 1) := by decide +kernel
theorem dL_law_140 : decode cL_law 140 = .ok (.iadd, 1) := by decide +kernel
theorem dL_law_141 : decode cL_law 141 = .ok (.iaload, 1) := by decide +kernel
theorem dL_law_142 : decode cL_law 142 = .ok (.i2c, 1) := by decide +kernel
theorem dL_law_143 : decode cL_law 143 = .ok (.aload_n 0, 1) := by decide +kernel
theorem dL_law_144 : decode cL_law 144 = .ok (.iload_n 3, 1) := by decide +kernel
theorem dL_law_145 : decode cL_law 145 = .ok (.iconst 2, 1) := by decide +kernel
theorem dL_law_146 : decode cL_law 146 = .ok (.iadd, 1) := by decide +kernel
theorem dL_law_147 : decode cL_law 147 = .ok (.iaload, 1) := by decide +kernel
theorem dL_law_148 : decode cL_law 148 = .ok (.aload_n 0, 1) := by decide +kernel
theorem dL_law_149 : decode cL_law 149 = .ok (.iload_n 3, 1) := by decide +kernel
theorem dL_law_150 : decode cL_law 150 = .ok (.iconst 3, 1) := by decide +kernel
theorem dL_law_151 : decode cL_law 151 = .ok (.iadd, 1) := by decide +kernel
theorem dL_law_152 : decode cL_law 152 = .ok (.iaload, 1) := by decide +kernel
theorem dL_law_153 : decode cL_law 153 = .ok (.invokevirtual 17, 3) := by decide +kernel
theorem dL_law_156 : decode cL_law 156 = .ok (.if_icmp .eq 417, 3) := by decide +kernel
theorem dL_law_159 : decode cL_law 159 = .ok (.iconst 0, 1) := by decide +kernel
theorem dL_law_160 : decode cL_law 160 = .ok (.ireturn, 1) := by decide +kernel
theorem dL_law_161 : decode cL_law 161 = .ok (.aload_n 1, 1) := by decide +kernel
theorem dL_law_162 : decode cL_law 162 = .ok (.aload_n 0, 1) := by decide +kernel
theorem dL_law_163 : decode cL_law 163 = .ok (.iload_n 3, 1) := by decide +kernel
theorem dL_law_164 : decode cL_law 164 = .ok (.iconst 1, 1) := by decide +kernel
theorem dL_law_165 : decode cL_law 165 = .ok (.iadd, 1) := by decide +kernel
theorem dL_law_166 : decode cL_law 166 = .ok (.iaload, 1) := by decide +kernel
theorem dL_law_167 : decode cL_law 167 = .ok (.invokevirtual 18, 3) := by decide +kernel
theorem dL_law_170 : decode cL_law 170 = .ok (.aload_n 2, 1) := by decide +kernel
theorem dL_law_171 : decode cL_law 171 = .ok (.aload_n 0, 1) := by decide +kernel
theorem dL_law_172 : decode cL_law 172 = .ok (.iload_n 3, 1) := by decide +kernel
theorem dL_law_173 : decode cL_law 173 = .ok (.iconst 1, 1) := by decide +kernel
theorem dL_law_174 : decode cL_law 174 = .ok (.iadd, 1) := by decide +kernel
theorem dL_law_175 : decode cL_law 175 = .ok (.iaload, 1) := by decide +kernel
theorem dL_law_176 : decode cL_law 176 = .ok (.invokevirtual 22, 3) := by decide +kernel
theorem dL_law_179 : decode cL_law 179 = .ok (.if_icmp .eq 394, 3) := by decide +kernel
theorem dL_law_182 : decode cL_law 182 = .ok (.iconst 0, 1) := by decide +kernel
theorem dL_law_183 : decode cL_law 183 = .ok (.ireturn, 1) := by decide +kernel
theorem dL_law_184 : decode cL_law 184 = .ok (.aload_n 1, 1) := by decide +kernel
theorem dL_law_185 : decode cL_law 185 = .ok (.aload_n 0, 1) := by decide +kernel
theorem dL_law_186 : decode cL_law 186 = .ok (.iload_n 3, 1) := by decide +kernel
theorem dL_law_187 : decode cL_law 187 = .ok (.iconst 1, 1) := by decide +kernel
theorem dL_law_188 : decode cL_law 188 = .ok (.iadd, 1) := by decide +kernel
theorem dL_law_189 : decode cL_law 189 = .ok (.iaload, 1) := by decide +kernel
theorem dL_law_190 : decode cL_law 190 = .ok (.invokevirtual 23, 3) := by decide +kernel
theorem dL_law_193 : decode cL_law 193 = .ok (.aload_n 2, 1) := by decide +kernel
theorem dL_law_194 : decode cL_law 194 = .ok (.aload_n 0, 1) := by decide +kernel
theorem dL_law_195 : decode cL_law 195 = .ok (.iload_n 3, 1) := by decide +kernel
theorem dL_law_196 : decode cL_law 196 = .ok (.iconst 1, 1) := by decide +kernel
theorem dL_law_197 : decode cL_law 197 = .ok (.iadd, 1) := by decide +kernel
theorem dL_law_198 : decode cL_law 198 = .ok (.iaload, 1) := by decide +kernel
theorem dL_law_199 : decode cL_law 199 = .ok (.invokevirtual 26, 3) := by decide +kernel
theorem dL_law_202 : decode cL_law 202 = .ok (.if_icmp .eq 371, 3) := by decide +kernel
theorem dL_law_205 : decode cL_law 205 = .ok (.iconst 0, 1) := by decide +kernel
theorem dL_law_206 : decode cL_law 206 = .ok (.ireturn, 1) := by decide +kernel
theorem dL_law_207 : decode cL_law 207 = .ok (.aload_n 1, 1) := by decide +kernel
theorem dL_law_208 : decode cL_law 208 = .ok (.invokevirtual 27, 3) := by decide +kernel
theorem dL_law_211 : decode cL_law 211 = .ok (.aload_n 2, 1) := by decide +kernel
theorem dL_law_212 : decode cL_law 212 = .ok (.invokevirtual 31, 3) := by decide +kernel
theorem dL_law_215 : decode cL_law 215 = .ok (.if_icmp .eq 358, 3) := by decide +kernel
theorem dL_law_218 : decode cL_law 218 = .ok (.iconst 0, 1) := by decide +kernel
theorem dL_law_219 : decode cL_law 219 = .ok (.ireturn, 1) := by decide +kernel
theorem dL_law_220 : decode cL_law 220 = .ok (.aload_n 1, 1) := by decide +kernel
theorem dL_law_221 : decode cL_law 221 = .ok (.aload_n 0, 1) := by decide +kernel
theorem dL_law_222 : decode cL_law 222 = .ok (.iload_n 3, 1) := by decide +kernel
theorem dL_law_223 : decode cL_law 223 = .ok (.iconst 1, 1) := by decide +kernel
theorem dL_law_224 : decode cL_law 224 = .ok (.iadd, 1) := by decide +kernel
theorem dL_law_225 : decode cL_law 225 = .ok (.iaload, 1) := by decide +kernel
theorem dL_law_226 : decode cL_law 226 = .ok (.invokevirtual 32, 3) := by decide +kernel
theorem dL_law_229 : decode cL_law 229 = .ok (.aload_n 2, 1) := by decide +kernel
theorem dL_law_230 : decode cL_law 230 = .ok (.aload_n 0, 1) := by decide +kernel
theorem dL_law_231 : decode cL_law 231 = .ok (.iload_n 3, 1) := by decide +kernel
theorem dL_law_232 : decode cL_law 232 = .ok (.iconst 1, 1) := by decide +kernel
theorem dL_law_233 : decode cL_law 233 = .ok (.iadd, 1) := by decide +kernel
theorem dL_law_234 : decode cL_law 234 = .ok (.iaload, 1) := by decide +kernel
theorem dL_law_235 : decode cL_law 235 = .ok (.invokevirtual 35, 3) := by decide +kernel
theorem dL_law_238 : decode cL_law 238 = .ok (.if_icmp .eq 335, 3) := by decide +kernel
theorem dL_law_241 : decode cL_law 241 = .ok (.iconst 0, 1) := by decide +kernel
theorem dL_law_242 : decode cL_law 242 = .ok (.ireturn, 1) := by decide +kernel
theorem dL_law_243 : decode cL_law 243 = .ok (.aload_n 1, 1) := by decide +kernel
theorem dL_law_244 : decode cL_law 244 = .ok (.aload_n 0, 1) := by decide +kernel
theorem dL_law_245 : decode cL_law 245 = .ok (.iload_n 3, 1) := by decide +kernel
theorem dL_law_246 : decode cL_law 246 = .ok (.iconst 1, 1) := by decide +kernel
theorem dL_law_247 : decode cL_law 247 = .ok (.iadd, 1) := by decide +kernel
theorem dL_law_248 : decode cL_law 248 = .ok (.iaload, 1) := by decide +kernel
theorem dL_law_249 : decode cL_law 249 = .ok (.aload_n 0, 1) := by decide +kernel
theorem dL_law_250 : decode cL_law 250 = .ok (.iload_n 3, 1) := by decide +kernel
theorem dL_law_251 : decode cL_law 251 = .ok (.iconst 2, 1) := by decide +kernel
theorem dL_law_252 : decode cL_law 252 = .ok (.iadd, 1) := by decide +kernel
theorem dL_law_253 : decode cL_law 253 = .ok (.iaload, 1) := by decide +kernel
theorem dL_law_254 : decode cL_law 254 = .ok (.invokevirtual 36, 3) := by decide +kernel
theorem dL_law_257 : decode cL_law 257 = .ok (.aload_n 2, 1) := by decide +kernel
theorem dL_law_258 : decode cL_law 258 = .ok (.aload_n 0, 1) := by decide +kernel
theorem dL_law_259 : decode cL_law 259 = .ok (.iload_n 3, 1) := by decide +kernel
theorem dL_law_260 : decode cL_law 260 = .ok (.iconst 1, 1) := by decide +kernel
theorem dL_law_261 : decode cL_law 261 = .ok (.iadd, 1) := by decide +kernel
theorem dL_law_262 : decode cL_law 262 = .ok (.iaload, 1) := by decide +kernel
theorem dL_law_263 : decode cL_law 263 = .ok (.aload_n 0, 1) := by decide +kernel
theorem dL_law_264 : decode cL_law 264 = .ok (.iload_n 3, 1) := by decide +kernel
theorem dL_law_265 : decode cL_law 265 = .ok (.iconst 2, 1) := by decide +kernel
theorem dL_law_266 : decode cL_law 266 = .ok (.iadd, 1) := by decide +kernel
theorem dL_law_267 : decode cL_law 267 = .ok (.iaload, 1) := by decide +kernel
theorem dL_law_268 : decode cL_law 268 = .ok (.invokevirtual 40, 3) := by decide +kernel
theorem dL_law_271 : decode cL_law 271 = .ok (.if_icmp .eq 302, 3) := by decide +kernel
theorem dL_law_274 : decode cL_law 274 = .ok (.iconst 0, 1) := by decide +kernel
theorem dL_law_275 : decode cL_law 275 = .ok (.ireturn, 1) := by decide +kernel
theorem dL_law_276 : decode cL_law 276 = .ok (.aload_n 1, 1) := by decide +kernel
theorem dL_law_277 : decode cL_law 277 = .ok (.aload_n 0, 1) := by decide +kernel
theorem dL_law_278 : decode cL_law 278 = .ok (.iload_n 3, 1) := by decide +kernel
theorem dL_law_279 : decode cL_law 279 = .ok (.iconst 1, 1) := by decide +kernel
theorem dL_law_280 : decode cL_law 280 = .ok (.iadd, 1) := by decide +kernel
theorem dL_law_281 : decode cL_law 281 = .ok (.iaload, 1) := by decide +kernel
theorem dL_law_282 : decode cL_law 282 = .ok (.i2c, 1) := by decide +kernel
theorem dL_law_283 : decode cL_law 283 = .ok (.invokevirtual 41, 3) := by decide +kernel
theorem dL_law_286 : decode cL_law 286 = .ok (.aload_n 2, 1) := by decide +kernel
theorem dL_law_287 : decode cL_law 287 = .ok (.aload_n 0, 1) := by decide +kernel
theorem dL_law_288 : decode cL_law 288 = .ok (.iload_n 3, 1) := by decide +kernel
theorem dL_law_289 : decode cL_law 289 = .ok (.iconst 1, 1) := by decide +kernel
theorem dL_law_290 : decode cL_law 290 = .ok (.iadd, 1) := by decide +kernel
theorem dL_law_291 : decode cL_law 291 = .ok (.iaload, 1) := by decide +kernel
theorem dL_law_292 : decode cL_law 292 = .ok (.i2c, 1) := by decide +kernel
theorem dL_law_293 : decode cL_law 293 = .ok (.invokevirtual 45, 3) := by decide +kernel
theorem dL_law_296 : decode cL_law 296 = .ok (.if_icmp .eq 277, 3) := by decide +kernel
theorem dL_law_299 : decode cL_law 299 = .ok (.iconst 0, 1) := by decide +kernel
theorem dL_law_300 : decode cL_law 300 = .ok (.ireturn, 1) := by decide +kernel
theorem dL_law_301 : decode cL_law 301 = .ok (.aload_n 1, 1) := by decide +kernel
theorem dL_law_302 : decode cL_law 302 = .ok (.invokevirtual 46, 3) := by decide +kernel
theorem dL_law_305 : decode cL_law 305 = .ok (.aload_n 2, 1) := by decide +kernel
theorem dL_law_306 : decode cL_law 306 = .ok (.invokevirtual 49, 3) := by decide +kernel
theorem dL_law_309 : decode cL_law 309 = .ok (.if_icmp .eq 264, 3) := by decide +kernel
theorem dL_law_312 : decode cL_law 312 = .ok (.iconst 0, 1) := by decide +kernel
theorem dL_law_313 : decode cL_law 313 = .ok (.ireturn, 1) := by decide +kernel
theorem dL_law_314 : decode cL_law 314 = .ok (.aload_n 1, 1) := by decide +kernel
theorem dL_law_315 : decode cL_law 315 = .ok (.invokevirtual 50, 3) := by decide +kernel
theorem dL_law_318 : decode cL_law 318 = .ok (.aload_n 2, 1) := by decide +kernel
theorem dL_law_319 : decode cL_law 319 = .ok (.invokevirtual 53, 3) := by decide +kernel
theorem dL_law_322 : decode cL_law 322 = .ok (.if_icmp .eq 251, 3) := by decide +kernel
theorem dL_law_325 : decode cL_law 325 = .ok (.iconst 0, 1) := by decide +kernel
theorem dL_law_326 : decode cL_law 326 = .ok (.ireturn, 1) := by decide +kernel
theorem dL_law_327 : decode cL_law 327 = .ok (.aload_n 1, 1) := by decide +kernel
theorem dL_law_328 : decode cL_law 328 = .ok (.invokevirtual 54, 3) := by decide +kernel
theorem dL_law_331 : decode cL_law 331 = .ok (.aload_n 2, 1) := by decide +kernel
theorem dL_law_332 : decode cL_law 332 = .ok (.invokevirtual 57, 3) := by decide +kernel
theorem dL_law_335 : decode cL_law 335 = .ok (.if_icmp .eq 238, 3) := by decide +kernel
theorem dL_law_338 : decode cL_law 338 = .ok (.iconst 0, 1) := by decide +kernel
theorem dL_law_339 : decode cL_law 339 = .ok (.ireturn, 1) := by decide +kernel
theorem dL_law_340 : decode cL_law 340 = .ok (.aload_n 1, 1) := by decide +kernel
theorem dL_law_341 : decode cL_law 341 = .ok (.invokevirtual 58, 3) := by decide +kernel
theorem dL_law_344 : decode cL_law 344 = .ok (.aload_n 2, 1) := by decide +kernel
theorem dL_law_345 : decode cL_law 345 = .ok (.invokevirtual 61, 3) := by decide +kernel
theorem dL_law_348 : decode cL_law 348 = .ok (.if_icmp .eq 225, 3) := by decide +kernel
theorem dL_law_351 : decode cL_law 351 = .ok (.iconst 0, 1) := by decide +kernel
theorem dL_law_352 : decode cL_law 352 = .ok (.ireturn, 1) := by decide +kernel
theorem dL_law_353 : decode cL_law 353 = .ok (.aload_n 1, 1) := by decide +kernel
theorem dL_law_354 : decode cL_law 354 = .ok (.aload_n 0, 1) := by decide +kernel
theorem dL_law_355 : decode cL_law 355 = .ok (.iload_n 3, 1) := by decide +kernel
theorem dL_law_356 : decode cL_law 356 = .ok (.iconst 1, 1) := by decide +kernel
theorem dL_law_357 : decode cL_law 357 = .ok (.iadd, 1) := by decide +kernel
theorem dL_law_358 : decode cL_law 358 = .ok (.iaload, 1) := by decide +kernel
theorem dL_law_359 : decode cL_law 359 = .ok (.aload_n 0, 1) := by decide +kernel
theorem dL_law_360 : decode cL_law 360 = .ok (.iload_n 3, 1) := by decide +kernel
theorem dL_law_361 : decode cL_law 361 = .ok (.iconst 2, 1) := by decide +kernel
theorem dL_law_362 : decode cL_law 362 = .ok (.iadd, 1) := by decide +kernel
theorem dL_law_363 : decode cL_law 363 = .ok (.iaload, 1) := by decide +kernel
theorem dL_law_364 : decode cL_law 364 = .ok (.invokevirtual 62, 3) := by decide +kernel
theorem dL_law_367 : decode cL_law 367 = .ok (.aload_n 2, 1) := by decide +kernel
theorem dL_law_368 : decode cL_law 368 = .ok (.aload_n 0, 1) := by decide +kernel
theorem dL_law_369 : decode cL_law 369 = .ok (.iload_n 3, 1) := by decide +kernel
theorem dL_law_370 : decode cL_law 370 = .ok (.iconst 1, 1) := by decide +kernel
theorem dL_law_371 : decode cL_law 371 = .ok (.iadd, 1) := by decide +kernel
theorem dL_law_372 : decode cL_law 372 = .ok (.iaload, 1) := by decide +kernel
theorem dL_law_373 : decode cL_law 373 = .ok (.aload_n 0, 1) := by decide +kernel
theorem dL_law_374 : decode cL_law 374 = .ok (.iload_n 3, 1) := by decide +kernel
theorem dL_law_375 : decode cL_law 375 = .ok (.iconst 2, 1) := by decide +kernel
theorem dL_law_376 : decode cL_law 376 = .ok (.iadd, 1) := by decide +kernel
theorem dL_law_377 : decode cL_law 377 = .ok (.iaload, 1) := by decide +kernel
theorem dL_law_378 : decode cL_law 378 = .ok (.invokevirtual 65, 3) := by decide +kernel
theorem dL_law_381 : decode cL_law 381 = .ok (.if_icmp .eq 192, 3) := by decide +kernel
theorem dL_law_384 : decode cL_law 384 = .ok (.iconst 0, 1) := by decide +kernel
theorem dL_law_385 : decode cL_law 385 = .ok (.ireturn, 1) := by decide +kernel
theorem dL_law_386 : decode cL_law 386 = .ok (.aload_n 1, 1) := by decide +kernel
theorem dL_law_387 : decode cL_law 387 = .ok (.aload_n 0, 1) := by decide +kernel
theorem dL_law_388 : decode cL_law 388 = .ok (.iload_n 3, 1) := by decide +kernel
theorem dL_law_389 : decode cL_law 389 = .ok (.iconst 1, 1) := by decide +kernel
theorem dL_law_390 : decode cL_law 390 = .ok (.iadd, 1) := by decide +kernel
theorem dL_law_391 : decode cL_law 391 = .ok (.iaload, 1) := by decide +kernel
theorem dL_law_392 : decode cL_law 392 = .ok (.aload_n 0, 1) := by decide +kernel
theorem dL_law_393 : decode cL_law 393 = .ok (.iload_n 3, 1) := by decide +kernel
theorem dL_law_394 : decode cL_law 394 = .ok (.iconst 2, 1) := by decide +kernel
theorem dL_law_395 : decode cL_law 395 = .ok (.iadd, 1) := by decide +kernel
theorem dL_law_396 : decode cL_law 396 = .ok (.iaload, 1) := by decide +kernel
theorem dL_law_397 : decode cL_law 397 = .ok (.invokevirtual 66, 3) := by decide +kernel
theorem dL_law_400 : decode cL_law 400 = .ok (.aload_n 2, 1) := by decide +kernel
theorem dL_law_401 : decode cL_law 401 = .ok (.aload_n 0, 1) := by decide +kernel
theorem dL_law_402 : decode cL_law 402 = .ok (.iload_n 3, 1) := by decide +kernel
theorem dL_law_403 : decode cL_law 403 = .ok (.iconst 1, 1) := by decide +kernel
theorem dL_law_404 : decode cL_law 404 = .ok (.iadd, 1) := by decide +kernel
theorem dL_law_405 : decode cL_law 405 = .ok (.iaload, 1) := by decide +kernel
theorem dL_law_406 : decode cL_law 406 = .ok (.aload_n 0, 1) := by decide +kernel
theorem dL_law_407 : decode cL_law 407 = .ok (.iload_n 3, 1) := by decide +kernel
theorem dL_law_408 : decode cL_law 408 = .ok (.iconst 2, 1) := by decide +kernel
theorem dL_law_409 : decode cL_law 409 = .ok (.iadd, 1) := by decide +kernel
theorem dL_law_410 : decode cL_law 410 = .ok (.iaload, 1) := by decide +kernel
theorem dL_law_411 : decode cL_law 411 = .ok (.invokevirtual 69, 3) := by decide +kernel
theorem dL_law_414 : decode cL_law 414 = .ok (.if_icmp .eq 159, 3) := by decide +kernel
theorem dL_law_417 : decode cL_law 417 = .ok (.iconst 0, 1) := by decide +kernel
theorem dL_law_418 : decode cL_law 418 = .ok (.ireturn, 1) := by decide +kernel
theorem dL_law_419 : decode cL_law 419 = .ok (.aload_n 1, 1) := by decide +kernel
theorem dL_law_420 : decode cL_law 420 = .ok (.aload_n 0, 1) := by decide +kernel
theorem dL_law_421 : decode cL_law 421 = .ok (.iload_n 3, 1) := by decide +kernel
theorem dL_law_422 : decode cL_law 422 = .ok (.iconst 1, 1) := by decide +kernel
theorem dL_law_423 : decode cL_law 423 = .ok (.iadd, 1) := by decide +kernel
theorem dL_law_424 : decode cL_law 424 = .ok (.iaload, 1) := by decide +kernel
theorem dL_law_425 : decode cL_law 425 = .ok (.aload_n 0, 1) := by decide +kernel
theorem dL_law_426 : decode cL_law 426 = .ok (.iload_n 3, 1) := by decide +kernel
theorem dL_law_427 : decode cL_law 427 = .ok (.iconst 2, 1) := by decide +kernel
theorem dL_law_428 : decode cL_law 428 = .ok (.iadd, 1) := by decide +kernel
theorem dL_law_429 : decode cL_law 429 = .ok (.iaload, 1) := by decide +kernel
theorem dL_law_430 : decode cL_law 430 = .ok (.aload_n 0, 1) := by decide +kernel
theorem dL_law_431 : decode cL_law 431 = .ok (.iload_n 3, 1) := by decide +kernel
theorem dL_law_432 : decode cL_law 432 = .ok (.iconst 3, 1) := by decide +kernel
theorem dL_law_433 : decode cL_law 433 = .ok (.iadd, 1) := by decide +kernel
theorem dL_law_434 : decode cL_law 434 = .ok (.iaload, 1) := by decide +kernel
theorem dL_law_435 : decode cL_law 435 = .ok (.invokevirtual 70, 3) := by decide +kernel
theorem dL_law_438 : decode cL_law 438 = .ok (.aload_n 2, 1) := by decide +kernel
theorem dL_law_439 : decode cL_law 439 = .ok (.aload_n 0, 1) := by decide +kernel
theorem dL_law_440 : decode cL_law 440 = .ok (.iload_n 3, 1) := by decide +kernel
theorem dL_law_441 : decode cL_law 441 = .ok (.iconst 1, 1) := by decide +kernel
theorem dL_law_442 : decode cL_law 442 = .ok (.iadd, 1) := by decide +kernel
theorem dL_law_443 : decode cL_law 443 = .ok (.iaload, 1) := by decide +kernel
theorem dL_law_444 : decode cL_law 444 = .ok (.aload_n 0, 1) := by decide +kernel
theorem dL_law_445 : decode cL_law 445 = .ok (.iload_n 3, 1) := by decide +kernel
theorem dL_law_446 : decode cL_law 446 = .ok (.iconst 2, 1) := by decide +kernel
theorem dL_law_447 : decode cL_law 447 = .ok (.iadd, 1) := by decide +kernel
theorem dL_law_448 : decode cL_law 448 = .ok (.iaload, 1) := by decide +kernel
theorem dL_law_449 : decode cL_law 449 = .ok (.aload_n 0, 1) := by decide +kernel
theorem dL_law_450 : decode cL_law 450 = .ok (.iload_n 3, 1) := by decide +kernel
theorem dL_law_451 : decode cL_law 451 = .ok (.iconst 3, 1) := by decide +kernel
theorem dL_law_452 : decode cL_law 452 = .ok (.iadd, 1) := by decide +kernel
theorem dL_law_453 : decode cL_law 453 = .ok (.iaload, 1) := by decide +kernel
theorem dL_law_454 : decode cL_law 454 = .ok (.invokevirtual 74, 3) := by decide +kernel
theorem dL_law_457 : decode cL_law 457 = .ok (.if_icmp .eq 116, 3) := by decide +kernel
theorem dL_law_460 : decode cL_law 460 = .ok (.iconst 0, 1) := by decide +kernel
theorem dL_law_461 : decode cL_law 461 = .ok (.ireturn, 1) := by decide +kernel
theorem dL_law_462 : decode cL_law 462 = .ok (.aload_n 1, 1) := by decide +kernel
theorem dL_law_463 : decode cL_law 463 = .ok (.aload_n 0, 1) := by decide +kernel
theorem dL_law_464 : decode cL_law 464 = .ok (.iload_n 3, 1) := by decide +kernel
theorem dL_law_465 : decode cL_law 465 = .ok (.iconst 1, 1) := by decide +kernel
theorem dL_law_466 : decode cL_law 466 = .ok (.iadd, 1) := by decide +kernel
theorem dL_law_467 : decode cL_law 467 = .ok (.iaload, 1) := by decide +kernel
theorem dL_law_468 : decode cL_law 468 = .ok (.aload_n 0, 1) := by decide +kernel
theorem dL_law_469 : decode cL_law 469 = .ok (.iload_n 3, 1) := by decide +kernel
theorem dL_law_470 : decode cL_law 470 = .ok (.iconst 2, 1) := by decide +kernel
theorem dL_law_471 : decode cL_law 471 = .ok (.iadd, 1) := by decide +kernel
theorem dL_law_472 : decode cL_law 472 = .ok (.iaload, 1) := by decide +kernel
theorem dL_law_473 : decode cL_law 473 = .ok (.aload_n 0, 1) := by decide +kernel
theorem dL_law_474 : decode cL_law 474 = .ok (.iload_n 3, 1) := by decide +kernel
theorem dL_law_475 : decode cL_law 475 = .ok (.iconst 3, 1) := by decide +kernel
theorem dL_law_476 : decode cL_law 476 = .ok (.iadd, 1) := by decide +kernel
theorem dL_law_477 : decode cL_law 477 = .ok (.iaload, 1) := by decide +kernel
theorem dL_law_478 : decode cL_law 478 = .ok (.invokevirtual 75, 3) := by decide +kernel
theorem dL_law_481 : decode cL_law 481 = .ok (.aload_n 2, 1) := by decide +kernel
theorem dL_law_482 : decode cL_law 482 = .ok (.aload_n 0, 1) := by decide +kernel
theorem dL_law_483 : decode cL_law 483 = .ok (.iload_n 3, 1) := by decide +kernel
theorem dL_law_484 : decode cL_law 484 = .ok (.iconst 1, 1) := by decide +kernel
theorem dL_law_485 : decode cL_law 485 = .ok (.iadd, 1) := by decide +kernel
theorem dL_law_486 : decode cL_law 486 = .ok (.iaload, 1) := by decide +kernel
theorem dL_law_487 : decode cL_law 487 = .ok (.aload_n 0, 1) := by decide +kernel
theorem dL_law_488 : decode cL_law 488 = .ok (.iload_n 3, 1) := by decide +kernel
theorem dL_law_489 : decode cL_law 489 = .ok (.iconst 2, 1) := by decide +kernel
theorem dL_law_490 : decode cL_law 490 = .ok (.iadd, 1) := by decide +kernel
theorem dL_law_491 : decode cL_law 491 = .ok (.iaload, 1) := by decide +kernel
theorem dL_law_492 : decode cL_law 492 = .ok (.aload_n 0, 1) := by decide +kernel
theorem dL_law_493 : decode cL_law 493 = .ok (.iload_n 3, 1) := by decide +kernel
theorem dL_law_494 : decode cL_law 494 = .ok (.iconst 3, 1) := by decide +kernel
theorem dL_law_495 : decode cL_law 495 = .ok (.iadd, 1) := by decide +kernel
theorem dL_law_496 : decode cL_law 496 = .ok (.iaload, 1) := by decide +kernel
theorem dL_law_497 : decode cL_law 497 = .ok (.invokevirtual 78, 3) := by decide +kernel
theorem dL_law_500 : decode cL_law 500 = .ok (.if_icmp .eq 73, 3) := by decide +kernel
theorem dL_law_503 : decode cL_law 503 = .ok (.iconst 0, 1) := by decide +kernel
theorem dL_law_504 : decode cL_law 504 = .ok (.ireturn, 1) := by decide +kernel
theorem dL_law_505 : decode cL_law 505 = .ok (.aload_n 1, 1) := by decide +kernel
theorem dL_law_506 : decode cL_law 506 = .ok (.aload_n 0, 1) := by decide +kernel
theorem dL_law_507 : decode cL_law 507 = .ok (.iload_n 3, 1) := by decide +kernel
theorem dL_law_508 : decode cL_law 508 = .ok (.iconst 1, 1) := by decide +kernel
theorem dL_law_509 : decode cL_law 509 = .ok (.iadd, 1) := by decide +kernel
theorem dL_law_510 : decode cL_law 510 = .ok (.iaload, 1) := by decide +kernel
theorem dL_law_511 : decode cL_law 511 = .ok (.i2c, 1) := by decide +kernel
theorem dL_law_512 : decode cL_law 512 = .ok (.aload_n 0, 1) := by decide +kernel
theorem dL_law_513 : decode cL_law 513 = .ok (.iload_n 3, 1) := by decide +kernel
theorem dL_law_514 : decode cL_law 514 = .ok (.iconst 2, 1) := by decide +kernel
theorem dL_law_515 : decode cL_law 515 = .ok (.iadd, 1) := by decide +kernel
theorem dL_law_516 : decode cL_law 516 = .ok (.iaload, 1) := by decide +kernel
theorem dL_law_517 : decode cL_law 517 = .ok (.aload_n 0, 1) := by decide +kernel
theorem dL_law_518 : decode cL_law 518 = .ok (.iload_n 3, 1) := by decide +kernel
theorem dL_law_519 : decode cL_law 519 = .ok (.iconst 3, 1) := by decide +kernel
theorem dL_law_520 : decode cL_law 520 = .ok (.iadd, 1) := by decide +kernel
theorem dL_law_521 : decode cL_law 521 = .ok (.iaload, 1) := by decide +kernel
theorem dL_law_522 : decode cL_law 522 = .ok (.invokevirtual 79, 3) := by decide +kernel
theorem dL_law_525 : decode cL_law 525 = .ok (.aload_n 2, 1) := by decide +kernel
theorem dL_law_526 : decode cL_law 526 = .ok (.aload_n 0, 1) := by decide +kernel
theorem dL_law_527 : decode cL_law 527 = .ok (.iload_n 3, 1) := by decide +kernel
theorem dL_law_528 : decode cL_law 528 = .ok (.iconst 1, 1) := by decide +kernel
theorem dL_law_529 : decode cL_law 529 = .ok (.iadd, 1) := by decide +kernel
theorem dL_law_530 : decode cL_law 530 = .ok (.iaload, 1) := by decide +kernel
theorem dL_law_531 : decode cL_law 531 = .ok (.i2c, 1) := by decide +kernel
theorem dL_law_532 : decode cL_law 532 = .ok (.aload_n 0, 1) := by decide +kernel
theorem dL_law_533 : decode cL_law 533 = .ok (.iload_n 3, 1) := by decide +kernel
theorem dL_law_534 : decode cL_law 534 = .ok (.iconst 2, 1) := by decide +kernel
theorem dL_law_535 : decode cL_law 535 = .ok (.iadd, 1) := by decide +kernel
theorem dL_law_536 : decode cL_law 536 = .ok (.iaload, 1) := by decide +kernel
theorem dL_law_537 : decode cL_law 537 = .ok (.aload_n 0, 1) := by decide +kernel
theorem dL_law_538 : decode cL_law 538 = .ok (.iload_n 3, 1) := by decide +kernel
theorem dL_law_539 : decode cL_law 539 = .ok (.iconst 3, 1) := by decide +kernel
theorem dL_law_540 : decode cL_law 540 = .ok (.iadd, 1) := by decide +kernel
theorem dL_law_541 : decode cL_law 541 = .ok (.iaload, 1) := by decide +kernel
theorem dL_law_542 : decode cL_law 542 = .ok (.invokevirtual 82, 3) := by decide +kernel
theorem dL_law_545 : decode cL_law 545 = .ok (.if_icmp .eq 28, 3) := by decide +kernel
theorem dL_law_548 : decode cL_law 548 = .ok (.iconst 0, 1) := by decide +kernel
theorem dL_law_549 : decode cL_law 549 = .ok (.ireturn, 1) := by decide +kernel
theorem dL_law_550 : decode cL_law 550 = .ok (.aload_n 1, 1) := by decide +kernel
theorem dL_law_551 : decode cL_law 551 = .ok (.aload_n 0, 1) := by decide +kernel
theorem dL_law_552 : decode cL_law 552 = .ok (.iload_n 3, 1) := by decide +kernel
theorem dL_law_553 : decode cL_law 553 = .ok (.iconst 1, 1) := by decide +kernel
theorem dL_law_554 : decode cL_law 554 = .ok (.iadd, 1) := by decide +kernel
theorem dL_law_555 : decode cL_law 555 = .ok (.iaload, 1) := by decide +kernel
theorem dL_law_556 : decode cL_law 556 = .ok (.invokevirtual 83, 3) := by decide +kernel
theorem dL_law_559 : decode cL_law 559 = .ok (.aload_n 2, 1) := by decide +kernel
theorem dL_law_560 : decode cL_law 560 = .ok (.aload_n 0, 1) := by decide +kernel
theorem dL_law_561 : decode cL_law 561 = .ok (.iload_n 3, 1) := by decide +kernel
theorem dL_law_562 : decode cL_law 562 = .ok (.iconst 1, 1) := by decide +kernel
theorem dL_law_563 : decode cL_law 563 = .ok (.iadd, 1) := by decide +kernel
theorem dL_law_564 : decode cL_law 564 = .ok (.iaload, 1) := by decide +kernel
theorem dL_law_565 : decode cL_law 565 = .ok (.invokevirtual 86, 3) := by decide +kernel
theorem dL_law_568 : decode cL_law 568 = .ok (.if_icmp .eq 5, 3) := by decide +kernel
theorem dL_law_571 : decode cL_law 571 = .ok (.iconst 0, 1) := by decide +kernel
theorem dL_law_572 : decode cL_law 572 = .ok (.ireturn, 1) := by decide +kernel
theorem dL_law_573 : decode cL_law 573 = .ok (.iinc 3 4, 3) := by decide +kernel
theorem dL_law_576 : decode cL_law 576 = .ok (.goto (-558), 3) := by decide +kernel
theorem dL_law_579 : decode cL_law 579 = .ok (.iconst 1, 1) := by decide +kernel
theorem dL_law_580 : decode cL_law 580 = .ok (.ireturn, 1) := by decide +kernel
theorem ki_L_9 : xn_FI RL 9 yX6_init cX6_init 1 := ⟨xm_tb_of (List.mem_of_getElem? (i := 18) (by decide +kernel)) rfl, xm_tb_of (List.mem_of_getElem? (i := 16) (by decide +kernel)) rfl, xm_tb_of (List.mem_of_getElem? (i := 17) (by decide +kernel)) rfl, xm_tb_of (List.mem_of_getElem? (i := 1) (by decide +kernel)) rfl, rfl, ⟨by decide +kernel, by decide +kernel, by decide +kernel⟩⟩
theorem ki_L_12 : xn_FI RL 12 yX7_init cX7_init 1 := ⟨xm_tb_of (List.mem_of_getElem? (i := 571) (by decide +kernel)) rfl, xm_tb_of (List.mem_of_getElem? (i := 569) (by decide +kernel)) rfl, xm_tb_of (List.mem_of_getElem? (i := 570) (by decide +kernel)) rfl, xm_tb_of (List.mem_of_getElem? (i := 8) (by decide +kernel)) rfl, rfl, ⟨by decide +kernel, by decide +kernel, by decide +kernel⟩⟩
theorem cl_L_7 : Cond.classLink RL 7 RX6 ∈ xm_tb := xm_tb_of (List.mem_of_getElem? (i := 14) (by decide +kernel)) rfl
theorem ibL_X6 : Cond.instantiable RX6 7 ∈ xm_tb ∧ Cond.initialized RX6 ∈ xm_tb := ⟨xm_tb_of (List.mem_of_getElem? (i := 15) (by decide +kernel)) rfl, xm_tb_of (List.mem_of_getElem? (i := 1) (by decide +kernel)) rfl⟩
theorem cl_L_10 : Cond.classLink RL 10 RX7 ∈ xm_tb := xm_tb_of (List.mem_of_getElem? (i := 567) (by decide +kernel)) rfl
theorem ibL_X7 : Cond.instantiable RX7 21 ∈ xm_tb ∧ Cond.initialized RX7 ∈ xm_tb := ⟨xm_tb_of (List.mem_of_getElem? (i := 568) (by decide +kernel)) rfl, xm_tb_of (List.mem_of_getElem? (i := 8) (by decide +kernel)) rfl⟩
theorem xl_split {A : Nat → Prop} {V U : xm_V} {M N : xm_M} (h : va_D A (xm_w V M ++ xm_w U N)) : xm_D V ∧ xm_D U ∧ (∀ i j, i < V.2.2 → j < U.2.2 → V.1 i ≠ U.1 j) ∧ (∀ i, i < V.2.2 → A (V.1 i)) ∧ ∀ i, i < U.2.2 → A (U.1 i) := by
  have hl : (xm_w V M).length = V.2.2 := by simp [xm_w]
  have p1 : ∀ i, i < V.2.2 → (xm_w V M ++ xm_w U N)[i]? = some (V.1 i, V.2.1 i (M i)) := fun i hi => by
    rw [List.getElem?_append_left (by omega)]
    exact xm_at hi rfl
  have p2 : ∀ i, i < U.2.2 → (xm_w V M ++ xm_w U N)[V.2.2 + i]? = some (U.1 i, U.2.1 i (N i)) := fun i hi => by
    rw [List.getElem?_append_right (by omega), hl, Nat.add_sub_cancel_left]
    exact xm_at hi rfl
  refine ⟨fun i j hi hj he => h.1 i j _ _ (p1 i hi) (p1 j hj) he, fun i j hi hj he => ?_, fun i j hi hj he => ?_, fun i hi => h.2 i _ (p1 i hi), fun i hi => h.2 _ _ (p2 i hi)⟩
  · have := h.1 _ _ _ _ (p2 i hi) (p2 j hj) he
    omega
  · have := h.1 _ _ _ _ (p1 i hi) (p2 j hj) he
    omega
theorem xl_splitP {D : va_G} {cl : List vw_C} {ws wt : va_W} {H : Heap} (h : va_P D cl (ws ++ wt) H) : va_P D cl ws H ∧ va_P D cl wt H := by
  refine ⟨fun k q hq => h k q ?_, fun k q hq => h (ws.length + k) q ?_⟩
  · rw [List.getElem?_append_left (List.getElem?_eq_some_iff.mp hq).1]
    exact hq
  · rw [List.getElem?_append_right (by omega), Nat.add_sub_cancel_left]
    exact hq
theorem xl_rng {i L : Nat} (hi : i ≤ 4096) (hL : L ≤ 2048) (h : ¬ nI L - 4 < nI i) : i + 4 ≤ L := by
  have e : nI L - 4 = nI L - nI 4 := rfl
  rw [e, Int32.lt_iff_toInt_lt, pk_sub_toInt (by omega) (by omega), nI_toInt (by omega)] at h
  omega
theorem xl_out {i L : Nat} (hi : i ≤ 4096) (hL : L ≤ 2048) (h : i + 4 ≤ L) : ¬ nI L - 4 < nI i := by
  have e : nI L - 4 = nI L - nI 4 := rfl
  rw [e, Int32.lt_iff_toInt_lt, pk_sub_toInt (by omega) (by omega), nI_toInt (by omega)]
  omega
theorem xl_at {i k L : Nat} {x : Int32} (hx : x = nI i) (h : i + k < L) (hL : L ≤ 2048) (y : Int32) (hy : y = nI k) : vp_in (x + y) L := by
  rw [hx, hy, nI_add]
  exact vp_in_nI h (by omega)
theorem xl_ch (x : Int32) : ∃ c : Nat, c < 65536 ∧ (x.toUInt32 % 65536).toInt32 = nI c := ⟨_, Nat.mod_lt _ (by decide), pk_char x⟩
theorem k_L_13 : xm_FV RL 13 yX6_event cX6_event 5 (some .int) 3 := ⟨xm_tb_of (List.mem_of_getElem? (i := 263) (by decide +kernel)) rfl, xm_tb_of (List.mem_of_getElem? (i := 260) (by decide +kernel)) rfl, xm_tb_of (List.mem_of_getElem? (i := 261) (by decide +kernel)) rfl, xm_tb_of (List.mem_of_getElem? (i := 262) (by decide +kernel)) rfl, xm_tb_of (List.mem_of_getElem? (i := 1) (by decide +kernel)) rfl, ⟨by decide +kernel, by decide +kernel, by decide +kernel⟩⟩
theorem k_L_17 : xm_FV RL 17 yX7_event cX7_event 4 (some .int) 3 := ⟨xm_tb_of (List.mem_of_getElem? (i := 640) (by decide +kernel)) rfl, xm_tb_of (List.mem_of_getElem? (i := 637) (by decide +kernel)) rfl, xm_tb_of (List.mem_of_getElem? (i := 638) (by decide +kernel)) rfl, xm_tb_of (List.mem_of_getElem? (i := 639) (by decide +kernel)) rfl, xm_tb_of (List.mem_of_getElem? (i := 8) (by decide +kernel)) rfl, ⟨by decide +kernel, by decide +kernel, by decide +kernel⟩⟩
set_option maxHeartbeats 4000000 in
set_option maxRecDepth 100000 in
theorem xl_case0 {p : Program} {l : Launch} {e : Env} {s : State} {m : MethodId} {below : List Frame} {meth : Method} {c : Code} {E : xm_E} {a bb : Nat → Nat} {b L : Nat} {xs : Nat → Int32} (C0 : lw_At p s m meth c b L xs) (hL : L ≤ 2048) (hK : xm_K E s) (hS0 : xm_S E (fun q : Nat => s.heap.size ≤ q) s s.heap) (hDx : xm_D (xv E a)) (hDm : xm_D (xu E bb)) (hXM : ∀ i j, i < 120 → j < 13 → a i ≠ bb j) (hXA : ∀ i, i < 120 → s.heap.size ≤ a i) (hMA : ∀ i, i < 13 → s.heap.size ≤ bb i) {i : Nat} {x3 : Int32} (hx3 : x3 = nI i) (hi : i + 4 ≤ L) {M N : xm_M} (hI : xr_Inv M N) {H : Heap} {locs : List Loc} (hPx : va_P E.1 vwCl (xm_w (xv E a) M) H) (hPm : va_P E.1 vwCl (xm_w (xu E bb) N) H) (hS : va_S (fun q : Nat => s.heap.size ≤ q) s.heap H locs) {ls : Array Slot} (hl : lv_has ls 4 [(0, .ref b), (1, .ref (a 0)), (2, .ref (bb 0)), (3, .int x3)])
    (kk : ∀ (M' N' : xm_M), xr_Inv M' N' → ∀ (H : Heap) (locs : List Loc), va_P E.1 vwCl (xm_w (xv E a) M') H → va_P E.1 vwCl (xm_w (xu E bb) N') H → va_S (fun q : Nat => s.heap.size ≤ q) s.heap H locs → W p l e room_1 s m #[Value.ref b] below meth c H locs 600000 7302250 (lw_Z below #[Value.ref b] s) (F0 m 573 ls [])) : W p l e room_1 s m #[Value.ref b] below meth c H locs 600000 7302250 (lw_Z below #[Value.ref b] s) (F0 m 116 ls []) := by
  obtain ⟨hx, hb, hr, hml, hown, hts9, hX, hbl, hlocks, hgv⟩ := C0
  have hts := xl_tb hts9
  have hbA : ¬ (fun q : Nat => s.heap.size ≤ q) b := Nat.not_le.mpr hbl
  obtain ⟨a1, ea1⟩ : ∃ z, xs (x3 + 1).toNatClampNeg = z := ⟨_, rfl⟩
  obtain ⟨a2, ea2⟩ : ∃ z, xs (x3 + 2).toNatClampNeg = z := ⟨_, rfl⟩
  obtain ⟨a3, ea3⟩ : ∃ z, xs (x3 + 3).toNatClampNeg = z := ⟨_, rfl⟩
  obtain ⟨k1, hk1, ek1⟩ := xl_ch a1
  obtain ⟨n1, n2, r, M', N', e1, e2, hI'⟩ := xr_event hI hk1 a2 a3
  refine lv_aload_n hx hb dL_law_116 rfl (lv_at hl 1 rfl) ?_
  refine lv_aload_n hx hb dL_law_117 rfl (lv_at hl 0 rfl) ?_
  refine lv_iload_n hx hb dL_law_118 rfl (lv_at hl 3 rfl) ?_
  refine lv_iconst (v := 1) hx hb dL_law_119 (by decide) ?_
  refine lv_iadd hx hb dL_law_120 ?_
  refine va_sld hx hb hX hbl hbA hS (xl_at hx3 (k := 1) (by omega) hL 1 rfl) dL_law_121 ?_
  rw [ea1]
  refine lv_i2c (v := nI k1) hx hb dL_law_122 ek1 ?_
  refine lv_aload_n hx hb dL_law_123 rfl (lv_at hl 0 rfl) ?_
  refine lv_iload_n hx hb dL_law_124 rfl (lv_at hl 3 rfl) ?_
  refine lv_iconst (v := 2) hx hb dL_law_125 (by decide) ?_
  refine lv_iadd hx hb dL_law_126 ?_
  refine va_sld hx hb hX hbl hbA hS (xl_at hx3 (k := 2) (by omega) hL 2 rfl) dL_law_127 ?_
  rw [ea2]
  refine lv_aload_n hx hb dL_law_128 rfl (lv_at hl 0 rfl) ?_
  refine lv_iload_n hx hb dL_law_129 rfl (lv_at hl 3 rfl) ?_
  refine lv_iconst (v := 3) hx hb dL_law_130 (by decide) ?_
  refine lv_iadd hx hb dL_law_131 ?_
  refine va_sld hx hb hX hbl hbA hS (xl_at hx3 (k := 3) (by omega) hL 3 rfl) dL_law_132 ?_
  rw [ea3]
  refine xw_call (V := xv E a) (U := xu E bb) hx hb hml hown hts hK hS0 hPx hPm hXM hXA hS [.int (nI k1), .int a2, .int a3] [] (c_X6_event hDx n1 M (nI k1) a2 a3 r M' e1) k_L_13 (va_recv hK.1 hPx (ci := 6) (q0 := 0) rfl (xm_at (Nat.le_of_ble_eq_true rfl) rfl)) rfl rfl ⟨(Nat.le_of_ble_eq_true rfl), (Nat.le_of_ble_eq_true rfl)⟩ hl.1 (Nat.le_of_ble_eq_true rfl) ⟨(Nat.le_of_ble_eq_true rfl), (Nat.le_of_ble_eq_true rfl)⟩ dL_law_133 (fun H locs hPx hPm hS => ?_)
  change W p l e room_1 s m #[Value.ref b] below meth c H locs 600000 7302250 (lw_Z below #[Value.ref b] s) (F0 m 136 ls [.int r])
  refine lv_aload_n hx hb dL_law_136 rfl (lv_at hl 2 rfl) ?_
  refine lv_aload_n hx hb dL_law_137 rfl (lv_at hl 0 rfl) ?_
  refine lv_iload_n hx hb dL_law_138 rfl (lv_at hl 3 rfl) ?_
  refine lv_iconst (v := 1) hx hb dL_law_139 (by decide) ?_
  refine lv_iadd hx hb dL_law_140 ?_
  refine va_sld hx hb hX hbl hbA hS (xl_at hx3 (k := 1) (by omega) hL 1 rfl) dL_law_141 ?_
  rw [ea1]
  refine lv_i2c (v := nI k1) hx hb dL_law_142 ek1 ?_
  refine lv_aload_n hx hb dL_law_143 rfl (lv_at hl 0 rfl) ?_
  refine lv_iload_n hx hb dL_law_144 rfl (lv_at hl 3 rfl) ?_
  refine lv_iconst (v := 2) hx hb dL_law_145 (by decide) ?_
  refine lv_iadd hx hb dL_law_146 ?_
  refine va_sld hx hb hX hbl hbA hS (xl_at hx3 (k := 2) (by omega) hL 2 rfl) dL_law_147 ?_
  rw [ea2]
  refine lv_aload_n hx hb dL_law_148 rfl (lv_at hl 0 rfl) ?_
  refine lv_iload_n hx hb dL_law_149 rfl (lv_at hl 3 rfl) ?_
  refine lv_iconst (v := 3) hx hb dL_law_150 (by decide) ?_
  refine lv_iadd hx hb dL_law_151 ?_
  refine va_sld hx hb hX hbl hbA hS (xl_at hx3 (k := 3) (by omega) hL 3 rfl) dL_law_152 ?_
  rw [ea3]
  refine xw_call (V := xu E bb) (U := xv E a) hx hb hml hown hts hK hS0 hPm hPx (fun i j hi hj h => hXM j i hj hi h.symm) hMA hS [.int (nI k1), .int a2, .int a3] [.int r] (c_X7_event hDm n2 N (nI k1) a2 a3 r N' e2) k_L_17 (va_recv hK.1 hPm (ci := 7) (q0 := 0) rfl (xm_at (Nat.le_of_ble_eq_true rfl) rfl)) rfl rfl ⟨(Nat.le_of_ble_eq_true rfl), (Nat.le_of_ble_eq_true rfl)⟩ hl.1 (Nat.le_of_ble_eq_true rfl) ⟨(Nat.le_of_ble_eq_true rfl), (Nat.le_of_ble_eq_true rfl)⟩ dL_law_153 (fun H locs hPm hPx hS => ?_)
  change W p l e room_1 s m #[Value.ref b] below meth c H locs 600000 7302250 (lw_Z below #[Value.ref b] s) (F0 m 156 ls [.int r, .int r])
  refine lv_icmp_eq (tgt := 573) hx hb dL_law_156 (by decide) (fun _ => ?_) (fun c => absurd rfl c)
  exact kk M' N' hI' H locs hPx hPm hS
theorem k_L_18 : xm_FV RL 18 yX6_forget cX6_forget 3 (some .int) 1 := ⟨xm_tb_of (List.mem_of_getElem? (i := 300) (by decide +kernel)) rfl, xm_tb_of (List.mem_of_getElem? (i := 297) (by decide +kernel)) rfl, xm_tb_of (List.mem_of_getElem? (i := 298) (by decide +kernel)) rfl, xm_tb_of (List.mem_of_getElem? (i := 299) (by decide +kernel)) rfl, xm_tb_of (List.mem_of_getElem? (i := 1) (by decide +kernel)) rfl, ⟨by decide +kernel, by decide +kernel, by decide +kernel⟩⟩
theorem k_L_22 : xm_FV RL 22 yX7_forget cX7_forget 4 (some .int) 1 := ⟨xm_tb_of (List.mem_of_getElem? (i := 670) (by decide +kernel)) rfl, xm_tb_of (List.mem_of_getElem? (i := 667) (by decide +kernel)) rfl, xm_tb_of (List.mem_of_getElem? (i := 668) (by decide +kernel)) rfl, xm_tb_of (List.mem_of_getElem? (i := 669) (by decide +kernel)) rfl, xm_tb_of (List.mem_of_getElem? (i := 8) (by decide +kernel)) rfl, ⟨by decide +kernel, by decide +kernel, by decide +kernel⟩⟩
set_option maxHeartbeats 4000000 in
set_option maxRecDepth 100000 in
theorem xl_case1 {p : Program} {l : Launch} {e : Env} {s : State} {m : MethodId} {below : List Frame} {meth : Method} {c : Code} {E : xm_E} {a bb : Nat → Nat} {b L : Nat} {xs : Nat → Int32} (C0 : lw_At p s m meth c b L xs) (hL : L ≤ 2048) (hK : xm_K E s) (hS0 : xm_S E (fun q : Nat => s.heap.size ≤ q) s s.heap) (hDx : xm_D (xv E a)) (hDm : xm_D (xu E bb)) (hXM : ∀ i j, i < 120 → j < 13 → a i ≠ bb j) (hXA : ∀ i, i < 120 → s.heap.size ≤ a i) (hMA : ∀ i, i < 13 → s.heap.size ≤ bb i) {i : Nat} {x3 : Int32} (hx3 : x3 = nI i) (hi : i + 4 ≤ L) {M N : xm_M} (hI : xr_Inv M N) {H : Heap} {locs : List Loc} (hPx : va_P E.1 vwCl (xm_w (xv E a) M) H) (hPm : va_P E.1 vwCl (xm_w (xu E bb) N) H) (hS : va_S (fun q : Nat => s.heap.size ≤ q) s.heap H locs) {ls : Array Slot} (hl : lv_has ls 4 [(0, .ref b), (1, .ref (a 0)), (2, .ref (bb 0)), (3, .int x3)])
    (kk : ∀ (M' N' : xm_M), xr_Inv M' N' → ∀ (H : Heap) (locs : List Loc), va_P E.1 vwCl (xm_w (xv E a) M') H → va_P E.1 vwCl (xm_w (xu E bb) N') H → va_S (fun q : Nat => s.heap.size ≤ q) s.heap H locs → W p l e room_1 s m #[Value.ref b] below meth c H locs 600000 7302250 (lw_Z below #[Value.ref b] s) (F0 m 573 ls [])) : W p l e room_1 s m #[Value.ref b] below meth c H locs 600000 7302250 (lw_Z below #[Value.ref b] s) (F0 m 161 ls []) := by
  obtain ⟨hx, hb, hr, hml, hown, hts9, hX, hbl, hlocks, hgv⟩ := C0
  have hts := xl_tb hts9
  have hbA : ¬ (fun q : Nat => s.heap.size ≤ q) b := Nat.not_le.mpr hbl
  obtain ⟨a1, ea1⟩ : ∃ z, xs (x3 + 1).toNatClampNeg = z := ⟨_, rfl⟩
  obtain ⟨a2, ea2⟩ : ∃ z, xs (x3 + 2).toNatClampNeg = z := ⟨_, rfl⟩
  obtain ⟨a3, ea3⟩ : ∃ z, xs (x3 + 3).toNatClampNeg = z := ⟨_, rfl⟩
  obtain ⟨k1, hk1, ek1⟩ := xl_ch a1
  obtain ⟨n1, n2, r, M', N', e1, e2, hI'⟩ := xr_forget hI a1
  refine lv_aload_n hx hb dL_law_161 rfl (lv_at hl 1 rfl) ?_
  refine lv_aload_n hx hb dL_law_162 rfl (lv_at hl 0 rfl) ?_
  refine lv_iload_n hx hb dL_law_163 rfl (lv_at hl 3 rfl) ?_
  refine lv_iconst (v := 1) hx hb dL_law_164 (by decide) ?_
  refine lv_iadd hx hb dL_law_165 ?_
  refine va_sld hx hb hX hbl hbA hS (xl_at hx3 (k := 1) (by omega) hL 1 rfl) dL_law_166 ?_
  rw [ea1]
  refine xw_call (V := xv E a) (U := xu E bb) hx hb hml hown hts hK hS0 hPx hPm hXM hXA hS [.int a1] [] (c_X6_forget hDx n1 M a1 r M' e1) k_L_18 (va_recv hK.1 hPx (ci := 6) (q0 := 0) rfl (xm_at (Nat.le_of_ble_eq_true rfl) rfl)) rfl rfl ⟨(Nat.le_of_ble_eq_true rfl), (Nat.le_of_ble_eq_true rfl)⟩ hl.1 (Nat.le_of_ble_eq_true rfl) ⟨(Nat.le_of_ble_eq_true rfl), (Nat.le_of_ble_eq_true rfl)⟩ dL_law_167 (fun H locs hPx hPm hS => ?_)
  change W p l e room_1 s m #[Value.ref b] below meth c H locs 600000 7302250 (lw_Z below #[Value.ref b] s) (F0 m 170 ls [.int r])
  refine lv_aload_n hx hb dL_law_170 rfl (lv_at hl 2 rfl) ?_
  refine lv_aload_n hx hb dL_law_171 rfl (lv_at hl 0 rfl) ?_
  refine lv_iload_n hx hb dL_law_172 rfl (lv_at hl 3 rfl) ?_
  refine lv_iconst (v := 1) hx hb dL_law_173 (by decide) ?_
  refine lv_iadd hx hb dL_law_174 ?_
  refine va_sld hx hb hX hbl hbA hS (xl_at hx3 (k := 1) (by omega) hL 1 rfl) dL_law_175 ?_
  rw [ea1]
  refine xw_call (V := xu E bb) (U := xv E a) hx hb hml hown hts hK hS0 hPm hPx (fun i j hi hj h => hXM j i hj hi h.symm) hMA hS [.int a1] [.int r] (c_X7_forget hDm n2 N a1 r N' e2) k_L_22 (va_recv hK.1 hPm (ci := 7) (q0 := 0) rfl (xm_at (Nat.le_of_ble_eq_true rfl) rfl)) rfl rfl ⟨(Nat.le_of_ble_eq_true rfl), (Nat.le_of_ble_eq_true rfl)⟩ hl.1 (Nat.le_of_ble_eq_true rfl) ⟨(Nat.le_of_ble_eq_true rfl), (Nat.le_of_ble_eq_true rfl)⟩ dL_law_176 (fun H locs hPm hPx hS => ?_)
  change W p l e room_1 s m #[Value.ref b] below meth c H locs 600000 7302250 (lw_Z below #[Value.ref b] s) (F0 m 179 ls [.int r, .int r])
  refine lv_icmp_eq (tgt := 573) hx hb dL_law_179 (by decide) (fun _ => ?_) (fun c => absurd rfl c)
  exact kk M' N' hI' H locs hPx hPm hS
theorem k_L_23 : xm_FV RL 23 yX6_setLateness cX6_setLateness 3 (some .int) 1 := ⟨xm_tb_of (List.mem_of_getElem? (i := 312) (by decide +kernel)) rfl, xm_tb_of (List.mem_of_getElem? (i := 309) (by decide +kernel)) rfl, xm_tb_of (List.mem_of_getElem? (i := 310) (by decide +kernel)) rfl, xm_tb_of (List.mem_of_getElem? (i := 311) (by decide +kernel)) rfl, xm_tb_of (List.mem_of_getElem? (i := 1) (by decide +kernel)) rfl, ⟨by decide +kernel, by decide +kernel, by decide +kernel⟩⟩
theorem k_L_26 : xm_FV RL 26 yX7_setLateness cX7_setLateness 3 (some .int) 1 := ⟨xm_tb_of (List.mem_of_getElem? (i := 674) (by decide +kernel)) rfl, xm_tb_of (List.mem_of_getElem? (i := 671) (by decide +kernel)) rfl, xm_tb_of (List.mem_of_getElem? (i := 672) (by decide +kernel)) rfl, xm_tb_of (List.mem_of_getElem? (i := 673) (by decide +kernel)) rfl, xm_tb_of (List.mem_of_getElem? (i := 8) (by decide +kernel)) rfl, ⟨by decide +kernel, by decide +kernel, by decide +kernel⟩⟩
set_option maxHeartbeats 4000000 in
set_option maxRecDepth 100000 in
theorem xl_case2 {p : Program} {l : Launch} {e : Env} {s : State} {m : MethodId} {below : List Frame} {meth : Method} {c : Code} {E : xm_E} {a bb : Nat → Nat} {b L : Nat} {xs : Nat → Int32} (C0 : lw_At p s m meth c b L xs) (hL : L ≤ 2048) (hK : xm_K E s) (hS0 : xm_S E (fun q : Nat => s.heap.size ≤ q) s s.heap) (hDx : xm_D (xv E a)) (hDm : xm_D (xu E bb)) (hXM : ∀ i j, i < 120 → j < 13 → a i ≠ bb j) (hXA : ∀ i, i < 120 → s.heap.size ≤ a i) (hMA : ∀ i, i < 13 → s.heap.size ≤ bb i) {i : Nat} {x3 : Int32} (hx3 : x3 = nI i) (hi : i + 4 ≤ L) {M N : xm_M} (hI : xr_Inv M N) {H : Heap} {locs : List Loc} (hPx : va_P E.1 vwCl (xm_w (xv E a) M) H) (hPm : va_P E.1 vwCl (xm_w (xu E bb) N) H) (hS : va_S (fun q : Nat => s.heap.size ≤ q) s.heap H locs) {ls : Array Slot} (hl : lv_has ls 4 [(0, .ref b), (1, .ref (a 0)), (2, .ref (bb 0)), (3, .int x3)])
    (kk : ∀ (M' N' : xm_M), xr_Inv M' N' → ∀ (H : Heap) (locs : List Loc), va_P E.1 vwCl (xm_w (xv E a) M') H → va_P E.1 vwCl (xm_w (xu E bb) N') H → va_S (fun q : Nat => s.heap.size ≤ q) s.heap H locs → W p l e room_1 s m #[Value.ref b] below meth c H locs 600000 7302250 (lw_Z below #[Value.ref b] s) (F0 m 573 ls [])) : W p l e room_1 s m #[Value.ref b] below meth c H locs 600000 7302250 (lw_Z below #[Value.ref b] s) (F0 m 184 ls []) := by
  obtain ⟨hx, hb, hr, hml, hown, hts9, hX, hbl, hlocks, hgv⟩ := C0
  have hts := xl_tb hts9
  have hbA : ¬ (fun q : Nat => s.heap.size ≤ q) b := Nat.not_le.mpr hbl
  obtain ⟨a1, ea1⟩ : ∃ z, xs (x3 + 1).toNatClampNeg = z := ⟨_, rfl⟩
  obtain ⟨a2, ea2⟩ : ∃ z, xs (x3 + 2).toNatClampNeg = z := ⟨_, rfl⟩
  obtain ⟨a3, ea3⟩ : ∃ z, xs (x3 + 3).toNatClampNeg = z := ⟨_, rfl⟩
  obtain ⟨k1, hk1, ek1⟩ := xl_ch a1
  obtain ⟨n1, n2, r, M', N', e1, e2, hI'⟩ := xr_setLateness hI a1
  refine lv_aload_n hx hb dL_law_184 rfl (lv_at hl 1 rfl) ?_
  refine lv_aload_n hx hb dL_law_185 rfl (lv_at hl 0 rfl) ?_
  refine lv_iload_n hx hb dL_law_186 rfl (lv_at hl 3 rfl) ?_
  refine lv_iconst (v := 1) hx hb dL_law_187 (by decide) ?_
  refine lv_iadd hx hb dL_law_188 ?_
  refine va_sld hx hb hX hbl hbA hS (xl_at hx3 (k := 1) (by omega) hL 1 rfl) dL_law_189 ?_
  rw [ea1]
  refine xw_call (V := xv E a) (U := xu E bb) hx hb hml hown hts hK hS0 hPx hPm hXM hXA hS [.int a1] [] (c_X6_setLateness hDx n1 M a1 r M' e1) k_L_23 (va_recv hK.1 hPx (ci := 6) (q0 := 0) rfl (xm_at (Nat.le_of_ble_eq_true rfl) rfl)) rfl rfl ⟨(Nat.le_of_ble_eq_true rfl), (Nat.le_of_ble_eq_true rfl)⟩ hl.1 (Nat.le_of_ble_eq_true rfl) ⟨(Nat.le_of_ble_eq_true rfl), (Nat.le_of_ble_eq_true rfl)⟩ dL_law_190 (fun H locs hPx hPm hS => ?_)
  change W p l e room_1 s m #[Value.ref b] below meth c H locs 600000 7302250 (lw_Z below #[Value.ref b] s) (F0 m 193 ls [.int r])
  refine lv_aload_n hx hb dL_law_193 rfl (lv_at hl 2 rfl) ?_
  refine lv_aload_n hx hb dL_law_194 rfl (lv_at hl 0 rfl) ?_
  refine lv_iload_n hx hb dL_law_195 rfl (lv_at hl 3 rfl) ?_
  refine lv_iconst (v := 1) hx hb dL_law_196 (by decide) ?_
  refine lv_iadd hx hb dL_law_197 ?_
  refine va_sld hx hb hX hbl hbA hS (xl_at hx3 (k := 1) (by omega) hL 1 rfl) dL_law_198 ?_
  rw [ea1]
  refine xw_call (V := xu E bb) (U := xv E a) hx hb hml hown hts hK hS0 hPm hPx (fun i j hi hj h => hXM j i hj hi h.symm) hMA hS [.int a1] [.int r] (c_X7_setLateness hDm n2 N a1 r N' e2) k_L_26 (va_recv hK.1 hPm (ci := 7) (q0 := 0) rfl (xm_at (Nat.le_of_ble_eq_true rfl) rfl)) rfl rfl ⟨(Nat.le_of_ble_eq_true rfl), (Nat.le_of_ble_eq_true rfl)⟩ hl.1 (Nat.le_of_ble_eq_true rfl) ⟨(Nat.le_of_ble_eq_true rfl), (Nat.le_of_ble_eq_true rfl)⟩ dL_law_199 (fun H locs hPm hPx hS => ?_)
  change W p l e room_1 s m #[Value.ref b] below meth c H locs 600000 7302250 (lw_Z below #[Value.ref b] s) (F0 m 202 ls [.int r, .int r])
  refine lv_icmp_eq (tgt := 573) hx hb dL_law_202 (by decide) (fun _ => ?_) (fun c => absurd rfl c)
  exact kk M' N' hI' H locs hPx hPm hS
theorem k_L_27 : xm_FV RL 27 yX6_addPattern cX6_addPattern 2 (some .int) 0 := ⟨xm_tb_of (List.mem_of_getElem? (i := 316) (by decide +kernel)) rfl, xm_tb_of (List.mem_of_getElem? (i := 313) (by decide +kernel)) rfl, xm_tb_of (List.mem_of_getElem? (i := 314) (by decide +kernel)) rfl, xm_tb_of (List.mem_of_getElem? (i := 315) (by decide +kernel)) rfl, xm_tb_of (List.mem_of_getElem? (i := 1) (by decide +kernel)) rfl, ⟨by decide +kernel, by decide +kernel, by decide +kernel⟩⟩
theorem k_L_31 : xm_FV RL 31 yX7_addPattern cX7_addPattern 3 (some .int) 0 := ⟨xm_tb_of (List.mem_of_getElem? (i := 687) (by decide +kernel)) rfl, xm_tb_of (List.mem_of_getElem? (i := 684) (by decide +kernel)) rfl, xm_tb_of (List.mem_of_getElem? (i := 685) (by decide +kernel)) rfl, xm_tb_of (List.mem_of_getElem? (i := 686) (by decide +kernel)) rfl, xm_tb_of (List.mem_of_getElem? (i := 8) (by decide +kernel)) rfl, ⟨by decide +kernel, by decide +kernel, by decide +kernel⟩⟩
set_option maxHeartbeats 4000000 in
set_option maxRecDepth 100000 in
theorem xl_case3 {p : Program} {l : Launch} {e : Env} {s : State} {m : MethodId} {below : List Frame} {meth : Method} {c : Code} {E : xm_E} {a bb : Nat → Nat} {b L : Nat} {xs : Nat → Int32} (C0 : lw_At p s m meth c b L xs) (hL : L ≤ 2048) (hK : xm_K E s) (hS0 : xm_S E (fun q : Nat => s.heap.size ≤ q) s s.heap) (hDx : xm_D (xv E a)) (hDm : xm_D (xu E bb)) (hXM : ∀ i j, i < 120 → j < 13 → a i ≠ bb j) (hXA : ∀ i, i < 120 → s.heap.size ≤ a i) (hMA : ∀ i, i < 13 → s.heap.size ≤ bb i) {i : Nat} {x3 : Int32} (hx3 : x3 = nI i) (hi : i + 4 ≤ L) {M N : xm_M} (hI : xr_Inv M N) {H : Heap} {locs : List Loc} (hPx : va_P E.1 vwCl (xm_w (xv E a) M) H) (hPm : va_P E.1 vwCl (xm_w (xu E bb) N) H) (hS : va_S (fun q : Nat => s.heap.size ≤ q) s.heap H locs) {ls : Array Slot} (hl : lv_has ls 4 [(0, .ref b), (1, .ref (a 0)), (2, .ref (bb 0)), (3, .int x3)])
    (kk : ∀ (M' N' : xm_M), xr_Inv M' N' → ∀ (H : Heap) (locs : List Loc), va_P E.1 vwCl (xm_w (xv E a) M') H → va_P E.1 vwCl (xm_w (xu E bb) N') H → va_S (fun q : Nat => s.heap.size ≤ q) s.heap H locs → W p l e room_1 s m #[Value.ref b] below meth c H locs 600000 7302250 (lw_Z below #[Value.ref b] s) (F0 m 573 ls [])) : W p l e room_1 s m #[Value.ref b] below meth c H locs 600000 7302250 (lw_Z below #[Value.ref b] s) (F0 m 207 ls []) := by
  obtain ⟨hx, hb, hr, hml, hown, hts9, hX, hbl, hlocks, hgv⟩ := C0
  have hts := xl_tb hts9
  have hbA : ¬ (fun q : Nat => s.heap.size ≤ q) b := Nat.not_le.mpr hbl
  obtain ⟨a1, ea1⟩ : ∃ z, xs (x3 + 1).toNatClampNeg = z := ⟨_, rfl⟩
  obtain ⟨a2, ea2⟩ : ∃ z, xs (x3 + 2).toNatClampNeg = z := ⟨_, rfl⟩
  obtain ⟨a3, ea3⟩ : ∃ z, xs (x3 + 3).toNatClampNeg = z := ⟨_, rfl⟩
  obtain ⟨k1, hk1, ek1⟩ := xl_ch a1
  obtain ⟨n1, n2, r, M', N', e1, e2, hI'⟩ := xr_addPattern hI 
  refine lv_aload_n hx hb dL_law_207 rfl (lv_at hl 1 rfl) ?_
  refine xw_call (V := xv E a) (U := xu E bb) hx hb hml hown hts hK hS0 hPx hPm hXM hXA hS [] [] (c_X6_addPattern hDx n1 M  r M' e1) k_L_27 (va_recv hK.1 hPx (ci := 6) (q0 := 0) rfl (xm_at (Nat.le_of_ble_eq_true rfl) rfl)) rfl rfl ⟨(Nat.le_of_ble_eq_true rfl), (Nat.le_of_ble_eq_true rfl)⟩ hl.1 (Nat.le_of_ble_eq_true rfl) ⟨(Nat.le_of_ble_eq_true rfl), (Nat.le_of_ble_eq_true rfl)⟩ dL_law_208 (fun H locs hPx hPm hS => ?_)
  change W p l e room_1 s m #[Value.ref b] below meth c H locs 600000 7302250 (lw_Z below #[Value.ref b] s) (F0 m 211 ls [.int r])
  refine lv_aload_n hx hb dL_law_211 rfl (lv_at hl 2 rfl) ?_
  refine xw_call (V := xu E bb) (U := xv E a) hx hb hml hown hts hK hS0 hPm hPx (fun i j hi hj h => hXM j i hj hi h.symm) hMA hS [] [.int r] (c_X7_addPattern hDm n2 N  r N' e2) k_L_31 (va_recv hK.1 hPm (ci := 7) (q0 := 0) rfl (xm_at (Nat.le_of_ble_eq_true rfl) rfl)) rfl rfl ⟨(Nat.le_of_ble_eq_true rfl), (Nat.le_of_ble_eq_true rfl)⟩ hl.1 (Nat.le_of_ble_eq_true rfl) ⟨(Nat.le_of_ble_eq_true rfl), (Nat.le_of_ble_eq_true rfl)⟩ dL_law_212 (fun H locs hPm hPx hS => ?_)
  change W p l e room_1 s m #[Value.ref b] below meth c H locs 600000 7302250 (lw_Z below #[Value.ref b] s) (F0 m 215 ls [.int r, .int r])
  refine lv_icmp_eq (tgt := 573) hx hb dL_law_215 (by decide) (fun _ => ?_) (fun c => absurd rfl c)
  exact kk M' N' hI' H locs hPx hPm hS
theorem k_L_32 : xm_FV RL 32 yX6_dropPattern cX6_dropPattern 2 (some .int) 1 := ⟨xm_tb_of (List.mem_of_getElem? (i := 426) (by decide +kernel)) rfl, xm_tb_of (List.mem_of_getElem? (i := 423) (by decide +kernel)) rfl, xm_tb_of (List.mem_of_getElem? (i := 424) (by decide +kernel)) rfl, xm_tb_of (List.mem_of_getElem? (i := 425) (by decide +kernel)) rfl, xm_tb_of (List.mem_of_getElem? (i := 1) (by decide +kernel)) rfl, ⟨by decide +kernel, by decide +kernel, by decide +kernel⟩⟩
theorem k_L_35 : xm_FV RL 35 yX7_dropPattern cX7_dropPattern 3 (some .int) 1 := ⟨xm_tb_of (List.mem_of_getElem? (i := 727) (by decide +kernel)) rfl, xm_tb_of (List.mem_of_getElem? (i := 724) (by decide +kernel)) rfl, xm_tb_of (List.mem_of_getElem? (i := 725) (by decide +kernel)) rfl, xm_tb_of (List.mem_of_getElem? (i := 726) (by decide +kernel)) rfl, xm_tb_of (List.mem_of_getElem? (i := 8) (by decide +kernel)) rfl, ⟨by decide +kernel, by decide +kernel, by decide +kernel⟩⟩
set_option maxHeartbeats 4000000 in
set_option maxRecDepth 100000 in
theorem xl_case4 {p : Program} {l : Launch} {e : Env} {s : State} {m : MethodId} {below : List Frame} {meth : Method} {c : Code} {E : xm_E} {a bb : Nat → Nat} {b L : Nat} {xs : Nat → Int32} (C0 : lw_At p s m meth c b L xs) (hL : L ≤ 2048) (hK : xm_K E s) (hS0 : xm_S E (fun q : Nat => s.heap.size ≤ q) s s.heap) (hDx : xm_D (xv E a)) (hDm : xm_D (xu E bb)) (hXM : ∀ i j, i < 120 → j < 13 → a i ≠ bb j) (hXA : ∀ i, i < 120 → s.heap.size ≤ a i) (hMA : ∀ i, i < 13 → s.heap.size ≤ bb i) {i : Nat} {x3 : Int32} (hx3 : x3 = nI i) (hi : i + 4 ≤ L) {M N : xm_M} (hI : xr_Inv M N) {H : Heap} {locs : List Loc} (hPx : va_P E.1 vwCl (xm_w (xv E a) M) H) (hPm : va_P E.1 vwCl (xm_w (xu E bb) N) H) (hS : va_S (fun q : Nat => s.heap.size ≤ q) s.heap H locs) {ls : Array Slot} (hl : lv_has ls 4 [(0, .ref b), (1, .ref (a 0)), (2, .ref (bb 0)), (3, .int x3)])
    (kk : ∀ (M' N' : xm_M), xr_Inv M' N' → ∀ (H : Heap) (locs : List Loc), va_P E.1 vwCl (xm_w (xv E a) M') H → va_P E.1 vwCl (xm_w (xu E bb) N') H → va_S (fun q : Nat => s.heap.size ≤ q) s.heap H locs → W p l e room_1 s m #[Value.ref b] below meth c H locs 600000 7302250 (lw_Z below #[Value.ref b] s) (F0 m 573 ls [])) : W p l e room_1 s m #[Value.ref b] below meth c H locs 600000 7302250 (lw_Z below #[Value.ref b] s) (F0 m 220 ls []) := by
  obtain ⟨hx, hb, hr, hml, hown, hts9, hX, hbl, hlocks, hgv⟩ := C0
  have hts := xl_tb hts9
  have hbA : ¬ (fun q : Nat => s.heap.size ≤ q) b := Nat.not_le.mpr hbl
  obtain ⟨a1, ea1⟩ : ∃ z, xs (x3 + 1).toNatClampNeg = z := ⟨_, rfl⟩
  obtain ⟨a2, ea2⟩ : ∃ z, xs (x3 + 2).toNatClampNeg = z := ⟨_, rfl⟩
  obtain ⟨a3, ea3⟩ : ∃ z, xs (x3 + 3).toNatClampNeg = z := ⟨_, rfl⟩
  obtain ⟨k1, hk1, ek1⟩ := xl_ch a1
  obtain ⟨n1, n2, r, M', N', e1, e2, hI'⟩ := xr_dropPattern hI a1
  refine lv_aload_n hx hb dL_law_220 rfl (lv_at hl 1 rfl) ?_
  refine lv_aload_n hx hb dL_law_221 rfl (lv_at hl 0 rfl) ?_
  refine lv_iload_n hx hb dL_law_222 rfl (lv_at hl 3 rfl) ?_
  refine lv_iconst (v := 1) hx hb dL_law_223 (by decide) ?_
  refine lv_iadd hx hb dL_law_224 ?_
  refine va_sld hx hb hX hbl hbA hS (xl_at hx3 (k := 1) (by omega) hL 1 rfl) dL_law_225 ?_
  rw [ea1]
  refine xw_call (V := xv E a) (U := xu E bb) hx hb hml hown hts hK hS0 hPx hPm hXM hXA hS [.int a1] [] (c_X6_dropPattern hDx n1 M a1 r M' e1) k_L_32 (va_recv hK.1 hPx (ci := 6) (q0 := 0) rfl (xm_at (Nat.le_of_ble_eq_true rfl) rfl)) rfl rfl ⟨(Nat.le_of_ble_eq_true rfl), (Nat.le_of_ble_eq_true rfl)⟩ hl.1 (Nat.le_of_ble_eq_true rfl) ⟨(Nat.le_of_ble_eq_true rfl), (Nat.le_of_ble_eq_true rfl)⟩ dL_law_226 (fun H locs hPx hPm hS => ?_)
  change W p l e room_1 s m #[Value.ref b] below meth c H locs 600000 7302250 (lw_Z below #[Value.ref b] s) (F0 m 229 ls [.int r])
  refine lv_aload_n hx hb dL_law_229 rfl (lv_at hl 2 rfl) ?_
  refine lv_aload_n hx hb dL_law_230 rfl (lv_at hl 0 rfl) ?_
  refine lv_iload_n hx hb dL_law_231 rfl (lv_at hl 3 rfl) ?_
  refine lv_iconst (v := 1) hx hb dL_law_232 (by decide) ?_
  refine lv_iadd hx hb dL_law_233 ?_
  refine va_sld hx hb hX hbl hbA hS (xl_at hx3 (k := 1) (by omega) hL 1 rfl) dL_law_234 ?_
  rw [ea1]
  refine xw_call (V := xu E bb) (U := xv E a) hx hb hml hown hts hK hS0 hPm hPx (fun i j hi hj h => hXM j i hj hi h.symm) hMA hS [.int a1] [.int r] (c_X7_dropPattern hDm n2 N a1 r N' e2) k_L_35 (va_recv hK.1 hPm (ci := 7) (q0 := 0) rfl (xm_at (Nat.le_of_ble_eq_true rfl) rfl)) rfl rfl ⟨(Nat.le_of_ble_eq_true rfl), (Nat.le_of_ble_eq_true rfl)⟩ hl.1 (Nat.le_of_ble_eq_true rfl) ⟨(Nat.le_of_ble_eq_true rfl), (Nat.le_of_ble_eq_true rfl)⟩ dL_law_235 (fun H locs hPm hPx hS => ?_)
  change W p l e room_1 s m #[Value.ref b] below meth c H locs 600000 7302250 (lw_Z below #[Value.ref b] s) (F0 m 238 ls [.int r, .int r])
  refine lv_icmp_eq (tgt := 573) hx hb dL_law_238 (by decide) (fun _ => ?_) (fun c => absurd rfl c)
  exact kk M' N' hI' H locs hPx hPm hS
theorem k_L_36 : xm_FV RL 36 yX6_setWindow cX6_setWindow 4 (some .int) 2 := ⟨xm_tb_of (List.mem_of_getElem? (i := 438) (by decide +kernel)) rfl, xm_tb_of (List.mem_of_getElem? (i := 435) (by decide +kernel)) rfl, xm_tb_of (List.mem_of_getElem? (i := 436) (by decide +kernel)) rfl, xm_tb_of (List.mem_of_getElem? (i := 437) (by decide +kernel)) rfl, xm_tb_of (List.mem_of_getElem? (i := 1) (by decide +kernel)) rfl, ⟨by decide +kernel, by decide +kernel, by decide +kernel⟩⟩
theorem k_L_40 : xm_FV RL 40 yX7_setWindow cX7_setWindow 4 (some .int) 2 := ⟨xm_tb_of (List.mem_of_getElem? (i := 735) (by decide +kernel)) rfl, xm_tb_of (List.mem_of_getElem? (i := 732) (by decide +kernel)) rfl, xm_tb_of (List.mem_of_getElem? (i := 733) (by decide +kernel)) rfl, xm_tb_of (List.mem_of_getElem? (i := 734) (by decide +kernel)) rfl, xm_tb_of (List.mem_of_getElem? (i := 8) (by decide +kernel)) rfl, ⟨by decide +kernel, by decide +kernel, by decide +kernel⟩⟩
set_option maxHeartbeats 4000000 in
set_option maxRecDepth 100000 in
theorem xl_case5 {p : Program} {l : Launch} {e : Env} {s : State} {m : MethodId} {below : List Frame} {meth : Method} {c : Code} {E : xm_E} {a bb : Nat → Nat} {b L : Nat} {xs : Nat → Int32} (C0 : lw_At p s m meth c b L xs) (hL : L ≤ 2048) (hK : xm_K E s) (hS0 : xm_S E (fun q : Nat => s.heap.size ≤ q) s s.heap) (hDx : xm_D (xv E a)) (hDm : xm_D (xu E bb)) (hXM : ∀ i j, i < 120 → j < 13 → a i ≠ bb j) (hXA : ∀ i, i < 120 → s.heap.size ≤ a i) (hMA : ∀ i, i < 13 → s.heap.size ≤ bb i) {i : Nat} {x3 : Int32} (hx3 : x3 = nI i) (hi : i + 4 ≤ L) {M N : xm_M} (hI : xr_Inv M N) {H : Heap} {locs : List Loc} (hPx : va_P E.1 vwCl (xm_w (xv E a) M) H) (hPm : va_P E.1 vwCl (xm_w (xu E bb) N) H) (hS : va_S (fun q : Nat => s.heap.size ≤ q) s.heap H locs) {ls : Array Slot} (hl : lv_has ls 4 [(0, .ref b), (1, .ref (a 0)), (2, .ref (bb 0)), (3, .int x3)])
    (kk : ∀ (M' N' : xm_M), xr_Inv M' N' → ∀ (H : Heap) (locs : List Loc), va_P E.1 vwCl (xm_w (xv E a) M') H → va_P E.1 vwCl (xm_w (xu E bb) N') H → va_S (fun q : Nat => s.heap.size ≤ q) s.heap H locs → W p l e room_1 s m #[Value.ref b] below meth c H locs 600000 7302250 (lw_Z below #[Value.ref b] s) (F0 m 573 ls [])) : W p l e room_1 s m #[Value.ref b] below meth c H locs 600000 7302250 (lw_Z below #[Value.ref b] s) (F0 m 243 ls []) := by
  obtain ⟨hx, hb, hr, hml, hown, hts9, hX, hbl, hlocks, hgv⟩ := C0
  have hts := xl_tb hts9
  have hbA : ¬ (fun q : Nat => s.heap.size ≤ q) b := Nat.not_le.mpr hbl
  obtain ⟨a1, ea1⟩ : ∃ z, xs (x3 + 1).toNatClampNeg = z := ⟨_, rfl⟩
  obtain ⟨a2, ea2⟩ : ∃ z, xs (x3 + 2).toNatClampNeg = z := ⟨_, rfl⟩
  obtain ⟨a3, ea3⟩ : ∃ z, xs (x3 + 3).toNatClampNeg = z := ⟨_, rfl⟩
  obtain ⟨k1, hk1, ek1⟩ := xl_ch a1
  obtain ⟨n1, n2, r, M', N', e1, e2, hI'⟩ := xr_setWindow hI a1 a2
  refine lv_aload_n hx hb dL_law_243 rfl (lv_at hl 1 rfl) ?_
  refine lv_aload_n hx hb dL_law_244 rfl (lv_at hl 0 rfl) ?_
  refine lv_iload_n hx hb dL_law_245 rfl (lv_at hl 3 rfl) ?_
  refine lv_iconst (v := 1) hx hb dL_law_246 (by decide) ?_
  refine lv_iadd hx hb dL_law_247 ?_
  refine va_sld hx hb hX hbl hbA hS (xl_at hx3 (k := 1) (by omega) hL 1 rfl) dL_law_248 ?_
  rw [ea1]
  refine lv_aload_n hx hb dL_law_249 rfl (lv_at hl 0 rfl) ?_
  refine lv_iload_n hx hb dL_law_250 rfl (lv_at hl 3 rfl) ?_
  refine lv_iconst (v := 2) hx hb dL_law_251 (by decide) ?_
  refine lv_iadd hx hb dL_law_252 ?_
  refine va_sld hx hb hX hbl hbA hS (xl_at hx3 (k := 2) (by omega) hL 2 rfl) dL_law_253 ?_
  rw [ea2]
  refine xw_call (V := xv E a) (U := xu E bb) hx hb hml hown hts hK hS0 hPx hPm hXM hXA hS [.int a1, .int a2] [] (c_X6_setWindow hDx n1 M a1 a2 r M' e1) k_L_36 (va_recv hK.1 hPx (ci := 6) (q0 := 0) rfl (xm_at (Nat.le_of_ble_eq_true rfl) rfl)) rfl rfl ⟨(Nat.le_of_ble_eq_true rfl), (Nat.le_of_ble_eq_true rfl)⟩ hl.1 (Nat.le_of_ble_eq_true rfl) ⟨(Nat.le_of_ble_eq_true rfl), (Nat.le_of_ble_eq_true rfl)⟩ dL_law_254 (fun H locs hPx hPm hS => ?_)
  change W p l e room_1 s m #[Value.ref b] below meth c H locs 600000 7302250 (lw_Z below #[Value.ref b] s) (F0 m 257 ls [.int r])
  refine lv_aload_n hx hb dL_law_257 rfl (lv_at hl 2 rfl) ?_
  refine lv_aload_n hx hb dL_law_258 rfl (lv_at hl 0 rfl) ?_
  refine lv_iload_n hx hb dL_law_259 rfl (lv_at hl 3 rfl) ?_
  refine lv_iconst (v := 1) hx hb dL_law_260 (by decide) ?_
  refine lv_iadd hx hb dL_law_261 ?_
  refine va_sld hx hb hX hbl hbA hS (xl_at hx3 (k := 1) (by omega) hL 1 rfl) dL_law_262 ?_
  rw [ea1]
  refine lv_aload_n hx hb dL_law_263 rfl (lv_at hl 0 rfl) ?_
  refine lv_iload_n hx hb dL_law_264 rfl (lv_at hl 3 rfl) ?_
  refine lv_iconst (v := 2) hx hb dL_law_265 (by decide) ?_
  refine lv_iadd hx hb dL_law_266 ?_
  refine va_sld hx hb hX hbl hbA hS (xl_at hx3 (k := 2) (by omega) hL 2 rfl) dL_law_267 ?_
  rw [ea2]
  refine xw_call (V := xu E bb) (U := xv E a) hx hb hml hown hts hK hS0 hPm hPx (fun i j hi hj h => hXM j i hj hi h.symm) hMA hS [.int a1, .int a2] [.int r] (c_X7_setWindow hDm n2 N a1 a2 r N' e2) k_L_40 (va_recv hK.1 hPm (ci := 7) (q0 := 0) rfl (xm_at (Nat.le_of_ble_eq_true rfl) rfl)) rfl rfl ⟨(Nat.le_of_ble_eq_true rfl), (Nat.le_of_ble_eq_true rfl)⟩ hl.1 (Nat.le_of_ble_eq_true rfl) ⟨(Nat.le_of_ble_eq_true rfl), (Nat.le_of_ble_eq_true rfl)⟩ dL_law_268 (fun H locs hPm hPx hS => ?_)
  change W p l e room_1 s m #[Value.ref b] below meth c H locs 600000 7302250 (lw_Z below #[Value.ref b] s) (F0 m 271 ls [.int r, .int r])
  refine lv_icmp_eq (tgt := 573) hx hb dL_law_271 (by decide) (fun _ => ?_) (fun c => absurd rfl c)
  exact kk M' N' hI' H locs hPx hPm hS
theorem k_L_41 : xm_FV RL 41 yX6_type cX6_type 2 (some .int) 1 := ⟨xm_tb_of (List.mem_of_getElem? (i := 442) (by decide +kernel)) rfl, xm_tb_of (List.mem_of_getElem? (i := 439) (by decide +kernel)) rfl, xm_tb_of (List.mem_of_getElem? (i := 440) (by decide +kernel)) rfl, xm_tb_of (List.mem_of_getElem? (i := 441) (by decide +kernel)) rfl, xm_tb_of (List.mem_of_getElem? (i := 1) (by decide +kernel)) rfl, ⟨by decide +kernel, by decide +kernel, by decide +kernel⟩⟩
theorem k_L_45 : xm_FV RL 45 yX7_type cX7_type 2 (some .int) 1 := ⟨xm_tb_of (List.mem_of_getElem? (i := 679) (by decide +kernel)) rfl, xm_tb_of (List.mem_of_getElem? (i := 676) (by decide +kernel)) rfl, xm_tb_of (List.mem_of_getElem? (i := 677) (by decide +kernel)) rfl, xm_tb_of (List.mem_of_getElem? (i := 678) (by decide +kernel)) rfl, xm_tb_of (List.mem_of_getElem? (i := 8) (by decide +kernel)) rfl, ⟨by decide +kernel, by decide +kernel, by decide +kernel⟩⟩
set_option maxHeartbeats 4000000 in
set_option maxRecDepth 100000 in
theorem xl_case6 {p : Program} {l : Launch} {e : Env} {s : State} {m : MethodId} {below : List Frame} {meth : Method} {c : Code} {E : xm_E} {a bb : Nat → Nat} {b L : Nat} {xs : Nat → Int32} (C0 : lw_At p s m meth c b L xs) (hL : L ≤ 2048) (hK : xm_K E s) (hS0 : xm_S E (fun q : Nat => s.heap.size ≤ q) s s.heap) (hDx : xm_D (xv E a)) (hDm : xm_D (xu E bb)) (hXM : ∀ i j, i < 120 → j < 13 → a i ≠ bb j) (hXA : ∀ i, i < 120 → s.heap.size ≤ a i) (hMA : ∀ i, i < 13 → s.heap.size ≤ bb i) {i : Nat} {x3 : Int32} (hx3 : x3 = nI i) (hi : i + 4 ≤ L) {M N : xm_M} (hI : xr_Inv M N) {H : Heap} {locs : List Loc} (hPx : va_P E.1 vwCl (xm_w (xv E a) M) H) (hPm : va_P E.1 vwCl (xm_w (xu E bb) N) H) (hS : va_S (fun q : Nat => s.heap.size ≤ q) s.heap H locs) {ls : Array Slot} (hl : lv_has ls 4 [(0, .ref b), (1, .ref (a 0)), (2, .ref (bb 0)), (3, .int x3)])
    (kk : ∀ (M' N' : xm_M), xr_Inv M' N' → ∀ (H : Heap) (locs : List Loc), va_P E.1 vwCl (xm_w (xv E a) M') H → va_P E.1 vwCl (xm_w (xu E bb) N') H → va_S (fun q : Nat => s.heap.size ≤ q) s.heap H locs → W p l e room_1 s m #[Value.ref b] below meth c H locs 600000 7302250 (lw_Z below #[Value.ref b] s) (F0 m 573 ls [])) : W p l e room_1 s m #[Value.ref b] below meth c H locs 600000 7302250 (lw_Z below #[Value.ref b] s) (F0 m 276 ls []) := by
  obtain ⟨hx, hb, hr, hml, hown, hts9, hX, hbl, hlocks, hgv⟩ := C0
  have hts := xl_tb hts9
  have hbA : ¬ (fun q : Nat => s.heap.size ≤ q) b := Nat.not_le.mpr hbl
  obtain ⟨a1, ea1⟩ : ∃ z, xs (x3 + 1).toNatClampNeg = z := ⟨_, rfl⟩
  obtain ⟨a2, ea2⟩ : ∃ z, xs (x3 + 2).toNatClampNeg = z := ⟨_, rfl⟩
  obtain ⟨a3, ea3⟩ : ∃ z, xs (x3 + 3).toNatClampNeg = z := ⟨_, rfl⟩
  obtain ⟨k1, hk1, ek1⟩ := xl_ch a1
  obtain ⟨n1, n2, r, M', N', e1, e2, hI'⟩ := xr_type hI hk1
  refine lv_aload_n hx hb dL_law_276 rfl (lv_at hl 1 rfl) ?_
  refine lv_aload_n hx hb dL_law_277 rfl (lv_at hl 0 rfl) ?_
  refine lv_iload_n hx hb dL_law_278 rfl (lv_at hl 3 rfl) ?_
  refine lv_iconst (v := 1) hx hb dL_law_279 (by decide) ?_
  refine lv_iadd hx hb dL_law_280 ?_
  refine va_sld hx hb hX hbl hbA hS (xl_at hx3 (k := 1) (by omega) hL 1 rfl) dL_law_281 ?_
  rw [ea1]
  refine lv_i2c (v := nI k1) hx hb dL_law_282 ek1 ?_
  refine xw_call (V := xv E a) (U := xu E bb) hx hb hml hown hts hK hS0 hPx hPm hXM hXA hS [.int (nI k1)] [] (c_X6_type hDx n1 M (nI k1) r M' e1) k_L_41 (va_recv hK.1 hPx (ci := 6) (q0 := 0) rfl (xm_at (Nat.le_of_ble_eq_true rfl) rfl)) rfl rfl ⟨(Nat.le_of_ble_eq_true rfl), (Nat.le_of_ble_eq_true rfl)⟩ hl.1 (Nat.le_of_ble_eq_true rfl) ⟨(Nat.le_of_ble_eq_true rfl), (Nat.le_of_ble_eq_true rfl)⟩ dL_law_283 (fun H locs hPx hPm hS => ?_)
  change W p l e room_1 s m #[Value.ref b] below meth c H locs 600000 7302250 (lw_Z below #[Value.ref b] s) (F0 m 286 ls [.int r])
  refine lv_aload_n hx hb dL_law_286 rfl (lv_at hl 2 rfl) ?_
  refine lv_aload_n hx hb dL_law_287 rfl (lv_at hl 0 rfl) ?_
  refine lv_iload_n hx hb dL_law_288 rfl (lv_at hl 3 rfl) ?_
  refine lv_iconst (v := 1) hx hb dL_law_289 (by decide) ?_
  refine lv_iadd hx hb dL_law_290 ?_
  refine va_sld hx hb hX hbl hbA hS (xl_at hx3 (k := 1) (by omega) hL 1 rfl) dL_law_291 ?_
  rw [ea1]
  refine lv_i2c (v := nI k1) hx hb dL_law_292 ek1 ?_
  refine xw_call (V := xu E bb) (U := xv E a) hx hb hml hown hts hK hS0 hPm hPx (fun i j hi hj h => hXM j i hj hi h.symm) hMA hS [.int (nI k1)] [.int r] (c_X7_type hDm n2 N (nI k1) r N' e2) k_L_45 (va_recv hK.1 hPm (ci := 7) (q0 := 0) rfl (xm_at (Nat.le_of_ble_eq_true rfl) rfl)) rfl rfl ⟨(Nat.le_of_ble_eq_true rfl), (Nat.le_of_ble_eq_true rfl)⟩ hl.1 (Nat.le_of_ble_eq_true rfl) ⟨(Nat.le_of_ble_eq_true rfl), (Nat.le_of_ble_eq_true rfl)⟩ dL_law_293 (fun H locs hPm hPx hS => ?_)
  change W p l e room_1 s m #[Value.ref b] below meth c H locs 600000 7302250 (lw_Z below #[Value.ref b] s) (F0 m 296 ls [.int r, .int r])
  refine lv_icmp_eq (tgt := 573) hx hb dL_law_296 (by decide) (fun _ => ?_) (fun c => absurd rfl c)
  exact kk M' N' hI' H locs hPx hPm hS
theorem k_L_46 : xm_FV RL 46 yX6_clearText cX6_clearText 2 (some .int) 0 := ⟨xm_tb_of (List.mem_of_getElem? (i := 450) (by decide +kernel)) rfl, xm_tb_of (List.mem_of_getElem? (i := 447) (by decide +kernel)) rfl, xm_tb_of (List.mem_of_getElem? (i := 448) (by decide +kernel)) rfl, xm_tb_of (List.mem_of_getElem? (i := 449) (by decide +kernel)) rfl, xm_tb_of (List.mem_of_getElem? (i := 1) (by decide +kernel)) rfl, ⟨by decide +kernel, by decide +kernel, by decide +kernel⟩⟩
theorem k_L_49 : xm_FV RL 49 yX7_clearText cX7_clearText 2 (some .int) 0 := ⟨xm_tb_of (List.mem_of_getElem? (i := 683) (by decide +kernel)) rfl, xm_tb_of (List.mem_of_getElem? (i := 680) (by decide +kernel)) rfl, xm_tb_of (List.mem_of_getElem? (i := 681) (by decide +kernel)) rfl, xm_tb_of (List.mem_of_getElem? (i := 682) (by decide +kernel)) rfl, xm_tb_of (List.mem_of_getElem? (i := 8) (by decide +kernel)) rfl, ⟨by decide +kernel, by decide +kernel, by decide +kernel⟩⟩
set_option maxHeartbeats 4000000 in
set_option maxRecDepth 100000 in
theorem xl_case7 {p : Program} {l : Launch} {e : Env} {s : State} {m : MethodId} {below : List Frame} {meth : Method} {c : Code} {E : xm_E} {a bb : Nat → Nat} {b L : Nat} {xs : Nat → Int32} (C0 : lw_At p s m meth c b L xs) (hL : L ≤ 2048) (hK : xm_K E s) (hS0 : xm_S E (fun q : Nat => s.heap.size ≤ q) s s.heap) (hDx : xm_D (xv E a)) (hDm : xm_D (xu E bb)) (hXM : ∀ i j, i < 120 → j < 13 → a i ≠ bb j) (hXA : ∀ i, i < 120 → s.heap.size ≤ a i) (hMA : ∀ i, i < 13 → s.heap.size ≤ bb i) {i : Nat} {x3 : Int32} (hx3 : x3 = nI i) (hi : i + 4 ≤ L) {M N : xm_M} (hI : xr_Inv M N) {H : Heap} {locs : List Loc} (hPx : va_P E.1 vwCl (xm_w (xv E a) M) H) (hPm : va_P E.1 vwCl (xm_w (xu E bb) N) H) (hS : va_S (fun q : Nat => s.heap.size ≤ q) s.heap H locs) {ls : Array Slot} (hl : lv_has ls 4 [(0, .ref b), (1, .ref (a 0)), (2, .ref (bb 0)), (3, .int x3)])
    (kk : ∀ (M' N' : xm_M), xr_Inv M' N' → ∀ (H : Heap) (locs : List Loc), va_P E.1 vwCl (xm_w (xv E a) M') H → va_P E.1 vwCl (xm_w (xu E bb) N') H → va_S (fun q : Nat => s.heap.size ≤ q) s.heap H locs → W p l e room_1 s m #[Value.ref b] below meth c H locs 600000 7302250 (lw_Z below #[Value.ref b] s) (F0 m 573 ls [])) : W p l e room_1 s m #[Value.ref b] below meth c H locs 600000 7302250 (lw_Z below #[Value.ref b] s) (F0 m 301 ls []) := by
  obtain ⟨hx, hb, hr, hml, hown, hts9, hX, hbl, hlocks, hgv⟩ := C0
  have hts := xl_tb hts9
  have hbA : ¬ (fun q : Nat => s.heap.size ≤ q) b := Nat.not_le.mpr hbl
  obtain ⟨a1, ea1⟩ : ∃ z, xs (x3 + 1).toNatClampNeg = z := ⟨_, rfl⟩
  obtain ⟨a2, ea2⟩ : ∃ z, xs (x3 + 2).toNatClampNeg = z := ⟨_, rfl⟩
  obtain ⟨a3, ea3⟩ : ∃ z, xs (x3 + 3).toNatClampNeg = z := ⟨_, rfl⟩
  obtain ⟨k1, hk1, ek1⟩ := xl_ch a1
  obtain ⟨n1, n2, r, M', N', e1, e2, hI'⟩ := xr_clearText hI 
  refine lv_aload_n hx hb dL_law_301 rfl (lv_at hl 1 rfl) ?_
  refine xw_call (V := xv E a) (U := xu E bb) hx hb hml hown hts hK hS0 hPx hPm hXM hXA hS [] [] (c_X6_clearText hDx n1 M  r M' e1) k_L_46 (va_recv hK.1 hPx (ci := 6) (q0 := 0) rfl (xm_at (Nat.le_of_ble_eq_true rfl) rfl)) rfl rfl ⟨(Nat.le_of_ble_eq_true rfl), (Nat.le_of_ble_eq_true rfl)⟩ hl.1 (Nat.le_of_ble_eq_true rfl) ⟨(Nat.le_of_ble_eq_true rfl), (Nat.le_of_ble_eq_true rfl)⟩ dL_law_302 (fun H locs hPx hPm hS => ?_)
  change W p l e room_1 s m #[Value.ref b] below meth c H locs 600000 7302250 (lw_Z below #[Value.ref b] s) (F0 m 305 ls [.int r])
  refine lv_aload_n hx hb dL_law_305 rfl (lv_at hl 2 rfl) ?_
  refine xw_call (V := xu E bb) (U := xv E a) hx hb hml hown hts hK hS0 hPm hPx (fun i j hi hj h => hXM j i hj hi h.symm) hMA hS [] [.int r] (c_X7_clearText hDm n2 N  r N' e2) k_L_49 (va_recv hK.1 hPm (ci := 7) (q0 := 0) rfl (xm_at (Nat.le_of_ble_eq_true rfl) rfl)) rfl rfl ⟨(Nat.le_of_ble_eq_true rfl), (Nat.le_of_ble_eq_true rfl)⟩ hl.1 (Nat.le_of_ble_eq_true rfl) ⟨(Nat.le_of_ble_eq_true rfl), (Nat.le_of_ble_eq_true rfl)⟩ dL_law_306 (fun H locs hPm hPx hS => ?_)
  change W p l e room_1 s m #[Value.ref b] below meth c H locs 600000 7302250 (lw_Z below #[Value.ref b] s) (F0 m 309 ls [.int r, .int r])
  refine lv_icmp_eq (tgt := 573) hx hb dL_law_309 (by decide) (fun _ => ?_) (fun c => absurd rfl c)
  exact kk M' N' hI' H locs hPx hPm hS
theorem k_L_50 : xm_FV RL 50 yX6_undo cX6_undo 1 (some .int) 0 := ⟨xm_tb_of (List.mem_of_getElem? (i := 454) (by decide +kernel)) rfl, xm_tb_of (List.mem_of_getElem? (i := 451) (by decide +kernel)) rfl, xm_tb_of (List.mem_of_getElem? (i := 452) (by decide +kernel)) rfl, xm_tb_of (List.mem_of_getElem? (i := 453) (by decide +kernel)) rfl, xm_tb_of (List.mem_of_getElem? (i := 1) (by decide +kernel)) rfl, ⟨by decide +kernel, by decide +kernel, by decide +kernel⟩⟩
theorem k_L_53 : xm_FV RL 53 yX7_undo cX7_undo 2 (some .int) 0 := ⟨xm_tb_of (List.mem_of_getElem? (i := 744) (by decide +kernel)) rfl, xm_tb_of (List.mem_of_getElem? (i := 741) (by decide +kernel)) rfl, xm_tb_of (List.mem_of_getElem? (i := 742) (by decide +kernel)) rfl, xm_tb_of (List.mem_of_getElem? (i := 743) (by decide +kernel)) rfl, xm_tb_of (List.mem_of_getElem? (i := 8) (by decide +kernel)) rfl, ⟨by decide +kernel, by decide +kernel, by decide +kernel⟩⟩
set_option maxHeartbeats 4000000 in
set_option maxRecDepth 100000 in
theorem xl_case8 {p : Program} {l : Launch} {e : Env} {s : State} {m : MethodId} {below : List Frame} {meth : Method} {c : Code} {E : xm_E} {a bb : Nat → Nat} {b L : Nat} {xs : Nat → Int32} (C0 : lw_At p s m meth c b L xs) (hL : L ≤ 2048) (hK : xm_K E s) (hS0 : xm_S E (fun q : Nat => s.heap.size ≤ q) s s.heap) (hDx : xm_D (xv E a)) (hDm : xm_D (xu E bb)) (hXM : ∀ i j, i < 120 → j < 13 → a i ≠ bb j) (hXA : ∀ i, i < 120 → s.heap.size ≤ a i) (hMA : ∀ i, i < 13 → s.heap.size ≤ bb i) {i : Nat} {x3 : Int32} (hx3 : x3 = nI i) (hi : i + 4 ≤ L) {M N : xm_M} (hI : xr_Inv M N) {H : Heap} {locs : List Loc} (hPx : va_P E.1 vwCl (xm_w (xv E a) M) H) (hPm : va_P E.1 vwCl (xm_w (xu E bb) N) H) (hS : va_S (fun q : Nat => s.heap.size ≤ q) s.heap H locs) {ls : Array Slot} (hl : lv_has ls 4 [(0, .ref b), (1, .ref (a 0)), (2, .ref (bb 0)), (3, .int x3)])
    (kk : ∀ (M' N' : xm_M), xr_Inv M' N' → ∀ (H : Heap) (locs : List Loc), va_P E.1 vwCl (xm_w (xv E a) M') H → va_P E.1 vwCl (xm_w (xu E bb) N') H → va_S (fun q : Nat => s.heap.size ≤ q) s.heap H locs → W p l e room_1 s m #[Value.ref b] below meth c H locs 600000 7302250 (lw_Z below #[Value.ref b] s) (F0 m 573 ls [])) : W p l e room_1 s m #[Value.ref b] below meth c H locs 600000 7302250 (lw_Z below #[Value.ref b] s) (F0 m 314 ls []) := by
  obtain ⟨hx, hb, hr, hml, hown, hts9, hX, hbl, hlocks, hgv⟩ := C0
  have hts := xl_tb hts9
  have hbA : ¬ (fun q : Nat => s.heap.size ≤ q) b := Nat.not_le.mpr hbl
  obtain ⟨a1, ea1⟩ : ∃ z, xs (x3 + 1).toNatClampNeg = z := ⟨_, rfl⟩
  obtain ⟨a2, ea2⟩ : ∃ z, xs (x3 + 2).toNatClampNeg = z := ⟨_, rfl⟩
  obtain ⟨a3, ea3⟩ : ∃ z, xs (x3 + 3).toNatClampNeg = z := ⟨_, rfl⟩
  obtain ⟨k1, hk1, ek1⟩ := xl_ch a1
  obtain ⟨n1, n2, r, M', N', e1, e2, hI'⟩ := xr_undo hI 
  refine lv_aload_n hx hb dL_law_314 rfl (lv_at hl 1 rfl) ?_
  refine xw_call (V := xv E a) (U := xu E bb) hx hb hml hown hts hK hS0 hPx hPm hXM hXA hS [] [] (c_X6_undo hDx n1 M  r M' e1) k_L_50 (va_recv hK.1 hPx (ci := 6) (q0 := 0) rfl (xm_at (Nat.le_of_ble_eq_true rfl) rfl)) rfl rfl ⟨(Nat.le_of_ble_eq_true rfl), (Nat.le_of_ble_eq_true rfl)⟩ hl.1 (Nat.le_of_ble_eq_true rfl) ⟨(Nat.le_of_ble_eq_true rfl), (Nat.le_of_ble_eq_true rfl)⟩ dL_law_315 (fun H locs hPx hPm hS => ?_)
  change W p l e room_1 s m #[Value.ref b] below meth c H locs 600000 7302250 (lw_Z below #[Value.ref b] s) (F0 m 318 ls [.int r])
  refine lv_aload_n hx hb dL_law_318 rfl (lv_at hl 2 rfl) ?_
  refine xw_call (V := xu E bb) (U := xv E a) hx hb hml hown hts hK hS0 hPm hPx (fun i j hi hj h => hXM j i hj hi h.symm) hMA hS [] [.int r] (c_X7_undo hDm n2 N  r N' e2) k_L_53 (va_recv hK.1 hPm (ci := 7) (q0 := 0) rfl (xm_at (Nat.le_of_ble_eq_true rfl) rfl)) rfl rfl ⟨(Nat.le_of_ble_eq_true rfl), (Nat.le_of_ble_eq_true rfl)⟩ hl.1 (Nat.le_of_ble_eq_true rfl) ⟨(Nat.le_of_ble_eq_true rfl), (Nat.le_of_ble_eq_true rfl)⟩ dL_law_319 (fun H locs hPm hPx hS => ?_)
  change W p l e room_1 s m #[Value.ref b] below meth c H locs 600000 7302250 (lw_Z below #[Value.ref b] s) (F0 m 322 ls [.int r, .int r])
  refine lv_icmp_eq (tgt := 573) hx hb dL_law_322 (by decide) (fun _ => ?_) (fun c => absurd rfl c)
  exact kk M' N' hI' H locs hPx hPm hS
theorem k_L_54 : xm_FV RL 54 yX6_keep cX6_keep 1 (some .int) 0 := ⟨xm_tb_of (List.mem_of_getElem? (i := 462) (by decide +kernel)) rfl, xm_tb_of (List.mem_of_getElem? (i := 459) (by decide +kernel)) rfl, xm_tb_of (List.mem_of_getElem? (i := 460) (by decide +kernel)) rfl, xm_tb_of (List.mem_of_getElem? (i := 461) (by decide +kernel)) rfl, xm_tb_of (List.mem_of_getElem? (i := 1) (by decide +kernel)) rfl, ⟨by decide +kernel, by decide +kernel, by decide +kernel⟩⟩
theorem k_L_57 : xm_FV RL 57 yX7_keep cX7_keep 2 (some .int) 0 := ⟨xm_tb_of (List.mem_of_getElem? (i := 748) (by decide +kernel)) rfl, xm_tb_of (List.mem_of_getElem? (i := 745) (by decide +kernel)) rfl, xm_tb_of (List.mem_of_getElem? (i := 746) (by decide +kernel)) rfl, xm_tb_of (List.mem_of_getElem? (i := 747) (by decide +kernel)) rfl, xm_tb_of (List.mem_of_getElem? (i := 8) (by decide +kernel)) rfl, ⟨by decide +kernel, by decide +kernel, by decide +kernel⟩⟩
set_option maxHeartbeats 4000000 in
set_option maxRecDepth 100000 in
theorem xl_case9 {p : Program} {l : Launch} {e : Env} {s : State} {m : MethodId} {below : List Frame} {meth : Method} {c : Code} {E : xm_E} {a bb : Nat → Nat} {b L : Nat} {xs : Nat → Int32} (C0 : lw_At p s m meth c b L xs) (hL : L ≤ 2048) (hK : xm_K E s) (hS0 : xm_S E (fun q : Nat => s.heap.size ≤ q) s s.heap) (hDx : xm_D (xv E a)) (hDm : xm_D (xu E bb)) (hXM : ∀ i j, i < 120 → j < 13 → a i ≠ bb j) (hXA : ∀ i, i < 120 → s.heap.size ≤ a i) (hMA : ∀ i, i < 13 → s.heap.size ≤ bb i) {i : Nat} {x3 : Int32} (hx3 : x3 = nI i) (hi : i + 4 ≤ L) {M N : xm_M} (hI : xr_Inv M N) {H : Heap} {locs : List Loc} (hPx : va_P E.1 vwCl (xm_w (xv E a) M) H) (hPm : va_P E.1 vwCl (xm_w (xu E bb) N) H) (hS : va_S (fun q : Nat => s.heap.size ≤ q) s.heap H locs) {ls : Array Slot} (hl : lv_has ls 4 [(0, .ref b), (1, .ref (a 0)), (2, .ref (bb 0)), (3, .int x3)])
    (kk : ∀ (M' N' : xm_M), xr_Inv M' N' → ∀ (H : Heap) (locs : List Loc), va_P E.1 vwCl (xm_w (xv E a) M') H → va_P E.1 vwCl (xm_w (xu E bb) N') H → va_S (fun q : Nat => s.heap.size ≤ q) s.heap H locs → W p l e room_1 s m #[Value.ref b] below meth c H locs 600000 7302250 (lw_Z below #[Value.ref b] s) (F0 m 573 ls [])) : W p l e room_1 s m #[Value.ref b] below meth c H locs 600000 7302250 (lw_Z below #[Value.ref b] s) (F0 m 327 ls []) := by
  obtain ⟨hx, hb, hr, hml, hown, hts9, hX, hbl, hlocks, hgv⟩ := C0
  have hts := xl_tb hts9
  have hbA : ¬ (fun q : Nat => s.heap.size ≤ q) b := Nat.not_le.mpr hbl
  obtain ⟨a1, ea1⟩ : ∃ z, xs (x3 + 1).toNatClampNeg = z := ⟨_, rfl⟩
  obtain ⟨a2, ea2⟩ : ∃ z, xs (x3 + 2).toNatClampNeg = z := ⟨_, rfl⟩
  obtain ⟨a3, ea3⟩ : ∃ z, xs (x3 + 3).toNatClampNeg = z := ⟨_, rfl⟩
  obtain ⟨k1, hk1, ek1⟩ := xl_ch a1
  obtain ⟨n1, n2, r, M', N', e1, e2, hI'⟩ := xr_keep hI 
  refine lv_aload_n hx hb dL_law_327 rfl (lv_at hl 1 rfl) ?_
  refine xw_call (V := xv E a) (U := xu E bb) hx hb hml hown hts hK hS0 hPx hPm hXM hXA hS [] [] (c_X6_keep hDx n1 M  r M' e1) k_L_54 (va_recv hK.1 hPx (ci := 6) (q0 := 0) rfl (xm_at (Nat.le_of_ble_eq_true rfl) rfl)) rfl rfl ⟨(Nat.le_of_ble_eq_true rfl), (Nat.le_of_ble_eq_true rfl)⟩ hl.1 (Nat.le_of_ble_eq_true rfl) ⟨(Nat.le_of_ble_eq_true rfl), (Nat.le_of_ble_eq_true rfl)⟩ dL_law_328 (fun H locs hPx hPm hS => ?_)
  change W p l e room_1 s m #[Value.ref b] below meth c H locs 600000 7302250 (lw_Z below #[Value.ref b] s) (F0 m 331 ls [.int r])
  refine lv_aload_n hx hb dL_law_331 rfl (lv_at hl 2 rfl) ?_
  refine xw_call (V := xu E bb) (U := xv E a) hx hb hml hown hts hK hS0 hPm hPx (fun i j hi hj h => hXM j i hj hi h.symm) hMA hS [] [.int r] (c_X7_keep hDm n2 N  r N' e2) k_L_57 (va_recv hK.1 hPm (ci := 7) (q0 := 0) rfl (xm_at (Nat.le_of_ble_eq_true rfl) rfl)) rfl rfl ⟨(Nat.le_of_ble_eq_true rfl), (Nat.le_of_ble_eq_true rfl)⟩ hl.1 (Nat.le_of_ble_eq_true rfl) ⟨(Nat.le_of_ble_eq_true rfl), (Nat.le_of_ble_eq_true rfl)⟩ dL_law_332 (fun H locs hPm hPx hS => ?_)
  change W p l e room_1 s m #[Value.ref b] below meth c H locs 600000 7302250 (lw_Z below #[Value.ref b] s) (F0 m 335 ls [.int r, .int r])
  refine lv_icmp_eq (tgt := 573) hx hb dL_law_335 (by decide) (fun _ => ?_) (fun c => absurd rfl c)
  exact kk M' N' hI' H locs hPx hPm hS
theorem k_L_58 : xm_FV RL 58 yX6_restore cX6_restore 1 (some .int) 0 := ⟨xm_tb_of (List.mem_of_getElem? (i := 467) (by decide +kernel)) rfl, xm_tb_of (List.mem_of_getElem? (i := 464) (by decide +kernel)) rfl, xm_tb_of (List.mem_of_getElem? (i := 465) (by decide +kernel)) rfl, xm_tb_of (List.mem_of_getElem? (i := 466) (by decide +kernel)) rfl, xm_tb_of (List.mem_of_getElem? (i := 1) (by decide +kernel)) rfl, ⟨by decide +kernel, by decide +kernel, by decide +kernel⟩⟩
theorem k_L_61 : xm_FV RL 61 yX7_restore cX7_restore 2 (some .int) 0 := ⟨xm_tb_of (List.mem_of_getElem? (i := 752) (by decide +kernel)) rfl, xm_tb_of (List.mem_of_getElem? (i := 749) (by decide +kernel)) rfl, xm_tb_of (List.mem_of_getElem? (i := 750) (by decide +kernel)) rfl, xm_tb_of (List.mem_of_getElem? (i := 751) (by decide +kernel)) rfl, xm_tb_of (List.mem_of_getElem? (i := 8) (by decide +kernel)) rfl, ⟨by decide +kernel, by decide +kernel, by decide +kernel⟩⟩
set_option maxHeartbeats 4000000 in
set_option maxRecDepth 100000 in
theorem xl_case10 {p : Program} {l : Launch} {e : Env} {s : State} {m : MethodId} {below : List Frame} {meth : Method} {c : Code} {E : xm_E} {a bb : Nat → Nat} {b L : Nat} {xs : Nat → Int32} (C0 : lw_At p s m meth c b L xs) (hL : L ≤ 2048) (hK : xm_K E s) (hS0 : xm_S E (fun q : Nat => s.heap.size ≤ q) s s.heap) (hDx : xm_D (xv E a)) (hDm : xm_D (xu E bb)) (hXM : ∀ i j, i < 120 → j < 13 → a i ≠ bb j) (hXA : ∀ i, i < 120 → s.heap.size ≤ a i) (hMA : ∀ i, i < 13 → s.heap.size ≤ bb i) {i : Nat} {x3 : Int32} (hx3 : x3 = nI i) (hi : i + 4 ≤ L) {M N : xm_M} (hI : xr_Inv M N) {H : Heap} {locs : List Loc} (hPx : va_P E.1 vwCl (xm_w (xv E a) M) H) (hPm : va_P E.1 vwCl (xm_w (xu E bb) N) H) (hS : va_S (fun q : Nat => s.heap.size ≤ q) s.heap H locs) {ls : Array Slot} (hl : lv_has ls 4 [(0, .ref b), (1, .ref (a 0)), (2, .ref (bb 0)), (3, .int x3)])
    (kk : ∀ (M' N' : xm_M), xr_Inv M' N' → ∀ (H : Heap) (locs : List Loc), va_P E.1 vwCl (xm_w (xv E a) M') H → va_P E.1 vwCl (xm_w (xu E bb) N') H → va_S (fun q : Nat => s.heap.size ≤ q) s.heap H locs → W p l e room_1 s m #[Value.ref b] below meth c H locs 600000 7302250 (lw_Z below #[Value.ref b] s) (F0 m 573 ls [])) : W p l e room_1 s m #[Value.ref b] below meth c H locs 600000 7302250 (lw_Z below #[Value.ref b] s) (F0 m 340 ls []) := by
  obtain ⟨hx, hb, hr, hml, hown, hts9, hX, hbl, hlocks, hgv⟩ := C0
  have hts := xl_tb hts9
  have hbA : ¬ (fun q : Nat => s.heap.size ≤ q) b := Nat.not_le.mpr hbl
  obtain ⟨a1, ea1⟩ : ∃ z, xs (x3 + 1).toNatClampNeg = z := ⟨_, rfl⟩
  obtain ⟨a2, ea2⟩ : ∃ z, xs (x3 + 2).toNatClampNeg = z := ⟨_, rfl⟩
  obtain ⟨a3, ea3⟩ : ∃ z, xs (x3 + 3).toNatClampNeg = z := ⟨_, rfl⟩
  obtain ⟨k1, hk1, ek1⟩ := xl_ch a1
  obtain ⟨n1, n2, r, M', N', e1, e2, hI'⟩ := xr_restore hI 
  refine lv_aload_n hx hb dL_law_340 rfl (lv_at hl 1 rfl) ?_
  refine xw_call (V := xv E a) (U := xu E bb) hx hb hml hown hts hK hS0 hPx hPm hXM hXA hS [] [] (c_X6_restore hDx n1 M  r M' e1) k_L_58 (va_recv hK.1 hPx (ci := 6) (q0 := 0) rfl (xm_at (Nat.le_of_ble_eq_true rfl) rfl)) rfl rfl ⟨(Nat.le_of_ble_eq_true rfl), (Nat.le_of_ble_eq_true rfl)⟩ hl.1 (Nat.le_of_ble_eq_true rfl) ⟨(Nat.le_of_ble_eq_true rfl), (Nat.le_of_ble_eq_true rfl)⟩ dL_law_341 (fun H locs hPx hPm hS => ?_)
  change W p l e room_1 s m #[Value.ref b] below meth c H locs 600000 7302250 (lw_Z below #[Value.ref b] s) (F0 m 344 ls [.int r])
  refine lv_aload_n hx hb dL_law_344 rfl (lv_at hl 2 rfl) ?_
  refine xw_call (V := xu E bb) (U := xv E a) hx hb hml hown hts hK hS0 hPm hPx (fun i j hi hj h => hXM j i hj hi h.symm) hMA hS [] [.int r] (c_X7_restore hDm n2 N  r N' e2) k_L_61 (va_recv hK.1 hPm (ci := 7) (q0 := 0) rfl (xm_at (Nat.le_of_ble_eq_true rfl) rfl)) rfl rfl ⟨(Nat.le_of_ble_eq_true rfl), (Nat.le_of_ble_eq_true rfl)⟩ hl.1 (Nat.le_of_ble_eq_true rfl) ⟨(Nat.le_of_ble_eq_true rfl), (Nat.le_of_ble_eq_true rfl)⟩ dL_law_345 (fun H locs hPm hPx hS => ?_)
  change W p l e room_1 s m #[Value.ref b] below meth c H locs 600000 7302250 (lw_Z below #[Value.ref b] s) (F0 m 348 ls [.int r, .int r])
  refine lv_icmp_eq (tgt := 573) hx hb dL_law_348 (by decide) (fun _ => ?_) (fun c => absurd rfl c)
  exact kk M' N' hI' H locs hPx hPm hS
theorem k_L_62 : xm_FV RL 62 yX6_eventOf cX6_eventOf 3 (some .int) 2 := ⟨xm_tb_of (List.mem_of_getElem? (i := 471) (by decide +kernel)) rfl, xm_tb_of (List.mem_of_getElem? (i := 468) (by decide +kernel)) rfl, xm_tb_of (List.mem_of_getElem? (i := 469) (by decide +kernel)) rfl, xm_tb_of (List.mem_of_getElem? (i := 470) (by decide +kernel)) rfl, xm_tb_of (List.mem_of_getElem? (i := 1) (by decide +kernel)) rfl, ⟨by decide +kernel, by decide +kernel, by decide +kernel⟩⟩
theorem k_L_65 : xm_FV RL 65 yX7_eventOf cX7_eventOf 4 (some .int) 2 := ⟨xm_tb_of (List.mem_of_getElem? (i := 756) (by decide +kernel)) rfl, xm_tb_of (List.mem_of_getElem? (i := 753) (by decide +kernel)) rfl, xm_tb_of (List.mem_of_getElem? (i := 754) (by decide +kernel)) rfl, xm_tb_of (List.mem_of_getElem? (i := 755) (by decide +kernel)) rfl, xm_tb_of (List.mem_of_getElem? (i := 8) (by decide +kernel)) rfl, ⟨by decide +kernel, by decide +kernel, by decide +kernel⟩⟩
set_option maxHeartbeats 4000000 in
set_option maxRecDepth 100000 in
theorem xl_case11 {p : Program} {l : Launch} {e : Env} {s : State} {m : MethodId} {below : List Frame} {meth : Method} {c : Code} {E : xm_E} {a bb : Nat → Nat} {b L : Nat} {xs : Nat → Int32} (C0 : lw_At p s m meth c b L xs) (hL : L ≤ 2048) (hK : xm_K E s) (hS0 : xm_S E (fun q : Nat => s.heap.size ≤ q) s s.heap) (hDx : xm_D (xv E a)) (hDm : xm_D (xu E bb)) (hXM : ∀ i j, i < 120 → j < 13 → a i ≠ bb j) (hXA : ∀ i, i < 120 → s.heap.size ≤ a i) (hMA : ∀ i, i < 13 → s.heap.size ≤ bb i) {i : Nat} {x3 : Int32} (hx3 : x3 = nI i) (hi : i + 4 ≤ L) {M N : xm_M} (hI : xr_Inv M N) {H : Heap} {locs : List Loc} (hPx : va_P E.1 vwCl (xm_w (xv E a) M) H) (hPm : va_P E.1 vwCl (xm_w (xu E bb) N) H) (hS : va_S (fun q : Nat => s.heap.size ≤ q) s.heap H locs) {ls : Array Slot} (hl : lv_has ls 4 [(0, .ref b), (1, .ref (a 0)), (2, .ref (bb 0)), (3, .int x3)])
    (kk : ∀ (M' N' : xm_M), xr_Inv M' N' → ∀ (H : Heap) (locs : List Loc), va_P E.1 vwCl (xm_w (xv E a) M') H → va_P E.1 vwCl (xm_w (xu E bb) N') H → va_S (fun q : Nat => s.heap.size ≤ q) s.heap H locs → W p l e room_1 s m #[Value.ref b] below meth c H locs 600000 7302250 (lw_Z below #[Value.ref b] s) (F0 m 573 ls [])) : W p l e room_1 s m #[Value.ref b] below meth c H locs 600000 7302250 (lw_Z below #[Value.ref b] s) (F0 m 353 ls []) := by
  obtain ⟨hx, hb, hr, hml, hown, hts9, hX, hbl, hlocks, hgv⟩ := C0
  have hts := xl_tb hts9
  have hbA : ¬ (fun q : Nat => s.heap.size ≤ q) b := Nat.not_le.mpr hbl
  obtain ⟨a1, ea1⟩ : ∃ z, xs (x3 + 1).toNatClampNeg = z := ⟨_, rfl⟩
  obtain ⟨a2, ea2⟩ : ∃ z, xs (x3 + 2).toNatClampNeg = z := ⟨_, rfl⟩
  obtain ⟨a3, ea3⟩ : ∃ z, xs (x3 + 3).toNatClampNeg = z := ⟨_, rfl⟩
  obtain ⟨k1, hk1, ek1⟩ := xl_ch a1
  obtain ⟨n1, n2, r, M', N', e1, e2, hI'⟩ := xr_eventOf hI a1 a2
  refine lv_aload_n hx hb dL_law_353 rfl (lv_at hl 1 rfl) ?_
  refine lv_aload_n hx hb dL_law_354 rfl (lv_at hl 0 rfl) ?_
  refine lv_iload_n hx hb dL_law_355 rfl (lv_at hl 3 rfl) ?_
  refine lv_iconst (v := 1) hx hb dL_law_356 (by decide) ?_
  refine lv_iadd hx hb dL_law_357 ?_
  refine va_sld hx hb hX hbl hbA hS (xl_at hx3 (k := 1) (by omega) hL 1 rfl) dL_law_358 ?_
  rw [ea1]
  refine lv_aload_n hx hb dL_law_359 rfl (lv_at hl 0 rfl) ?_
  refine lv_iload_n hx hb dL_law_360 rfl (lv_at hl 3 rfl) ?_
  refine lv_iconst (v := 2) hx hb dL_law_361 (by decide) ?_
  refine lv_iadd hx hb dL_law_362 ?_
  refine va_sld hx hb hX hbl hbA hS (xl_at hx3 (k := 2) (by omega) hL 2 rfl) dL_law_363 ?_
  rw [ea2]
  refine xw_call (V := xv E a) (U := xu E bb) hx hb hml hown hts hK hS0 hPx hPm hXM hXA hS [.int a1, .int a2] [] (c_X6_eventOf hDx n1 M a1 a2 r M' e1) k_L_62 (va_recv hK.1 hPx (ci := 6) (q0 := 0) rfl (xm_at (Nat.le_of_ble_eq_true rfl) rfl)) rfl rfl ⟨(Nat.le_of_ble_eq_true rfl), (Nat.le_of_ble_eq_true rfl)⟩ hl.1 (Nat.le_of_ble_eq_true rfl) ⟨(Nat.le_of_ble_eq_true rfl), (Nat.le_of_ble_eq_true rfl)⟩ dL_law_364 (fun H locs hPx hPm hS => ?_)
  change W p l e room_1 s m #[Value.ref b] below meth c H locs 600000 7302250 (lw_Z below #[Value.ref b] s) (F0 m 367 ls [.int r])
  refine lv_aload_n hx hb dL_law_367 rfl (lv_at hl 2 rfl) ?_
  refine lv_aload_n hx hb dL_law_368 rfl (lv_at hl 0 rfl) ?_
  refine lv_iload_n hx hb dL_law_369 rfl (lv_at hl 3 rfl) ?_
  refine lv_iconst (v := 1) hx hb dL_law_370 (by decide) ?_
  refine lv_iadd hx hb dL_law_371 ?_
  refine va_sld hx hb hX hbl hbA hS (xl_at hx3 (k := 1) (by omega) hL 1 rfl) dL_law_372 ?_
  rw [ea1]
  refine lv_aload_n hx hb dL_law_373 rfl (lv_at hl 0 rfl) ?_
  refine lv_iload_n hx hb dL_law_374 rfl (lv_at hl 3 rfl) ?_
  refine lv_iconst (v := 2) hx hb dL_law_375 (by decide) ?_
  refine lv_iadd hx hb dL_law_376 ?_
  refine va_sld hx hb hX hbl hbA hS (xl_at hx3 (k := 2) (by omega) hL 2 rfl) dL_law_377 ?_
  rw [ea2]
  refine xw_call (V := xu E bb) (U := xv E a) hx hb hml hown hts hK hS0 hPm hPx (fun i j hi hj h => hXM j i hj hi h.symm) hMA hS [.int a1, .int a2] [.int r] (c_X7_eventOf hDm n2 N a1 a2 r N' e2) k_L_65 (va_recv hK.1 hPm (ci := 7) (q0 := 0) rfl (xm_at (Nat.le_of_ble_eq_true rfl) rfl)) rfl rfl ⟨(Nat.le_of_ble_eq_true rfl), (Nat.le_of_ble_eq_true rfl)⟩ hl.1 (Nat.le_of_ble_eq_true rfl) ⟨(Nat.le_of_ble_eq_true rfl), (Nat.le_of_ble_eq_true rfl)⟩ dL_law_378 (fun H locs hPm hPx hS => ?_)
  change W p l e room_1 s m #[Value.ref b] below meth c H locs 600000 7302250 (lw_Z below #[Value.ref b] s) (F0 m 381 ls [.int r, .int r])
  refine lv_icmp_eq (tgt := 573) hx hb dL_law_381 (by decide) (fun _ => ?_) (fun c => absurd rfl c)
  exact kk M' N' hI' H locs hPx hPm hS
theorem k_L_66 : xm_FV RL 66 yX6_pattern cX6_pattern 4 (some .int) 2 := ⟨xm_tb_of (List.mem_of_getElem? (i := 535) (by decide +kernel)) rfl, xm_tb_of (List.mem_of_getElem? (i := 532) (by decide +kernel)) rfl, xm_tb_of (List.mem_of_getElem? (i := 533) (by decide +kernel)) rfl, xm_tb_of (List.mem_of_getElem? (i := 534) (by decide +kernel)) rfl, xm_tb_of (List.mem_of_getElem? (i := 1) (by decide +kernel)) rfl, ⟨by decide +kernel, by decide +kernel, by decide +kernel⟩⟩
theorem k_L_69 : xm_FV RL 69 yX7_pattern cX7_pattern 3 (some .int) 2 := ⟨xm_tb_of (List.mem_of_getElem? (i := 812) (by decide +kernel)) rfl, xm_tb_of (List.mem_of_getElem? (i := 809) (by decide +kernel)) rfl, xm_tb_of (List.mem_of_getElem? (i := 810) (by decide +kernel)) rfl, xm_tb_of (List.mem_of_getElem? (i := 811) (by decide +kernel)) rfl, xm_tb_of (List.mem_of_getElem? (i := 8) (by decide +kernel)) rfl, ⟨by decide +kernel, by decide +kernel, by decide +kernel⟩⟩
set_option maxHeartbeats 4000000 in
set_option maxRecDepth 100000 in
theorem xl_case12 {p : Program} {l : Launch} {e : Env} {s : State} {m : MethodId} {below : List Frame} {meth : Method} {c : Code} {E : xm_E} {a bb : Nat → Nat} {b L : Nat} {xs : Nat → Int32} (C0 : lw_At p s m meth c b L xs) (hL : L ≤ 2048) (hK : xm_K E s) (hS0 : xm_S E (fun q : Nat => s.heap.size ≤ q) s s.heap) (hDx : xm_D (xv E a)) (hDm : xm_D (xu E bb)) (hXM : ∀ i j, i < 120 → j < 13 → a i ≠ bb j) (hXA : ∀ i, i < 120 → s.heap.size ≤ a i) (hMA : ∀ i, i < 13 → s.heap.size ≤ bb i) {i : Nat} {x3 : Int32} (hx3 : x3 = nI i) (hi : i + 4 ≤ L) {M N : xm_M} (hI : xr_Inv M N) {H : Heap} {locs : List Loc} (hPx : va_P E.1 vwCl (xm_w (xv E a) M) H) (hPm : va_P E.1 vwCl (xm_w (xu E bb) N) H) (hS : va_S (fun q : Nat => s.heap.size ≤ q) s.heap H locs) {ls : Array Slot} (hl : lv_has ls 4 [(0, .ref b), (1, .ref (a 0)), (2, .ref (bb 0)), (3, .int x3)])
    (kk : ∀ (M' N' : xm_M), xr_Inv M' N' → ∀ (H : Heap) (locs : List Loc), va_P E.1 vwCl (xm_w (xv E a) M') H → va_P E.1 vwCl (xm_w (xu E bb) N') H → va_S (fun q : Nat => s.heap.size ≤ q) s.heap H locs → W p l e room_1 s m #[Value.ref b] below meth c H locs 600000 7302250 (lw_Z below #[Value.ref b] s) (F0 m 573 ls [])) : W p l e room_1 s m #[Value.ref b] below meth c H locs 600000 7302250 (lw_Z below #[Value.ref b] s) (F0 m 386 ls []) := by
  obtain ⟨hx, hb, hr, hml, hown, hts9, hX, hbl, hlocks, hgv⟩ := C0
  have hts := xl_tb hts9
  have hbA : ¬ (fun q : Nat => s.heap.size ≤ q) b := Nat.not_le.mpr hbl
  obtain ⟨a1, ea1⟩ : ∃ z, xs (x3 + 1).toNatClampNeg = z := ⟨_, rfl⟩
  obtain ⟨a2, ea2⟩ : ∃ z, xs (x3 + 2).toNatClampNeg = z := ⟨_, rfl⟩
  obtain ⟨a3, ea3⟩ : ∃ z, xs (x3 + 3).toNatClampNeg = z := ⟨_, rfl⟩
  obtain ⟨k1, hk1, ek1⟩ := xl_ch a1
  obtain ⟨n1, n2, r, M', N', e1, e2, hI'⟩ := xr_pattern hI a1 a2
  refine lv_aload_n hx hb dL_law_386 rfl (lv_at hl 1 rfl) ?_
  refine lv_aload_n hx hb dL_law_387 rfl (lv_at hl 0 rfl) ?_
  refine lv_iload_n hx hb dL_law_388 rfl (lv_at hl 3 rfl) ?_
  refine lv_iconst (v := 1) hx hb dL_law_389 (by decide) ?_
  refine lv_iadd hx hb dL_law_390 ?_
  refine va_sld hx hb hX hbl hbA hS (xl_at hx3 (k := 1) (by omega) hL 1 rfl) dL_law_391 ?_
  rw [ea1]
  refine lv_aload_n hx hb dL_law_392 rfl (lv_at hl 0 rfl) ?_
  refine lv_iload_n hx hb dL_law_393 rfl (lv_at hl 3 rfl) ?_
  refine lv_iconst (v := 2) hx hb dL_law_394 (by decide) ?_
  refine lv_iadd hx hb dL_law_395 ?_
  refine va_sld hx hb hX hbl hbA hS (xl_at hx3 (k := 2) (by omega) hL 2 rfl) dL_law_396 ?_
  rw [ea2]
  refine xw_call (V := xv E a) (U := xu E bb) hx hb hml hown hts hK hS0 hPx hPm hXM hXA hS [.int a1, .int a2] [] (c_X6_pattern hDx n1 M a1 a2 r M' e1) k_L_66 (va_recv hK.1 hPx (ci := 6) (q0 := 0) rfl (xm_at (Nat.le_of_ble_eq_true rfl) rfl)) rfl rfl ⟨(Nat.le_of_ble_eq_true rfl), (Nat.le_of_ble_eq_true rfl)⟩ hl.1 (Nat.le_of_ble_eq_true rfl) ⟨(Nat.le_of_ble_eq_true rfl), (Nat.le_of_ble_eq_true rfl)⟩ dL_law_397 (fun H locs hPx hPm hS => ?_)
  change W p l e room_1 s m #[Value.ref b] below meth c H locs 600000 7302250 (lw_Z below #[Value.ref b] s) (F0 m 400 ls [.int r])
  refine lv_aload_n hx hb dL_law_400 rfl (lv_at hl 2 rfl) ?_
  refine lv_aload_n hx hb dL_law_401 rfl (lv_at hl 0 rfl) ?_
  refine lv_iload_n hx hb dL_law_402 rfl (lv_at hl 3 rfl) ?_
  refine lv_iconst (v := 1) hx hb dL_law_403 (by decide) ?_
  refine lv_iadd hx hb dL_law_404 ?_
  refine va_sld hx hb hX hbl hbA hS (xl_at hx3 (k := 1) (by omega) hL 1 rfl) dL_law_405 ?_
  rw [ea1]
  refine lv_aload_n hx hb dL_law_406 rfl (lv_at hl 0 rfl) ?_
  refine lv_iload_n hx hb dL_law_407 rfl (lv_at hl 3 rfl) ?_
  refine lv_iconst (v := 2) hx hb dL_law_408 (by decide) ?_
  refine lv_iadd hx hb dL_law_409 ?_
  refine va_sld hx hb hX hbl hbA hS (xl_at hx3 (k := 2) (by omega) hL 2 rfl) dL_law_410 ?_
  rw [ea2]
  refine xw_call (V := xu E bb) (U := xv E a) hx hb hml hown hts hK hS0 hPm hPx (fun i j hi hj h => hXM j i hj hi h.symm) hMA hS [.int a1, .int a2] [.int r] (c_X7_pattern hDm n2 N a1 a2 r N' e2) k_L_69 (va_recv hK.1 hPm (ci := 7) (q0 := 0) rfl (xm_at (Nat.le_of_ble_eq_true rfl) rfl)) rfl rfl ⟨(Nat.le_of_ble_eq_true rfl), (Nat.le_of_ble_eq_true rfl)⟩ hl.1 (Nat.le_of_ble_eq_true rfl) ⟨(Nat.le_of_ble_eq_true rfl), (Nat.le_of_ble_eq_true rfl)⟩ dL_law_411 (fun H locs hPm hPx hS => ?_)
  change W p l e room_1 s m #[Value.ref b] below meth c H locs 600000 7302250 (lw_Z below #[Value.ref b] s) (F0 m 414 ls [.int r, .int r])
  refine lv_icmp_eq (tgt := 573) hx hb dL_law_414 (by decide) (fun _ => ?_) (fun c => absurd rfl c)
  exact kk M' N' hI' H locs hPx hPm hS
theorem k_L_70 : xm_FV RL 70 yX6_step cX6_step 5 (some .int) 3 := ⟨xm_tb_of (List.mem_of_getElem? (i := 544) (by decide +kernel)) rfl, xm_tb_of (List.mem_of_getElem? (i := 541) (by decide +kernel)) rfl, xm_tb_of (List.mem_of_getElem? (i := 542) (by decide +kernel)) rfl, xm_tb_of (List.mem_of_getElem? (i := 543) (by decide +kernel)) rfl, xm_tb_of (List.mem_of_getElem? (i := 1) (by decide +kernel)) rfl, ⟨by decide +kernel, by decide +kernel, by decide +kernel⟩⟩
theorem k_L_74 : xm_FV RL 74 yX7_step cX7_step 5 (some .int) 3 := ⟨xm_tb_of (List.mem_of_getElem? (i := 817) (by decide +kernel)) rfl, xm_tb_of (List.mem_of_getElem? (i := 814) (by decide +kernel)) rfl, xm_tb_of (List.mem_of_getElem? (i := 815) (by decide +kernel)) rfl, xm_tb_of (List.mem_of_getElem? (i := 816) (by decide +kernel)) rfl, xm_tb_of (List.mem_of_getElem? (i := 8) (by decide +kernel)) rfl, ⟨by decide +kernel, by decide +kernel, by decide +kernel⟩⟩
set_option maxHeartbeats 4000000 in
set_option maxRecDepth 100000 in
theorem xl_case13 {p : Program} {l : Launch} {e : Env} {s : State} {m : MethodId} {below : List Frame} {meth : Method} {c : Code} {E : xm_E} {a bb : Nat → Nat} {b L : Nat} {xs : Nat → Int32} (C0 : lw_At p s m meth c b L xs) (hL : L ≤ 2048) (hK : xm_K E s) (hS0 : xm_S E (fun q : Nat => s.heap.size ≤ q) s s.heap) (hDx : xm_D (xv E a)) (hDm : xm_D (xu E bb)) (hXM : ∀ i j, i < 120 → j < 13 → a i ≠ bb j) (hXA : ∀ i, i < 120 → s.heap.size ≤ a i) (hMA : ∀ i, i < 13 → s.heap.size ≤ bb i) {i : Nat} {x3 : Int32} (hx3 : x3 = nI i) (hi : i + 4 ≤ L) {M N : xm_M} (hI : xr_Inv M N) {H : Heap} {locs : List Loc} (hPx : va_P E.1 vwCl (xm_w (xv E a) M) H) (hPm : va_P E.1 vwCl (xm_w (xu E bb) N) H) (hS : va_S (fun q : Nat => s.heap.size ≤ q) s.heap H locs) {ls : Array Slot} (hl : lv_has ls 4 [(0, .ref b), (1, .ref (a 0)), (2, .ref (bb 0)), (3, .int x3)])
    (kk : ∀ (M' N' : xm_M), xr_Inv M' N' → ∀ (H : Heap) (locs : List Loc), va_P E.1 vwCl (xm_w (xv E a) M') H → va_P E.1 vwCl (xm_w (xu E bb) N') H → va_S (fun q : Nat => s.heap.size ≤ q) s.heap H locs → W p l e room_1 s m #[Value.ref b] below meth c H locs 600000 7302250 (lw_Z below #[Value.ref b] s) (F0 m 573 ls [])) : W p l e room_1 s m #[Value.ref b] below meth c H locs 600000 7302250 (lw_Z below #[Value.ref b] s) (F0 m 419 ls []) := by
  obtain ⟨hx, hb, hr, hml, hown, hts9, hX, hbl, hlocks, hgv⟩ := C0
  have hts := xl_tb hts9
  have hbA : ¬ (fun q : Nat => s.heap.size ≤ q) b := Nat.not_le.mpr hbl
  obtain ⟨a1, ea1⟩ : ∃ z, xs (x3 + 1).toNatClampNeg = z := ⟨_, rfl⟩
  obtain ⟨a2, ea2⟩ : ∃ z, xs (x3 + 2).toNatClampNeg = z := ⟨_, rfl⟩
  obtain ⟨a3, ea3⟩ : ∃ z, xs (x3 + 3).toNatClampNeg = z := ⟨_, rfl⟩
  obtain ⟨k1, hk1, ek1⟩ := xl_ch a1
  obtain ⟨n1, n2, r, M', N', e1, e2, hI'⟩ := xr_step hI a1 a2 a3
  refine lv_aload_n hx hb dL_law_419 rfl (lv_at hl 1 rfl) ?_
  refine lv_aload_n hx hb dL_law_420 rfl (lv_at hl 0 rfl) ?_
  refine lv_iload_n hx hb dL_law_421 rfl (lv_at hl 3 rfl) ?_
  refine lv_iconst (v := 1) hx hb dL_law_422 (by decide) ?_
  refine lv_iadd hx hb dL_law_423 ?_
  refine va_sld hx hb hX hbl hbA hS (xl_at hx3 (k := 1) (by omega) hL 1 rfl) dL_law_424 ?_
  rw [ea1]
  refine lv_aload_n hx hb dL_law_425 rfl (lv_at hl 0 rfl) ?_
  refine lv_iload_n hx hb dL_law_426 rfl (lv_at hl 3 rfl) ?_
  refine lv_iconst (v := 2) hx hb dL_law_427 (by decide) ?_
  refine lv_iadd hx hb dL_law_428 ?_
  refine va_sld hx hb hX hbl hbA hS (xl_at hx3 (k := 2) (by omega) hL 2 rfl) dL_law_429 ?_
  rw [ea2]
  refine lv_aload_n hx hb dL_law_430 rfl (lv_at hl 0 rfl) ?_
  refine lv_iload_n hx hb dL_law_431 rfl (lv_at hl 3 rfl) ?_
  refine lv_iconst (v := 3) hx hb dL_law_432 (by decide) ?_
  refine lv_iadd hx hb dL_law_433 ?_
  refine va_sld hx hb hX hbl hbA hS (xl_at hx3 (k := 3) (by omega) hL 3 rfl) dL_law_434 ?_
  rw [ea3]
  refine xw_call (V := xv E a) (U := xu E bb) hx hb hml hown hts hK hS0 hPx hPm hXM hXA hS [.int a1, .int a2, .int a3] [] (c_X6_step hDx n1 M a1 a2 a3 r M' e1) k_L_70 (va_recv hK.1 hPx (ci := 6) (q0 := 0) rfl (xm_at (Nat.le_of_ble_eq_true rfl) rfl)) rfl rfl ⟨(Nat.le_of_ble_eq_true rfl), (Nat.le_of_ble_eq_true rfl)⟩ hl.1 (Nat.le_of_ble_eq_true rfl) ⟨(Nat.le_of_ble_eq_true rfl), (Nat.le_of_ble_eq_true rfl)⟩ dL_law_435 (fun H locs hPx hPm hS => ?_)
  change W p l e room_1 s m #[Value.ref b] below meth c H locs 600000 7302250 (lw_Z below #[Value.ref b] s) (F0 m 438 ls [.int r])
  refine lv_aload_n hx hb dL_law_438 rfl (lv_at hl 2 rfl) ?_
  refine lv_aload_n hx hb dL_law_439 rfl (lv_at hl 0 rfl) ?_
  refine lv_iload_n hx hb dL_law_440 rfl (lv_at hl 3 rfl) ?_
  refine lv_iconst (v := 1) hx hb dL_law_441 (by decide) ?_
  refine lv_iadd hx hb dL_law_442 ?_
  refine va_sld hx hb hX hbl hbA hS (xl_at hx3 (k := 1) (by omega) hL 1 rfl) dL_law_443 ?_
  rw [ea1]
  refine lv_aload_n hx hb dL_law_444 rfl (lv_at hl 0 rfl) ?_
  refine lv_iload_n hx hb dL_law_445 rfl (lv_at hl 3 rfl) ?_
  refine lv_iconst (v := 2) hx hb dL_law_446 (by decide) ?_
  refine lv_iadd hx hb dL_law_447 ?_
  refine va_sld hx hb hX hbl hbA hS (xl_at hx3 (k := 2) (by omega) hL 2 rfl) dL_law_448 ?_
  rw [ea2]
  refine lv_aload_n hx hb dL_law_449 rfl (lv_at hl 0 rfl) ?_
  refine lv_iload_n hx hb dL_law_450 rfl (lv_at hl 3 rfl) ?_
  refine lv_iconst (v := 3) hx hb dL_law_451 (by decide) ?_
  refine lv_iadd hx hb dL_law_452 ?_
  refine va_sld hx hb hX hbl hbA hS (xl_at hx3 (k := 3) (by omega) hL 3 rfl) dL_law_453 ?_
  rw [ea3]
  refine xw_call (V := xu E bb) (U := xv E a) hx hb hml hown hts hK hS0 hPm hPx (fun i j hi hj h => hXM j i hj hi h.symm) hMA hS [.int a1, .int a2, .int a3] [.int r] (c_X7_step hDm n2 N a1 a2 a3 r N' e2) k_L_74 (va_recv hK.1 hPm (ci := 7) (q0 := 0) rfl (xm_at (Nat.le_of_ble_eq_true rfl) rfl)) rfl rfl ⟨(Nat.le_of_ble_eq_true rfl), (Nat.le_of_ble_eq_true rfl)⟩ hl.1 (Nat.le_of_ble_eq_true rfl) ⟨(Nat.le_of_ble_eq_true rfl), (Nat.le_of_ble_eq_true rfl)⟩ dL_law_454 (fun H locs hPm hPx hS => ?_)
  change W p l e room_1 s m #[Value.ref b] below meth c H locs 600000 7302250 (lw_Z below #[Value.ref b] s) (F0 m 457 ls [.int r, .int r])
  refine lv_icmp_eq (tgt := 573) hx hb dL_law_457 (by decide) (fun _ => ?_) (fun c => absurd rfl c)
  exact kk M' N' hI' H locs hPx hPm hS
theorem k_L_75 : xm_FV RL 75 yX6_match cX6_match 5 (some .int) 3 := ⟨xm_tb_of (List.mem_of_getElem? (i := 548) (by decide +kernel)) rfl, xm_tb_of (List.mem_of_getElem? (i := 545) (by decide +kernel)) rfl, xm_tb_of (List.mem_of_getElem? (i := 546) (by decide +kernel)) rfl, xm_tb_of (List.mem_of_getElem? (i := 547) (by decide +kernel)) rfl, xm_tb_of (List.mem_of_getElem? (i := 1) (by decide +kernel)) rfl, ⟨by decide +kernel, by decide +kernel, by decide +kernel⟩⟩
theorem k_L_78 : xm_FV RL 78 yX7_match cX7_match 4 (some .int) 3 := ⟨xm_tb_of (List.mem_of_getElem? (i := 821) (by decide +kernel)) rfl, xm_tb_of (List.mem_of_getElem? (i := 818) (by decide +kernel)) rfl, xm_tb_of (List.mem_of_getElem? (i := 819) (by decide +kernel)) rfl, xm_tb_of (List.mem_of_getElem? (i := 820) (by decide +kernel)) rfl, xm_tb_of (List.mem_of_getElem? (i := 8) (by decide +kernel)) rfl, ⟨by decide +kernel, by decide +kernel, by decide +kernel⟩⟩
set_option maxHeartbeats 4000000 in
set_option maxRecDepth 100000 in
theorem xl_case14 {p : Program} {l : Launch} {e : Env} {s : State} {m : MethodId} {below : List Frame} {meth : Method} {c : Code} {E : xm_E} {a bb : Nat → Nat} {b L : Nat} {xs : Nat → Int32} (C0 : lw_At p s m meth c b L xs) (hL : L ≤ 2048) (hK : xm_K E s) (hS0 : xm_S E (fun q : Nat => s.heap.size ≤ q) s s.heap) (hDx : xm_D (xv E a)) (hDm : xm_D (xu E bb)) (hXM : ∀ i j, i < 120 → j < 13 → a i ≠ bb j) (hXA : ∀ i, i < 120 → s.heap.size ≤ a i) (hMA : ∀ i, i < 13 → s.heap.size ≤ bb i) {i : Nat} {x3 : Int32} (hx3 : x3 = nI i) (hi : i + 4 ≤ L) {M N : xm_M} (hI : xr_Inv M N) {H : Heap} {locs : List Loc} (hPx : va_P E.1 vwCl (xm_w (xv E a) M) H) (hPm : va_P E.1 vwCl (xm_w (xu E bb) N) H) (hS : va_S (fun q : Nat => s.heap.size ≤ q) s.heap H locs) {ls : Array Slot} (hl : lv_has ls 4 [(0, .ref b), (1, .ref (a 0)), (2, .ref (bb 0)), (3, .int x3)])
    (kk : ∀ (M' N' : xm_M), xr_Inv M' N' → ∀ (H : Heap) (locs : List Loc), va_P E.1 vwCl (xm_w (xv E a) M') H → va_P E.1 vwCl (xm_w (xu E bb) N') H → va_S (fun q : Nat => s.heap.size ≤ q) s.heap H locs → W p l e room_1 s m #[Value.ref b] below meth c H locs 600000 7302250 (lw_Z below #[Value.ref b] s) (F0 m 573 ls [])) : W p l e room_1 s m #[Value.ref b] below meth c H locs 600000 7302250 (lw_Z below #[Value.ref b] s) (F0 m 462 ls []) := by
  obtain ⟨hx, hb, hr, hml, hown, hts9, hX, hbl, hlocks, hgv⟩ := C0
  have hts := xl_tb hts9
  have hbA : ¬ (fun q : Nat => s.heap.size ≤ q) b := Nat.not_le.mpr hbl
  obtain ⟨a1, ea1⟩ : ∃ z, xs (x3 + 1).toNatClampNeg = z := ⟨_, rfl⟩
  obtain ⟨a2, ea2⟩ : ∃ z, xs (x3 + 2).toNatClampNeg = z := ⟨_, rfl⟩
  obtain ⟨a3, ea3⟩ : ∃ z, xs (x3 + 3).toNatClampNeg = z := ⟨_, rfl⟩
  obtain ⟨k1, hk1, ek1⟩ := xl_ch a1
  obtain ⟨n1, n2, r, M', N', e1, e2, hI'⟩ := xr_match hI a1 a2 a3
  refine lv_aload_n hx hb dL_law_462 rfl (lv_at hl 1 rfl) ?_
  refine lv_aload_n hx hb dL_law_463 rfl (lv_at hl 0 rfl) ?_
  refine lv_iload_n hx hb dL_law_464 rfl (lv_at hl 3 rfl) ?_
  refine lv_iconst (v := 1) hx hb dL_law_465 (by decide) ?_
  refine lv_iadd hx hb dL_law_466 ?_
  refine va_sld hx hb hX hbl hbA hS (xl_at hx3 (k := 1) (by omega) hL 1 rfl) dL_law_467 ?_
  rw [ea1]
  refine lv_aload_n hx hb dL_law_468 rfl (lv_at hl 0 rfl) ?_
  refine lv_iload_n hx hb dL_law_469 rfl (lv_at hl 3 rfl) ?_
  refine lv_iconst (v := 2) hx hb dL_law_470 (by decide) ?_
  refine lv_iadd hx hb dL_law_471 ?_
  refine va_sld hx hb hX hbl hbA hS (xl_at hx3 (k := 2) (by omega) hL 2 rfl) dL_law_472 ?_
  rw [ea2]
  refine lv_aload_n hx hb dL_law_473 rfl (lv_at hl 0 rfl) ?_
  refine lv_iload_n hx hb dL_law_474 rfl (lv_at hl 3 rfl) ?_
  refine lv_iconst (v := 3) hx hb dL_law_475 (by decide) ?_
  refine lv_iadd hx hb dL_law_476 ?_
  refine va_sld hx hb hX hbl hbA hS (xl_at hx3 (k := 3) (by omega) hL 3 rfl) dL_law_477 ?_
  rw [ea3]
  refine xw_call (V := xv E a) (U := xu E bb) hx hb hml hown hts hK hS0 hPx hPm hXM hXA hS [.int a1, .int a2, .int a3] [] (c_X6_match hDx n1 M a1 a2 a3 r M' e1) k_L_75 (va_recv hK.1 hPx (ci := 6) (q0 := 0) rfl (xm_at (Nat.le_of_ble_eq_true rfl) rfl)) rfl rfl ⟨(Nat.le_of_ble_eq_true rfl), (Nat.le_of_ble_eq_true rfl)⟩ hl.1 (Nat.le_of_ble_eq_true rfl) ⟨(Nat.le_of_ble_eq_true rfl), (Nat.le_of_ble_eq_true rfl)⟩ dL_law_478 (fun H locs hPx hPm hS => ?_)
  change W p l e room_1 s m #[Value.ref b] below meth c H locs 600000 7302250 (lw_Z below #[Value.ref b] s) (F0 m 481 ls [.int r])
  refine lv_aload_n hx hb dL_law_481 rfl (lv_at hl 2 rfl) ?_
  refine lv_aload_n hx hb dL_law_482 rfl (lv_at hl 0 rfl) ?_
  refine lv_iload_n hx hb dL_law_483 rfl (lv_at hl 3 rfl) ?_
  refine lv_iconst (v := 1) hx hb dL_law_484 (by decide) ?_
  refine lv_iadd hx hb dL_law_485 ?_
  refine va_sld hx hb hX hbl hbA hS (xl_at hx3 (k := 1) (by omega) hL 1 rfl) dL_law_486 ?_
  rw [ea1]
  refine lv_aload_n hx hb dL_law_487 rfl (lv_at hl 0 rfl) ?_
  refine lv_iload_n hx hb dL_law_488 rfl (lv_at hl 3 rfl) ?_
  refine lv_iconst (v := 2) hx hb dL_law_489 (by decide) ?_
  refine lv_iadd hx hb dL_law_490 ?_
  refine va_sld hx hb hX hbl hbA hS (xl_at hx3 (k := 2) (by omega) hL 2 rfl) dL_law_491 ?_
  rw [ea2]
  refine lv_aload_n hx hb dL_law_492 rfl (lv_at hl 0 rfl) ?_
  refine lv_iload_n hx hb dL_law_493 rfl (lv_at hl 3 rfl) ?_
  refine lv_iconst (v := 3) hx hb dL_law_494 (by decide) ?_
  refine lv_iadd hx hb dL_law_495 ?_
  refine va_sld hx hb hX hbl hbA hS (xl_at hx3 (k := 3) (by omega) hL 3 rfl) dL_law_496 ?_
  rw [ea3]
  refine xw_call (V := xu E bb) (U := xv E a) hx hb hml hown hts hK hS0 hPm hPx (fun i j hi hj h => hXM j i hj hi h.symm) hMA hS [.int a1, .int a2, .int a3] [.int r] (c_X7_match hDm n2 N a1 a2 a3 r N' e2) k_L_78 (va_recv hK.1 hPm (ci := 7) (q0 := 0) rfl (xm_at (Nat.le_of_ble_eq_true rfl) rfl)) rfl rfl ⟨(Nat.le_of_ble_eq_true rfl), (Nat.le_of_ble_eq_true rfl)⟩ hl.1 (Nat.le_of_ble_eq_true rfl) ⟨(Nat.le_of_ble_eq_true rfl), (Nat.le_of_ble_eq_true rfl)⟩ dL_law_497 (fun H locs hPm hPx hS => ?_)
  change W p l e room_1 s m #[Value.ref b] below meth c H locs 600000 7302250 (lw_Z below #[Value.ref b] s) (F0 m 500 ls [.int r, .int r])
  refine lv_icmp_eq (tgt := 573) hx hb dL_law_500 (by decide) (fun _ => ?_) (fun c => absurd rfl c)
  exact kk M' N' hI' H locs hPx hPm hS
theorem k_L_79 : xm_FV RL 79 yX6_ifEvent cX6_ifEvent 5 (some .int) 3 := ⟨xm_tb_of (List.mem_of_getElem? (i := 556) (by decide +kernel)) rfl, xm_tb_of (List.mem_of_getElem? (i := 553) (by decide +kernel)) rfl, xm_tb_of (List.mem_of_getElem? (i := 554) (by decide +kernel)) rfl, xm_tb_of (List.mem_of_getElem? (i := 555) (by decide +kernel)) rfl, xm_tb_of (List.mem_of_getElem? (i := 1) (by decide +kernel)) rfl, ⟨by decide +kernel, by decide +kernel, by decide +kernel⟩⟩
theorem k_L_82 : xm_FV RL 82 yX7_ifEvent cX7_ifEvent 6 (some .int) 3 := ⟨xm_tb_of (List.mem_of_getElem? (i := 825) (by decide +kernel)) rfl, xm_tb_of (List.mem_of_getElem? (i := 822) (by decide +kernel)) rfl, xm_tb_of (List.mem_of_getElem? (i := 823) (by decide +kernel)) rfl, xm_tb_of (List.mem_of_getElem? (i := 824) (by decide +kernel)) rfl, xm_tb_of (List.mem_of_getElem? (i := 8) (by decide +kernel)) rfl, ⟨by decide +kernel, by decide +kernel, by decide +kernel⟩⟩
set_option maxHeartbeats 4000000 in
set_option maxRecDepth 100000 in
theorem xl_case15 {p : Program} {l : Launch} {e : Env} {s : State} {m : MethodId} {below : List Frame} {meth : Method} {c : Code} {E : xm_E} {a bb : Nat → Nat} {b L : Nat} {xs : Nat → Int32} (C0 : lw_At p s m meth c b L xs) (hL : L ≤ 2048) (hK : xm_K E s) (hS0 : xm_S E (fun q : Nat => s.heap.size ≤ q) s s.heap) (hDx : xm_D (xv E a)) (hDm : xm_D (xu E bb)) (hXM : ∀ i j, i < 120 → j < 13 → a i ≠ bb j) (hXA : ∀ i, i < 120 → s.heap.size ≤ a i) (hMA : ∀ i, i < 13 → s.heap.size ≤ bb i) {i : Nat} {x3 : Int32} (hx3 : x3 = nI i) (hi : i + 4 ≤ L) {M N : xm_M} (hI : xr_Inv M N) {H : Heap} {locs : List Loc} (hPx : va_P E.1 vwCl (xm_w (xv E a) M) H) (hPm : va_P E.1 vwCl (xm_w (xu E bb) N) H) (hS : va_S (fun q : Nat => s.heap.size ≤ q) s.heap H locs) {ls : Array Slot} (hl : lv_has ls 4 [(0, .ref b), (1, .ref (a 0)), (2, .ref (bb 0)), (3, .int x3)])
    (kk : ∀ (M' N' : xm_M), xr_Inv M' N' → ∀ (H : Heap) (locs : List Loc), va_P E.1 vwCl (xm_w (xv E a) M') H → va_P E.1 vwCl (xm_w (xu E bb) N') H → va_S (fun q : Nat => s.heap.size ≤ q) s.heap H locs → W p l e room_1 s m #[Value.ref b] below meth c H locs 600000 7302250 (lw_Z below #[Value.ref b] s) (F0 m 573 ls [])) : W p l e room_1 s m #[Value.ref b] below meth c H locs 600000 7302250 (lw_Z below #[Value.ref b] s) (F0 m 505 ls []) := by
  obtain ⟨hx, hb, hr, hml, hown, hts9, hX, hbl, hlocks, hgv⟩ := C0
  have hts := xl_tb hts9
  have hbA : ¬ (fun q : Nat => s.heap.size ≤ q) b := Nat.not_le.mpr hbl
  obtain ⟨a1, ea1⟩ : ∃ z, xs (x3 + 1).toNatClampNeg = z := ⟨_, rfl⟩
  obtain ⟨a2, ea2⟩ : ∃ z, xs (x3 + 2).toNatClampNeg = z := ⟨_, rfl⟩
  obtain ⟨a3, ea3⟩ : ∃ z, xs (x3 + 3).toNatClampNeg = z := ⟨_, rfl⟩
  obtain ⟨k1, hk1, ek1⟩ := xl_ch a1
  obtain ⟨n1, n2, r, M', N', e1, e2, hI'⟩ := xr_ifEvent hI hk1 a2 a3
  refine lv_aload_n hx hb dL_law_505 rfl (lv_at hl 1 rfl) ?_
  refine lv_aload_n hx hb dL_law_506 rfl (lv_at hl 0 rfl) ?_
  refine lv_iload_n hx hb dL_law_507 rfl (lv_at hl 3 rfl) ?_
  refine lv_iconst (v := 1) hx hb dL_law_508 (by decide) ?_
  refine lv_iadd hx hb dL_law_509 ?_
  refine va_sld hx hb hX hbl hbA hS (xl_at hx3 (k := 1) (by omega) hL 1 rfl) dL_law_510 ?_
  rw [ea1]
  refine lv_i2c (v := nI k1) hx hb dL_law_511 ek1 ?_
  refine lv_aload_n hx hb dL_law_512 rfl (lv_at hl 0 rfl) ?_
  refine lv_iload_n hx hb dL_law_513 rfl (lv_at hl 3 rfl) ?_
  refine lv_iconst (v := 2) hx hb dL_law_514 (by decide) ?_
  refine lv_iadd hx hb dL_law_515 ?_
  refine va_sld hx hb hX hbl hbA hS (xl_at hx3 (k := 2) (by omega) hL 2 rfl) dL_law_516 ?_
  rw [ea2]
  refine lv_aload_n hx hb dL_law_517 rfl (lv_at hl 0 rfl) ?_
  refine lv_iload_n hx hb dL_law_518 rfl (lv_at hl 3 rfl) ?_
  refine lv_iconst (v := 3) hx hb dL_law_519 (by decide) ?_
  refine lv_iadd hx hb dL_law_520 ?_
  refine va_sld hx hb hX hbl hbA hS (xl_at hx3 (k := 3) (by omega) hL 3 rfl) dL_law_521 ?_
  rw [ea3]
  refine xw_call (V := xv E a) (U := xu E bb) hx hb hml hown hts hK hS0 hPx hPm hXM hXA hS [.int (nI k1), .int a2, .int a3] [] (c_X6_ifEvent hDx n1 M (nI k1) a2 a3 r M' e1) k_L_79 (va_recv hK.1 hPx (ci := 6) (q0 := 0) rfl (xm_at (Nat.le_of_ble_eq_true rfl) rfl)) rfl rfl ⟨(Nat.le_of_ble_eq_true rfl), (Nat.le_of_ble_eq_true rfl)⟩ hl.1 (Nat.le_of_ble_eq_true rfl) ⟨(Nat.le_of_ble_eq_true rfl), (Nat.le_of_ble_eq_true rfl)⟩ dL_law_522 (fun H locs hPx hPm hS => ?_)
  change W p l e room_1 s m #[Value.ref b] below meth c H locs 600000 7302250 (lw_Z below #[Value.ref b] s) (F0 m 525 ls [.int r])
  refine lv_aload_n hx hb dL_law_525 rfl (lv_at hl 2 rfl) ?_
  refine lv_aload_n hx hb dL_law_526 rfl (lv_at hl 0 rfl) ?_
  refine lv_iload_n hx hb dL_law_527 rfl (lv_at hl 3 rfl) ?_
  refine lv_iconst (v := 1) hx hb dL_law_528 (by decide) ?_
  refine lv_iadd hx hb dL_law_529 ?_
  refine va_sld hx hb hX hbl hbA hS (xl_at hx3 (k := 1) (by omega) hL 1 rfl) dL_law_530 ?_
  rw [ea1]
  refine lv_i2c (v := nI k1) hx hb dL_law_531 ek1 ?_
  refine lv_aload_n hx hb dL_law_532 rfl (lv_at hl 0 rfl) ?_
  refine lv_iload_n hx hb dL_law_533 rfl (lv_at hl 3 rfl) ?_
  refine lv_iconst (v := 2) hx hb dL_law_534 (by decide) ?_
  refine lv_iadd hx hb dL_law_535 ?_
  refine va_sld hx hb hX hbl hbA hS (xl_at hx3 (k := 2) (by omega) hL 2 rfl) dL_law_536 ?_
  rw [ea2]
  refine lv_aload_n hx hb dL_law_537 rfl (lv_at hl 0 rfl) ?_
  refine lv_iload_n hx hb dL_law_538 rfl (lv_at hl 3 rfl) ?_
  refine lv_iconst (v := 3) hx hb dL_law_539 (by decide) ?_
  refine lv_iadd hx hb dL_law_540 ?_
  refine va_sld hx hb hX hbl hbA hS (xl_at hx3 (k := 3) (by omega) hL 3 rfl) dL_law_541 ?_
  rw [ea3]
  refine xw_call (V := xu E bb) (U := xv E a) hx hb hml hown hts hK hS0 hPm hPx (fun i j hi hj h => hXM j i hj hi h.symm) hMA hS [.int (nI k1), .int a2, .int a3] [.int r] (c_X7_ifEvent hDm n2 N (nI k1) a2 a3 r N' e2) k_L_82 (va_recv hK.1 hPm (ci := 7) (q0 := 0) rfl (xm_at (Nat.le_of_ble_eq_true rfl) rfl)) rfl rfl ⟨(Nat.le_of_ble_eq_true rfl), (Nat.le_of_ble_eq_true rfl)⟩ hl.1 (Nat.le_of_ble_eq_true rfl) ⟨(Nat.le_of_ble_eq_true rfl), (Nat.le_of_ble_eq_true rfl)⟩ dL_law_542 (fun H locs hPm hPx hS => ?_)
  change W p l e room_1 s m #[Value.ref b] below meth c H locs 600000 7302250 (lw_Z below #[Value.ref b] s) (F0 m 545 ls [.int r, .int r])
  refine lv_icmp_eq (tgt := 573) hx hb dL_law_545 (by decide) (fun _ => ?_) (fun c => absurd rfl c)
  exact kk M' N' hI' H locs hPx hPm hS
theorem k_L_83 : xm_FV RL 83 yX6_count cX6_count 2 (some .int) 1 := ⟨xm_tb_of (List.mem_of_getElem? (i := 561) (by decide +kernel)) rfl, xm_tb_of (List.mem_of_getElem? (i := 558) (by decide +kernel)) rfl, xm_tb_of (List.mem_of_getElem? (i := 559) (by decide +kernel)) rfl, xm_tb_of (List.mem_of_getElem? (i := 560) (by decide +kernel)) rfl, xm_tb_of (List.mem_of_getElem? (i := 1) (by decide +kernel)) rfl, ⟨by decide +kernel, by decide +kernel, by decide +kernel⟩⟩
theorem k_L_86 : xm_FV RL 86 yX7_count cX7_count 2 (some .int) 1 := ⟨xm_tb_of (List.mem_of_getElem? (i := 829) (by decide +kernel)) rfl, xm_tb_of (List.mem_of_getElem? (i := 826) (by decide +kernel)) rfl, xm_tb_of (List.mem_of_getElem? (i := 827) (by decide +kernel)) rfl, xm_tb_of (List.mem_of_getElem? (i := 828) (by decide +kernel)) rfl, xm_tb_of (List.mem_of_getElem? (i := 8) (by decide +kernel)) rfl, ⟨by decide +kernel, by decide +kernel, by decide +kernel⟩⟩
set_option maxHeartbeats 4000000 in
set_option maxRecDepth 100000 in
theorem xl_case16 {p : Program} {l : Launch} {e : Env} {s : State} {m : MethodId} {below : List Frame} {meth : Method} {c : Code} {E : xm_E} {a bb : Nat → Nat} {b L : Nat} {xs : Nat → Int32} (C0 : lw_At p s m meth c b L xs) (hL : L ≤ 2048) (hK : xm_K E s) (hS0 : xm_S E (fun q : Nat => s.heap.size ≤ q) s s.heap) (hDx : xm_D (xv E a)) (hDm : xm_D (xu E bb)) (hXM : ∀ i j, i < 120 → j < 13 → a i ≠ bb j) (hXA : ∀ i, i < 120 → s.heap.size ≤ a i) (hMA : ∀ i, i < 13 → s.heap.size ≤ bb i) {i : Nat} {x3 : Int32} (hx3 : x3 = nI i) (hi : i + 4 ≤ L) {M N : xm_M} (hI : xr_Inv M N) {H : Heap} {locs : List Loc} (hPx : va_P E.1 vwCl (xm_w (xv E a) M) H) (hPm : va_P E.1 vwCl (xm_w (xu E bb) N) H) (hS : va_S (fun q : Nat => s.heap.size ≤ q) s.heap H locs) {ls : Array Slot} (hl : lv_has ls 4 [(0, .ref b), (1, .ref (a 0)), (2, .ref (bb 0)), (3, .int x3)])
    (kk : ∀ (M' N' : xm_M), xr_Inv M' N' → ∀ (H : Heap) (locs : List Loc), va_P E.1 vwCl (xm_w (xv E a) M') H → va_P E.1 vwCl (xm_w (xu E bb) N') H → va_S (fun q : Nat => s.heap.size ≤ q) s.heap H locs → W p l e room_1 s m #[Value.ref b] below meth c H locs 600000 7302250 (lw_Z below #[Value.ref b] s) (F0 m 573 ls [])) : W p l e room_1 s m #[Value.ref b] below meth c H locs 600000 7302250 (lw_Z below #[Value.ref b] s) (F0 m 550 ls []) := by
  obtain ⟨hx, hb, hr, hml, hown, hts9, hX, hbl, hlocks, hgv⟩ := C0
  have hts := xl_tb hts9
  have hbA : ¬ (fun q : Nat => s.heap.size ≤ q) b := Nat.not_le.mpr hbl
  obtain ⟨a1, ea1⟩ : ∃ z, xs (x3 + 1).toNatClampNeg = z := ⟨_, rfl⟩
  obtain ⟨a2, ea2⟩ : ∃ z, xs (x3 + 2).toNatClampNeg = z := ⟨_, rfl⟩
  obtain ⟨a3, ea3⟩ : ∃ z, xs (x3 + 3).toNatClampNeg = z := ⟨_, rfl⟩
  obtain ⟨k1, hk1, ek1⟩ := xl_ch a1
  obtain ⟨n1, n2, r, M', N', e1, e2, hI'⟩ := xr_count hI a1
  refine lv_aload_n hx hb dL_law_550 rfl (lv_at hl 1 rfl) ?_
  refine lv_aload_n hx hb dL_law_551 rfl (lv_at hl 0 rfl) ?_
  refine lv_iload_n hx hb dL_law_552 rfl (lv_at hl 3 rfl) ?_
  refine lv_iconst (v := 1) hx hb dL_law_553 (by decide) ?_
  refine lv_iadd hx hb dL_law_554 ?_
  refine va_sld hx hb hX hbl hbA hS (xl_at hx3 (k := 1) (by omega) hL 1 rfl) dL_law_555 ?_
  rw [ea1]
  refine xw_call (V := xv E a) (U := xu E bb) hx hb hml hown hts hK hS0 hPx hPm hXM hXA hS [.int a1] [] (c_X6_count hDx n1 M a1 r M' e1) k_L_83 (va_recv hK.1 hPx (ci := 6) (q0 := 0) rfl (xm_at (Nat.le_of_ble_eq_true rfl) rfl)) rfl rfl ⟨(Nat.le_of_ble_eq_true rfl), (Nat.le_of_ble_eq_true rfl)⟩ hl.1 (Nat.le_of_ble_eq_true rfl) ⟨(Nat.le_of_ble_eq_true rfl), (Nat.le_of_ble_eq_true rfl)⟩ dL_law_556 (fun H locs hPx hPm hS => ?_)
  change W p l e room_1 s m #[Value.ref b] below meth c H locs 600000 7302250 (lw_Z below #[Value.ref b] s) (F0 m 559 ls [.int r])
  refine lv_aload_n hx hb dL_law_559 rfl (lv_at hl 2 rfl) ?_
  refine lv_aload_n hx hb dL_law_560 rfl (lv_at hl 0 rfl) ?_
  refine lv_iload_n hx hb dL_law_561 rfl (lv_at hl 3 rfl) ?_
  refine lv_iconst (v := 1) hx hb dL_law_562 (by decide) ?_
  refine lv_iadd hx hb dL_law_563 ?_
  refine va_sld hx hb hX hbl hbA hS (xl_at hx3 (k := 1) (by omega) hL 1 rfl) dL_law_564 ?_
  rw [ea1]
  refine xw_call (V := xu E bb) (U := xv E a) hx hb hml hown hts hK hS0 hPm hPx (fun i j hi hj h => hXM j i hj hi h.symm) hMA hS [.int a1] [.int r] (c_X7_count hDm n2 N a1 r N' e2) k_L_86 (va_recv hK.1 hPm (ci := 7) (q0 := 0) rfl (xm_at (Nat.le_of_ble_eq_true rfl) rfl)) rfl rfl ⟨(Nat.le_of_ble_eq_true rfl), (Nat.le_of_ble_eq_true rfl)⟩ hl.1 (Nat.le_of_ble_eq_true rfl) ⟨(Nat.le_of_ble_eq_true rfl), (Nat.le_of_ble_eq_true rfl)⟩ dL_law_565 (fun H locs hPm hPx hS => ?_)
  change W p l e room_1 s m #[Value.ref b] below meth c H locs 600000 7302250 (lw_Z below #[Value.ref b] s) (F0 m 568 ls [.int r, .int r])
  refine lv_icmp_eq (tgt := 573) hx hb dL_law_568 (by decide) (fun _ => ?_) (fun c => absurd rfl c)
  exact kk M' N' hI' H locs hPx hPm hS
set_option maxHeartbeats 4000000 in
set_option maxRecDepth 100000 in
theorem xl_loop {p : Program} {l : Launch} {e : Env} {s : State} {m : MethodId} {below : List Frame} {meth : Method} {c : Code} {E : xm_E} {a bb : Nat → Nat} {b L : Nat} {xs : Nat → Int32} (C0 : lw_At p s m meth c b L xs) (hL : L ≤ 2048) (hK : xm_K E s) (hS0 : xm_S E (fun q : Nat => s.heap.size ≤ q) s s.heap) (hDx : xm_D (xv E a)) (hDm : xm_D (xu E bb)) (hXM : ∀ i j, i < 120 → j < 13 → a i ≠ bb j) (hXA : ∀ i, i < 120 → s.heap.size ≤ a i) (hMA : ∀ i, i < 13 → s.heap.size ≤ bb i) :
    ∀ (n i : Nat) (x3 : Int32), x3 = nI i → i ≤ L + 4 → L + 4 ≤ i + n → ∀ (M N : xm_M), xr_Inv M N → ∀ (H : Heap) (locs : List Loc), va_P E.1 vwCl (xm_w (xv E a) M) H → va_P E.1 vwCl (xm_w (xu E bb) N) H → va_S (fun q : Nat => s.heap.size ≤ q) s.heap H locs → ∀ (ls : Array Slot), lv_has ls 4 [(0, .ref b), (1, .ref (a 0)), (2, .ref (bb 0)), (3, .int x3)] → W p l e room_1 s m #[Value.ref b] below meth c H locs 600000 7302250 (lw_Z below #[Value.ref b] s) (F0 m 18 ls []) := by
  have C9 := C0
  obtain ⟨hx, hb, hr, hml, hown, hts9, hX, hbl, hlocks, hgv⟩ := C0
  have hts := xl_tb hts9
  have hbA : ¬ (fun q : Nat => s.heap.size ≤ q) b := Nat.not_le.mpr hbl
  intro n
  induction n with
  | zero =>
    intro i x3 hx3 hi hn M N hI H locs hPx hPm hS ls hl
    refine lv_iload_n hx hb dL_law_18 rfl (lv_at hl 3 rfl) ?_
    refine lv_aload_n hx hb dL_law_19 rfl (lv_at hl 0 rfl) ?_
    refine va_slen hx hb hX hbl hbA hS dL_law_20 ?_
    refine lv_iconst (v := 4) hx hb dL_law_21 (by decide) ?_
    refine lv_isub hx hb dL_law_22 ?_
    refine lv_icmp_gt (tgt := 579) hx hb dL_law_23 (by decide) (fun _ => ?_) (fun c9 => ?_)
    · refine lv_iconst (v := 1) hx hb dL_law_579 (by decide) ?_
      refine va_forget (fun q hq => hS.2.2 q hq) ?_
      exact lw_ret hx hb hr hlocks dL_law_580
    · rw [hx3] at c9
      have := xl_rng (by omega) hL c9
      omega
  | succ n ih =>
    intro i x3 hx3 hi hn M N hI H locs hPx hPm hS ls hl
    refine lv_iload_n hx hb dL_law_18 rfl (lv_at hl 3 rfl) ?_
    refine lv_aload_n hx hb dL_law_19 rfl (lv_at hl 0 rfl) ?_
    refine va_slen hx hb hX hbl hbA hS dL_law_20 ?_
    refine lv_iconst (v := 4) hx hb dL_law_21 (by decide) ?_
    refine lv_isub hx hb dL_law_22 ?_
    refine lv_icmp_gt (tgt := 579) hx hb dL_law_23 (by decide) (fun _ => ?_) (fun c9 => ?_)
    · refine lv_iconst (v := 1) hx hb dL_law_579 (by decide) ?_
      refine va_forget (fun q hq => hS.2.2 q hq) ?_
      exact lw_ret hx hb hr hlocks dL_law_580
    · rw [hx3] at c9
      have hi4 := xl_rng (by omega) hL c9
      have back : ∀ (M' N' : xm_M), xr_Inv M' N' → ∀ (H : Heap) (locs : List Loc), va_P E.1 vwCl (xm_w (xv E a) M') H → va_P E.1 vwCl (xm_w (xu E bb) N') H → va_S (fun q : Nat => s.heap.size ≤ q) s.heap H locs → W p l e room_1 s m #[Value.ref b] below meth c H locs 600000 7302250 (lw_Z below #[Value.ref b] s) (F0 m 573 ls []) := by
        intro M' N' hI' H locs hPx hPm hS
        obtain ⟨y3, hy3⟩ : ∃ y : Int32, y = x3 + 4 := ⟨_, rfl⟩
        refine lv_iinc (v := y3) (lv' := [(3, .int y3), (0, .ref b), (1, .ref (a 0)), (2, .ref (bb 0))]) hx hb dL_law_573 hl (k := 3) rfl (by rw [hy3]; rfl) (by decide) rfl (fun ls hl => ?_)
        refine lv_goto (tgt := 18) hx hb dL_law_576 (by decide) ?_
        exact ih (i + 4) y3 (by rw [hy3, hx3]; exact nI_add i 4) (by omega) (by omega) M' N' hI' H locs hPx hPm hS ls (lv_sub hl [1, 2, 3, 0] rfl)
      refine lv_aload_n hx hb dL_law_26 rfl (lv_at hl 0 rfl) ?_
      refine lv_iload_n hx hb dL_law_27 rfl (lv_at hl 3 rfl) ?_
      refine va_sld hx hb hX hbl hbA hS (by rw [hx3]; exact vp_in_nI (by omega) (by omega)) dL_law_28 ?_
      refine lv_bipush (v := 31) hx hb dL_law_29 (by decide) ?_
      refine lv_iand hx hb dL_law_31 ?_
      refine lv_topi (fun z _ => ?_)
      by_cases c0 : z = 0
      · subst c0
        refine lv_tableIn (tgt := 116) hx hb dL_law_32 (by decide) (by decide) rfl (by decide) ?_
        exact xl_case0 C9 hL hK hS0 hDx hDm hXM hXA hMA hx3 hi4 hI hPx hPm hS hl back
      by_cases c1 : z = 1
      · subst c1
        refine lv_tableIn (tgt := 161) hx hb dL_law_32 (by decide) (by decide) rfl (by decide) ?_
        exact xl_case1 C9 hL hK hS0 hDx hDm hXM hXA hMA hx3 hi4 hI hPx hPm hS hl back
      by_cases c2 : z = 2
      · subst c2
        refine lv_tableIn (tgt := 184) hx hb dL_law_32 (by decide) (by decide) rfl (by decide) ?_
        exact xl_case2 C9 hL hK hS0 hDx hDm hXM hXA hMA hx3 hi4 hI hPx hPm hS hl back
      by_cases c3 : z = 3
      · subst c3
        refine lv_tableIn (tgt := 207) hx hb dL_law_32 (by decide) (by decide) rfl (by decide) ?_
        exact xl_case3 C9 hL hK hS0 hDx hDm hXM hXA hMA hx3 hi4 hI hPx hPm hS hl back
      by_cases c4 : z = 4
      · subst c4
        refine lv_tableIn (tgt := 220) hx hb dL_law_32 (by decide) (by decide) rfl (by decide) ?_
        exact xl_case4 C9 hL hK hS0 hDx hDm hXM hXA hMA hx3 hi4 hI hPx hPm hS hl back
      by_cases c5 : z = 5
      · subst c5
        refine lv_tableIn (tgt := 243) hx hb dL_law_32 (by decide) (by decide) rfl (by decide) ?_
        exact xl_case5 C9 hL hK hS0 hDx hDm hXM hXA hMA hx3 hi4 hI hPx hPm hS hl back
      by_cases c6 : z = 6
      · subst c6
        refine lv_tableIn (tgt := 276) hx hb dL_law_32 (by decide) (by decide) rfl (by decide) ?_
        exact xl_case6 C9 hL hK hS0 hDx hDm hXM hXA hMA hx3 hi4 hI hPx hPm hS hl back
      by_cases c7 : z = 7
      · subst c7
        refine lv_tableIn (tgt := 301) hx hb dL_law_32 (by decide) (by decide) rfl (by decide) ?_
        exact xl_case7 C9 hL hK hS0 hDx hDm hXM hXA hMA hx3 hi4 hI hPx hPm hS hl back
      by_cases c8 : z = 8
      · subst c8
        refine lv_tableIn (tgt := 314) hx hb dL_law_32 (by decide) (by decide) rfl (by decide) ?_
        exact xl_case8 C9 hL hK hS0 hDx hDm hXM hXA hMA hx3 hi4 hI hPx hPm hS hl back
      by_cases c9 : z = 9
      · subst c9
        refine lv_tableIn (tgt := 327) hx hb dL_law_32 (by decide) (by decide) rfl (by decide) ?_
        exact xl_case9 C9 hL hK hS0 hDx hDm hXM hXA hMA hx3 hi4 hI hPx hPm hS hl back
      by_cases c10 : z = 10
      · subst c10
        refine lv_tableIn (tgt := 340) hx hb dL_law_32 (by decide) (by decide) rfl (by decide) ?_
        exact xl_case10 C9 hL hK hS0 hDx hDm hXM hXA hMA hx3 hi4 hI hPx hPm hS hl back
      by_cases c11 : z = 11
      · subst c11
        refine lv_tableIn (tgt := 353) hx hb dL_law_32 (by decide) (by decide) rfl (by decide) ?_
        exact xl_case11 C9 hL hK hS0 hDx hDm hXM hXA hMA hx3 hi4 hI hPx hPm hS hl back
      by_cases c12 : z = 12
      · subst c12
        refine lv_tableIn (tgt := 386) hx hb dL_law_32 (by decide) (by decide) rfl (by decide) ?_
        exact xl_case12 C9 hL hK hS0 hDx hDm hXM hXA hMA hx3 hi4 hI hPx hPm hS hl back
      by_cases c13 : z = 13
      · subst c13
        refine lv_tableIn (tgt := 419) hx hb dL_law_32 (by decide) (by decide) rfl (by decide) ?_
        exact xl_case13 C9 hL hK hS0 hDx hDm hXM hXA hMA hx3 hi4 hI hPx hPm hS hl back
      by_cases c14 : z = 14
      · subst c14
        refine lv_tableIn (tgt := 462) hx hb dL_law_32 (by decide) (by decide) rfl (by decide) ?_
        exact xl_case14 C9 hL hK hS0 hDx hDm hXM hXA hMA hx3 hi4 hI hPx hPm hS hl back
      by_cases c15 : z = 15
      · subst c15
        refine lv_tableIn (tgt := 505) hx hb dL_law_32 (by decide) (by decide) rfl (by decide) ?_
        exact xl_case15 C9 hL hK hS0 hDx hDm hXM hXA hMA hx3 hi4 hI hPx hPm hS hl back
      by_cases c16 : z = 16
      · subst c16
        refine lv_tableIn (tgt := 550) hx hb dL_law_32 (by decide) (by decide) rfl (by decide) ?_
        exact xl_case16 C9 hL hK hS0 hDx hDm hXM hXA hMA hx3 hi4 hI hPx hPm hS hl back
      refine lv_tableOut (tgt := 573) hx hb dL_law_32 (xm_sw17 c0 c1 c2 c3 c4 c5 c6 c7 c8 c9 c10 c11 c12 c13 c14 c15 c16) (by decide) ?_
      exact back M N hI H locs hPx hPm hS
set_option maxHeartbeats 4000000 in
set_option maxRecDepth 100000 in
theorem whole_start {p : Program} {e : Env} {s : State} {m : MethodId} {below : List Frame} {meth : Method} {c : Code} (l : Launch) (hflags : l.flags = flags0) {b L : Nat} {xs : Nat → Int32} (hL : L ≤ 2048) (C0 : lw_At p s m meth c b L xs) : W p l e room_1 s m #[Value.ref b] below meth c s.heap [] 0 0 (lw_Z below #[Value.ref b] s) (entryFrame m ([Value.ref b] : List Value).toArray 4) := by
  have C9 := C0
  obtain ⟨hx, hb, hr, hml, hown, hts9, hX, hbl, hlocks, hgv⟩ := C0
  have hts := xl_tb hts9
  have hbA : ¬ (fun q : Nat => s.heap.size ≤ q) b := Nat.not_le.mpr hbl
  have hA : ∀ q : Nat, s.heap.size ≤ q → (fun q : Nat => s.heap.size ≤ q) q := fun _ h => h
  obtain ⟨E, hK, hS0⟩ := xl_start hts9 hgv
  have hS : va_S (fun q : Nat => s.heap.size ≤ q) s.heap s.heap [] := va_S.rf
  have hP : va_P E.1 vwCl [] s.heap := fun k q h => by simp at h
  have hD : va_D (fun q : Nat => s.heap.size ≤ q) [] := ⟨fun i j p q h => by simp at h, fun k q h => by simp at h⟩
  have hl := lv_entry ([.ref b]) (n := 4) (Nat.le_of_ble_eq_true rfl)
  rw [lg_entry_eq]
  generalize (lg_sl ([.ref b]) ++ List.replicate (4 - (lg_sl ([.ref b])).length) Slot.unset).toArray = ls at hl ⊢
  have hl : lv_has ls 4 [(0, .ref b)] := hl
  refine va_new (ci := 6) (fs := [.null, .null, .int 0, .null, .null, .null, .null]) (C := RX6) (T := TX6) (N := 7) hx hb hts xi_6 tyX6 tyX6_ok hown (hts _ cl_L_7) (hts _ ibL_X6.1) (hts _ ibL_X6.2) hK.1 hP hD hS hA rfl (by decide +kernel) (Nat.le_of_ble_eq_true rfl) (Nat.le_of_ble_eq_true rfl) dL_law_0 (fun q0 H hP hD hS => ?_)
  refine lv_dup hx hb dL_law_3 rfl ?_
  refine xn_callI (q := q0) (rest := [.ref q0]) hx hb hml hown hts hK hP hD hS hA (c_X6_init l E) ki_L_9 rfl ⟨(Nat.le_of_ble_eq_true rfl), (Nat.le_of_ble_eq_true rfl)⟩ hl.1 (Nat.le_of_ble_eq_true rfl) ⟨(Nat.le_of_ble_eq_true rfl), (Nat.le_of_ble_eq_true rfl)⟩ dL_law_4 (fun w1 H locs hw hP hD hS => ?_)
  obtain ⟨a, rfl, rfl⟩ := hw
  have hP : va_P E.1 vwCl (xm_w (xv E a) xm_0) H := hP
  have hD : va_D (fun q : Nat => s.heap.size ≤ q) (xm_w (xv E a) xm_0) := hD
  refine lv_astore_n (lv' := [(1, .ref (a 0)), (0, .ref b)]) hx hb dL_law_7 rfl hl (by decide) rfl (fun ls hl => ?_)
  refine va_new (ci := 7) (fs := [.null, .null, .null, .int 0, .null, .int 0, .null, .null, .null, .null, .int 0, .int 0, .int 0, .null, .int 0, .null, .null, .int 0, .int 0, .null, .int 0]) (C := RX7) (T := TX7) (N := 21) hx hb hts xi_7 tyX7 tyX7_ok hown (hts _ cl_L_10) (hts _ ibL_X7.1) (hts _ ibL_X7.2) hK.1 hP hD hS hA rfl (by decide +kernel) (Nat.le_of_ble_eq_true rfl) (Nat.le_of_ble_eq_true rfl) dL_law_8 (fun q1 H hP hD hS => ?_)
  refine lv_dup hx hb dL_law_11 rfl ?_
  refine xn_callI (q := q1) (rest := [.ref q1]) hx hb hml hown hts hK hP hD hS hA (c_X7_init l E) ki_L_12 rfl ⟨(Nat.le_of_ble_eq_true rfl), (Nat.le_of_ble_eq_true rfl)⟩ hl.1 (Nat.le_of_ble_eq_true rfl) ⟨(Nat.le_of_ble_eq_true rfl), (Nat.le_of_ble_eq_true rfl)⟩ dL_law_12 (fun w1 H locs hw hP hD hS => ?_)
  obtain ⟨bb, rfl, rfl⟩ := hw
  refine lv_astore_n (lv' := [(2, .ref (bb 0)), (1, .ref (a 0)), (0, .ref b)]) hx hb dL_law_15 rfl hl (by decide) rfl (fun ls hl => ?_)
  refine lv_iconst (v := 0) hx hb dL_law_16 (by decide) ?_
  refine lv_istore_n (lv' := [(3, .int 0), (2, .ref (bb 0)), (1, .ref (a 0)), (0, .ref b)]) hx hb dL_law_17 rfl hl (by decide) rfl (fun ls hl => ?_)
  obtain ⟨d1, d2, d3, d4, d5⟩ := xl_split hD
  obtain ⟨hPx, hPm⟩ := xl_splitP hP
  refine W.widen (k := 600000) (n := 7302250) (Nat.le_of_ble_eq_true rfl) (Nat.le_of_ble_eq_true rfl) ?_
  exact xl_loop C9 hL hK hS0 d1 d2 d3 d4 d5 (L + 4) 0 0 nI_0.symm (by omega) (by omega) xm_0 xm_1 xr_start H locs hPx hPm hS ls (lv_sub hl [3, 2, 1, 0] rfl)
