theorem dL_areAlike_242 : decode cL_areAlike 242 = .ok (.iconst 0, 1) := by decide +kernel
theorem dL_areAlike_243 : decode cL_areAlike 243 = .ok (.invokevirtual 47, 3) := by decide +kernel
theorem dL_areAlike_246 : decode cL_areAlike 246 = .ok (.if_icmp .ge 101, 3) := by decide +kernel
theorem dL_areAlike_249 : decode cL_areAlike 249 = .ok (.iload_n 2, 1) := by decide +kernel
theorem dL_areAlike_250 : decode cL_areAlike 250 = .ok (.ifCond .eq 97, 3) := by decide +kernel
theorem dL_areAlike_253 : decode cL_areAlike 253 = .ok (.aload_n 0, 1) := by decide +kernel
theorem dL_areAlike_254 : decode cL_areAlike 254 = .ok (.iload_n 3, 1) := by decide +kernel
theorem dL_areAlike_255 : decode cL_areAlike 255 = .ok (.iconst 0, 1) := by decide +kernel
theorem dL_areAlike_256 : decode cL_areAlike 256 = .ok (.invokevirtual 90, 3) := by decide +kernel
theorem dL_areAlike_259 : decode cL_areAlike 259 = .ok (.invokestatic 43, 3) := by decide +kernel
theorem dL_areAlike_262 : decode cL_areAlike 262 = .ok (.aload_n 1, 1) := by decide +kernel
theorem dL_areAlike_263 : decode cL_areAlike 263 = .ok (.iload_n 3, 1) := by decide +kernel
theorem dL_areAlike_264 : decode cL_areAlike 264 = .ok (.iconst 0, 1) := by decide +kernel
theorem dL_areAlike_265 : decode cL_areAlike 265 = .ok (.invokevirtual 90, 3) := by decide +kernel
theorem dL_areAlike_268 : decode cL_areAlike 268 = .ok (.if_icmp .ne 71, 3) := by decide +kernel
theorem dL_areAlike_271 : decode cL_areAlike 271 = .ok (.iconst 2, 1) := by decide +kernel
theorem dL_areAlike_272 : decode cL_areAlike 272 = .ok (.aload_n 0, 1) := by decide +kernel
theorem dL_areAlike_273 : decode cL_areAlike 273 = .ok (.iload_n 3, 1) := by decide +kernel
theorem dL_areAlike_274 : decode cL_areAlike 274 = .ok (.iconst 1, 1) := by decide +kernel
theorem dL_areAlike_275 : decode cL_areAlike 275 = .ok (.invokevirtual 90, 3) := by decide +kernel
theorem dL_areAlike_278 : decode cL_areAlike 278 = .ok (.imul, 1) := by decide +kernel
theorem dL_areAlike_279 : decode cL_areAlike 279 = .ok (.iconst 1, 1) := by decide +kernel
theorem dL_areAlike_280 : decode cL_areAlike 280 = .ok (.iadd, 1) := by decide +kernel
theorem dL_areAlike_281 : decode cL_areAlike 281 = .ok (.aload_n 1, 1) := by decide +kernel
theorem dL_areAlike_282 : decode cL_areAlike 282 = .ok (.iload_n 3, 1) := by decide +kernel
theorem dL_areAlike_283 : decode cL_areAlike 283 = .ok (.iconst 1, 1) := by decide +kernel
theorem dL_areAlike_284 : decode cL_areAlike 284 = .ok (.invokevirtual 90, 3) := by decide +kernel
theorem dL_areAlike_287 : decode cL_areAlike 287 = .ok (.if_icmp .ne 52, 3) := by decide +kernel
theorem dL_areAlike_290 : decode cL_areAlike 290 = .ok (.aload_n 0, 1) := by decide +kernel
theorem dL_areAlike_291 : decode cL_areAlike 291 = .ok (.iload_n 3, 1) := by decide +kernel
theorem dL_areAlike_292 : decode cL_areAlike 292 = .ok (.iconst 2, 1) := by decide +kernel
theorem dL_areAlike_293 : decode cL_areAlike 293 = .ok (.invokevirtual 90, 3) := by decide +kernel
theorem dL_areAlike_296 : decode cL_areAlike 296 = .ok (.aload_n 1, 1) := by decide +kernel
theorem dL_areAlike_297 : decode cL_areAlike 297 = .ok (.iload_n 3, 1) := by decide +kernel
theorem dL_areAlike_298 : decode cL_areAlike 298 = .ok (.iconst 2, 1) := by decide +kernel
theorem dL_areAlike_299 : decode cL_areAlike 299 = .ok (.invokevirtual 90, 3) := by decide +kernel
theorem dL_areAlike_302 : decode cL_areAlike 302 = .ok (.if_icmp .ne 37, 3) := by decide +kernel
theorem dL_areAlike_305 : decode cL_areAlike 305 = .ok (.aload_n 0, 1) := by decide +kernel
theorem dL_areAlike_306 : decode cL_areAlike 306 = .ok (.iload_n 3, 1) := by decide +kernel
theorem dL_areAlike_307 : decode cL_areAlike 307 = .ok (.iconst 3, 1) := by decide +kernel
theorem dL_areAlike_308 : decode cL_areAlike 308 = .ok (.invokevirtual 90, 3) := by decide +kernel
theorem dL_areAlike_311 : decode cL_areAlike 311 = .ok (.aload_n 1, 1) := by decide +kernel
theorem dL_areAlike_312 : decode cL_areAlike 312 = .ok (.iload_n 3, 1) := by decide +kernel
theorem dL_areAlike_313 : decode cL_areAlike 313 = .ok (.iconst 3, 1) := by decide +kernel
theorem dL_areAlike_314 : decode cL_areAlike 314 = .ok (.invokevirtual 90, 3) := by decide +kernel
theorem dL_areAlike_317 : decode cL_areAlike 317 = .ok (.if_icmp .ne 22, 3) := by decide +kernel
theorem dL_areAlike_320 : decode cL_areAlike 320 = .ok (.aload_n 0, 1) := by decide +kernel
theorem dL_areAlike_321 : decode cL_areAlike 321 = .ok (.iload_n 3, 1) := by decide +kernel
theorem dL_areAlike_322 : decode cL_areAlike 322 = .ok (.iconst 4, 1) := by decide +kernel
theorem dL_areAlike_323 : decode cL_areAlike 323 = .ok (.invokevirtual 90, 3) := by decide +kernel
theorem dL_areAlike_326 : decode cL_areAlike 326 = .ok (.aload_n 1, 1) := by decide +kernel
theorem dL_areAlike_327 : decode cL_areAlike 327 = .ok (.iload_n 3, 1) := by decide +kernel
theorem dL_areAlike_328 : decode cL_areAlike 328 = .ok (.iconst 4, 1) := by decide +kernel
theorem dL_areAlike_329 : decode cL_areAlike 329 = .ok (.invokevirtual 90, 3) := by decide +kernel
theorem dL_areAlike_332 : decode cL_areAlike 332 = .ok (.if_icmp .ne 7, 3) := by decide +kernel
theorem dL_areAlike_335 : decode cL_areAlike 335 = .ok (.iconst 1, 1) := by decide +kernel
theorem dL_areAlike_336 : decode cL_areAlike 336 = .ok (.goto 4, 3) := by decide +kernel
theorem dL_areAlike_339 : decode cL_areAlike 339 = .ok (.iconst 0, 1) := by decide +kernel
theorem dL_areAlike_340 : decode cL_areAlike 340 = .ok (.istore_n 2, 1) := by decide +kernel
theorem dL_areAlike_341 : decode cL_areAlike 341 = .ok (.iinc 3 1, 3) := by decide +kernel
theorem dL_areAlike_344 : decode cL_areAlike 344 = .ok (.goto (-104), 3) := by decide +kernel
theorem dL_areAlike_347 : decode cL_areAlike 347 = .ok (.iload_n 2, 1) := by decide +kernel
theorem dL_areAlike_348 : decode cL_areAlike 348 = .ok (.ireturn, 1) := by decide +kernel
theorem dL_isWell_0 : decode cL_isWell 0 = .ok (.aload_n 0, 1) := by decide +kernel
theorem dL_isWell_1 : decode cL_isWell 1 = .ok (.iconst 0, 1) := by decide +kernel
theorem dL_isWell_2 : decode cL_isWell 2 = .ok (.invokevirtual 47, 3) := by decide +kernel
theorem dL_isWell_5 : decode cL_isWell 5 = .ok (.istore_n 1, 1) := by decide +kernel
theorem dL_isWell_6 : decode cL_isWell 6 = .ok (.bipush 25, 2) := by decide +kernel
theorem dL_isWell_8 : decode cL_isWell 8 = .ok (.newarray .int, 2) := by decide +kernel
theorem dL_isWell_10 : decode cL_isWell 10 = .ok (.astore_n 2, 1) := by decide +kernel
theorem dL_isWell_11 : decode cL_isWell 11 = .ok (.iconst 0, 1) := by decide +kernel
theorem dL_isWell_12 : decode cL_isWell 12 = .ok (.istore_n 3, 1) := by decide +kernel
theorem dL_isWell_13 : decode cL_isWell 13 = .ok (.iconst 0, 1) := by decide +kernel
theorem dL_isWell_14 : decode cL_isWell 14 = .ok (.istore 4, 2) := by decide +kernel
theorem dL_isWell_16 : decode cL_isWell 16 = .ok (.iconst 0, 1) := by decide +kernel
theorem dL_isWell_17 : decode cL_isWell 17 = .ok (.istore 5, 2) := by decide +kernel
theorem dL_isWell_19 : decode cL_isWell 19 = .ok (.iconst 1, 1) := by decide +kernel
theorem dL_isWell_20 : decode cL_isWell 20 = .ok (.istore 6, 2) := by decide +kernel
theorem dL_isWell_22 : decode cL_isWell 22 = .ok (.iconst 0, 1) := by decide +kernel
theorem dL_isWell_23 : decode cL_isWell 23 = .ok (.istore 7, 2) := by decide +kernel
theorem dL_isWell_25 : decode cL_isWell 25 = .ok (.iload 7, 2) := by decide +kernel
theorem dL_isWell_27 : decode cL_isWell 27 = .ok (.bipush 25, 2) := by decide +kernel
theorem dL_isWell_29 : decode cL_isWell 29 = .ok (.if_icmp .ge 14, 3) := by decide +kernel
theorem dL_isWell_32 : decode cL_isWell 32 = .ok (.aload_n 2, 1) := by decide +kernel
theorem dL_isWell_33 : decode cL_isWell 33 = .ok (.iload 7, 2) := by decide +kernel
theorem dL_isWell_35 : decode cL_isWell 35 = .ok (.iconst (-1), 1) := by decide +kernel
theorem dL_isWell_36 : decode cL_isWell 36 = .ok (.iastore, 1) := by decide +kernel
theorem dL_isWell_37 : decode cL_isWell 37 = .ok (.iinc 7 1, 3) := by decide +kernel
theorem dL_isWell_40 : decode cL_isWell 40 = .ok (.goto (-15), 3) := by decide +kernel
theorem dL_isWell_43 : decode cL_isWell 43 = .ok (.iconst 0, 1) := by decide +kernel
theorem dL_isWell_44 : decode cL_isWell 44 = .ok (.istore 7, 2) := by decide +kernel
theorem dL_isWell_46 : decode cL_isWell 46 = .ok (.iload 7, 2) := by decide +kernel
theorem dL_isWell_48 : decode cL_isWell 48 = .ok (.iload_n 1, 1) := by decide +kernel
theorem dL_isWell_49 : decode cL_isWell 49 = .ok (.if_icmp .ge 109, 3) := by decide +kernel
theorem dL_isWell_52 : decode cL_isWell 52 = .ok (.iload 6, 2) := by decide +kernel
theorem dL_isWell_54 : decode cL_isWell 54 = .ok (.ifCond .eq 104, 3) := by decide +kernel
theorem dL_isWell_57 : decode cL_isWell 57 = .ok (.aload_n 0, 1) := by decide +kernel
theorem dL_isWell_58 : decode cL_isWell 58 = .ok (.iload 7, 2) := by decide +kernel
theorem dL_isWell_60 : decode cL_isWell 60 = .ok (.iconst 3, 1) := by decide +kernel
theorem dL_isWell_61 : decode cL_isWell 61 = .ok (.invokevirtual 90, 3) := by decide +kernel
theorem dL_isWell_64 : decode cL_isWell 64 = .ok (.istore 8, 2) := by decide +kernel
theorem dL_isWell_66 : decode cL_isWell 66 = .ok (.iload 8, 2) := by decide +kernel
theorem dL_isWell_68 : decode cL_isWell 68 = .ok (.ifCond .lt 35, 3) := by decide +kernel
theorem dL_isWell_71 : decode cL_isWell 71 = .ok (.iload 8, 2) := by decide +kernel
theorem dL_isWell_73 : decode cL_isWell 73 = .ok (.iload_n 1, 1) := by decide +kernel
theorem dL_isWell_74 : decode cL_isWell 74 = .ok (.if_icmp .ge 29, 3) := by decide +kernel
theorem dL_isWell_77 : decode cL_isWell 77 = .ok (.aload_n 2, 1) := by decide +kernel
theorem dL_isWell_78 : decode cL_isWell 78 = .ok (.iload 8, 2) := by decide +kernel
theorem dL_isWell_80 : decode cL_isWell 80 = .ok (.iaload, 1) := by decide +kernel
theorem dL_isWell_81 : decode cL_isWell 81 = .ok (.ifCond .ge 22, 3) := by decide +kernel
theorem dL_isWell_84 : decode cL_isWell 84 = .ok (.aload_n 0, 1) := by decide +kernel
theorem dL_isWell_85 : decode cL_isWell 85 = .ok (.iload 7, 2) := by decide +kernel
theorem dL_isWell_87 : decode cL_isWell 87 = .ok (.iconst 2, 1) := by decide +kernel
theorem dL_isWell_88 : decode cL_isWell 88 = .ok (.invokevirtual 90, 3) := by decide +kernel
theorem dL_isWell_91 : decode cL_isWell 91 = .ok (.aload_n 0, 1) := by decide +kernel
theorem dL_isWell_92 : decode cL_isWell 92 = .ok (.iconst 3, 1) := by decide +kernel
theorem dL_isWell_93 : decode cL_isWell 93 = .ok (.invokevirtual 47, 3) := by decide +kernel
theorem dL_isWell_96 : decode cL_isWell 96 = .ok (.if_icmp .gt 7, 3) := by decide +kernel
theorem dL_isWell_99 : decode cL_isWell 99 = .ok (.iconst 1, 1) := by decide +kernel
theorem dL_isWell_100 : decode cL_isWell 100 = .ok (.goto 4, 3) := by decide +kernel
theorem dL_isWell_103 : decode cL_isWell 103 = .ok (.iconst 0, 1) := by decide +kernel
theorem dL_isWell_104 : decode cL_isWell 104 = .ok (.istore 6, 2) := by decide +kernel
theorem dL_isWell_106 : decode cL_isWell 106 = .ok (.aload_n 2, 1) := by decide +kernel
theorem dL_isWell_107 : decode cL_isWell 107 = .ok (.iload 8, 2) := by decide +kernel
theorem dL_isWell_109 : decode cL_isWell 109 = .ok (.ifCond .ge 8, 3) := by decide +kernel
theorem dL_isWell_112 : decode cL_isWell 112 = .ok (.bipush 24, 2) := by decide +kernel
theorem dL_isWell_114 : decode cL_isWell 114 = .ok (.goto 5, 3) := by decide +kernel
theorem dL_isWell_117 : decode cL_isWell 117 = .ok (.iload 8, 2) := by decide +kernel
theorem dL_isWell_119 : decode cL_isWell 119 = .ok (.iload 7, 2) := by decide +kernel
theorem dL_isWell_121 : decode cL_isWell 121 = .ok (.iastore, 1) := by decide +kernel
theorem dL_isWell_122 : decode cL_isWell 122 = .ok (.iload_n 3, 1) := by decide +kernel
theorem dL_isWell_123 : decode cL_isWell 123 = .ok (.aload_n 0, 1) := by decide +kernel
theorem dL_isWell_124 : decode cL_isWell 124 = .ok (.iload 7, 2) := by decide +kernel
theorem dL_isWell_126 : decode cL_isWell 126 = .ok (.iconst 4, 1) := by decide +kernel
theorem dL_isWell_127 : decode cL_isWell 127 = .ok (.invokevirtual 90, 3) := by decide +kernel
theorem dL_isWell_130 : decode cL_isWell 130 = .ok (.ifCond .ne 7, 3) := by decide +kernel
theorem dL_isWell_133 : decode cL_isWell 133 = .ok (.iconst 1, 1) := by decide +kernel
theorem dL_isWell_134 : decode cL_isWell 134 = .ok (.goto 4, 3) := by decide +kernel
theorem dL_isWell_137 : decode cL_isWell 137 = .ok (.iconst 0, 1) := by decide +kernel
theorem dL_isWell_138 : decode cL_isWell 138 = .ok (.iadd, 1) := by decide +kernel
theorem dL_isWell_139 : decode cL_isWell 139 = .ok (.istore_n 3, 1) := by decide +kernel
theorem dL_isWell_140 : decode cL_isWell 140 = .ok (.iload 5, 2) := by decide +kernel
theorem dL_isWell_142 : decode cL_isWell 142 = .ok (.aload_n 0, 1) := by decide +kernel
theorem dL_isWell_143 : decode cL_isWell 143 = .ok (.iload 7, 2) := by decide +kernel
theorem dL_isWell_145 : decode cL_isWell 145 = .ok (.iconst 4, 1) := by decide +kernel
theorem dL_isWell_146 : decode cL_isWell 146 = .ok (.invokevirtual 90, 3) := by decide +kernel
theorem dL_isWell_149 : decode cL_isWell 149 = .ok (.iadd, 1) := by decide +kernel
theorem dL_isWell_150 : decode cL_isWell 150 = .ok (.istore 5, 2) := by decide +kernel
theorem dL_isWell_152 : decode cL_isWell 152 = .ok (.iinc 7 1, 3) := by decide +kernel
theorem dL_isWell_155 : decode cL_isWell 155 = .ok (.goto (-109), 3) := by decide +kernel
theorem dL_isWell_158 : decode cL_isWell 158 = .ok (.iconst 1, 1) := by decide +kernel
theorem dL_isWell_159 : decode cL_isWell 159 = .ok (.istore 7, 2) := by decide +kernel
theorem dL_isWell_161 : decode cL_isWell 161 = .ok (.iload 7, 2) := by decide +kernel
theorem dL_isWell_163 : decode cL_isWell 163 = .ok (.iload_n 1, 1) := by decide +kernel
theorem dL_isWell_164 : decode cL_isWell 164 = .ok (.if_icmp .ge 67, 3) := by decide +kernel
theorem dL_isWell_167 : decode cL_isWell 167 = .ok (.iload 6, 2) := by decide +kernel
theorem dL_isWell_169 : decode cL_isWell 169 = .ok (.ifCond .eq 62, 3) := by decide +kernel
theorem dL_isWell_172 : decode cL_isWell 172 = .ok (.aload_n 0, 1) := by decide +kernel
theorem dL_isWell_173 : decode cL_isWell 173 = .ok (.aload_n 2, 1) := by decide +kernel
theorem dL_isWell_174 : decode cL_isWell 174 = .ok (.iload 7, 2) := by decide +kernel
theorem dL_isWell_176 : decode cL_isWell 176 = .ok (.iaload, 1) := by decide +kernel
theorem dL_isWell_177 : decode cL_isWell 177 = .ok (.iconst 2, 1) := by decide +kernel
theorem dL_isWell_178 : decode cL_isWell 178 = .ok (.invokevirtual 90, 3) := by decide +kernel
theorem dL_isWell_181 : decode cL_isWell 181 = .ok (.aload_n 0, 1) := by decide +kernel
theorem dL_isWell_182 : decode cL_isWell 182 = .ok (.aload_n 2, 1) := by decide +kernel
theorem dL_isWell_183 : decode cL_isWell 183 = .ok (.iload 7, 2) := by decide +kernel
theorem dL_isWell_185 : decode cL_isWell 185 = .ok (.iconst 1, 1) := by decide +kernel
theorem dL_isWell_186 : decode cL_isWell 186 = .ok (.isub, 1) := by decide +kernel
theorem dL_isWell_187 : decode cL_isWell 187 = .ok (.iaload, 1) := by decide +kernel
theorem dL_isWell_188 : decode cL_isWell 188 = .ok (.iconst 2, 1) := by decide +kernel
theorem dL_isWell_189 : decode cL_isWell 189 = .ok (.invokevirtual 90, 3) := by decide +kernel
theorem dL_isWell_192 : decode cL_isWell 192 = .ok (.isub, 1) := by decide +kernel
theorem dL_isWell_193 : decode cL_isWell 193 = .ok (.istore 8, 2) := by decide +kernel
theorem dL_isWell_195 : decode cL_isWell 195 = .ok (.iload 8, 2) := by decide +kernel
theorem dL_isWell_197 : decode cL_isWell 197 = .ok (.ifCond .gt 21, 3) := by decide +kernel
theorem dL_isWell_200 : decode cL_isWell 200 = .ok (.iload 8, 2) := by decide +kernel
theorem dL_isWell_202 : decode cL_isWell 202 = .ok (.ifCond .ne 20, 3) := by decide +kernel
theorem dL_isWell_205 : decode cL_isWell 205 = .ok (.aload_n 2, 1) := by decide +kernel
theorem dL_isWell_206 : decode cL_isWell 206 = .ok (.iload 7, 2) := by decide +kernel
theorem dL_isWell_208 : decode cL_isWell 208 = .ok (.iaload, 1) := by decide +kernel
theorem dL_isWell_209 : decode cL_isWell 209 = .ok (.aload_n 2, 1) := by decide +kernel
theorem dL_isWell_210 : decode cL_isWell 210 = .ok (.iload 7, 2) := by decide +kernel
theorem dL_isWell_212 : decode cL_isWell 212 = .ok (.iconst 1, 1) := by decide +kernel
theorem dL_isWell_213 : decode cL_isWell 213 = .ok (.isub, 1) := by decide +kernel
theorem dL_isWell_214 : decode cL_isWell 214 = .ok (.iaload, 1) := by decide +kernel
theorem dL_isWell_215 : decode cL_isWell 215 = .ok (.if_icmp .le 7, 3) := by decide +kernel
theorem dL_isWell_218 : decode cL_isWell 218 = .ok (.iconst 1, 1) := by decide +kernel
theorem dL_isWell_219 : decode cL_isWell 219 = .ok (.goto 4, 3) := by decide +kernel
theorem dL_isWell_222 : decode cL_isWell 222 = .ok (.iconst 0, 1) := by decide +kernel
theorem dL_isWell_223 : decode cL_isWell 223 = .ok (.istore 6, 2) := by decide +kernel
theorem dL_isWell_225 : decode cL_isWell 225 = .ok (.iinc 7 1, 3) := by decide +kernel
theorem dL_isWell_228 : decode cL_isWell 228 = .ok (.goto (-67), 3) := by decide +kernel
theorem dL_isWell_231 : decode cL_isWell 231 = .ok (.iconst 0, 1) := by decide +kernel
theorem dL_isWell_232 : decode cL_isWell 232 = .ok (.istore 7, 2) := by decide +kernel
theorem dL_isWell_234 : decode cL_isWell 234 = .ok (.iload 7, 2) := by decide +kernel
theorem dL_isWell_236 : decode cL_isWell 236 = .ok (.aload_n 0, 1) := by decide +kernel
theorem dL_isWell_237 : decode cL_isWell 237 = .ok (.iconst 1, 1) := by decide +kernel
theorem dL_isWell_238 : decode cL_isWell 238 = .ok (.invokevirtual 47, 3) := by decide +kernel
theorem dL_isWell_241 : decode cL_isWell 241 = .ok (.if_icmp .ge 172, 3) := by decide +kernel
theorem dL_isWell_244 : decode cL_isWell 244 = .ok (.iload 6, 2) := by decide +kernel
theorem dL_isWell_246 : decode cL_isWell 246 = .ok (.ifCond .eq 167, 3) := by decide +kernel
theorem dL_isWell_249 : decode cL_isWell 249 = .ok (.aload_n 0, 1) := by decide +kernel
theorem dL_isWell_250 : decode cL_isWell 250 = .ok (.iload 7, 2) := by decide +kernel
theorem dL_isWell_252 : decode cL_isWell 252 = .ok (.iconst 4, 1) := by decide +kernel
theorem dL_isWell_253 : decode cL_isWell 253 = .ok (.invokevirtual 54, 3) := by decide +kernel
theorem dL_isWell_256 : decode cL_isWell 256 = .ok (.istore 8, 2) := by decide +kernel
theorem dL_isWell_258 : decode cL_isWell 258 = .ok (.iload 4, 2) := by decide +kernel
theorem dL_isWell_260 : decode cL_isWell 260 = .ok (.iload 8, 2) := by decide +kernel
theorem dL_isWell_262 : decode cL_isWell 262 = .ok (.iadd, 1) := by decide +kernel
theorem dL_isWell_263 : decode cL_isWell 263 = .ok (.istore 4, 2) := by decide +kernel
theorem dL_isWell_265 : decode cL_isWell 265 = .ok (.iload 5, 2) := by decide +kernel
theorem dL_isWell_267 : decode cL_isWell 267 = .ok (.iload 8, 2) := by decide +kernel
theorem dL_isWell_269 : decode cL_isWell 269 = .ok (.aload_n 0, 1) := by decide +kernel
theorem dL_isWell_270 : decode cL_isWell 270 = .ok (.iload 7, 2) := by decide +kernel
theorem dL_isWell_272 : decode cL_isWell 272 = .ok (.iconst 3, 1) := by decide +kernel
theorem dL_isWell_273 : decode cL_isWell 273 = .ok (.invokevirtual 54, 3) := by decide +kernel
theorem dL_isWell_276 : decode cL_isWell 276 = .ok (.imul, 1) := by decide +kernel
theorem dL_isWell_277 : decode cL_isWell 277 = .ok (.isub, 1) := by decide +kernel
theorem dL_isWell_278 : decode cL_isWell 278 = .ok (.istore 5, 2) := by decide +kernel
theorem dL_isWell_280 : decode cL_isWell 280 = .ok (.aload_n 0, 1) := by decide +kernel
theorem dL_isWell_281 : decode cL_isWell 281 = .ok (.iload 7, 2) := by decide +kernel
theorem dL_isWell_283 : decode cL_isWell 283 = .ok (.iconst 5, 1) := by decide +kernel
theorem dL_isWell_284 : decode cL_isWell 284 = .ok (.invokevirtual 54, 3) := by decide +kernel
theorem dL_isWell_287 : decode cL_isWell 287 = .ok (.iload 8, 2) := by decide +kernel
theorem dL_isWell_289 : decode cL_isWell 289 = .ok (.if_icmp .gt 115, 3) := by decide +kernel
theorem dL_isWell_292 : decode cL_isWell 292 = .ok (.aload_n 0, 1) := by decide +kernel
theorem dL_isWell_293 : decode cL_isWell 293 = .ok (.iload 7, 2) := by decide +kernel
theorem dL_isWell_295 : decode cL_isWell 295 = .ok (.bipush 6, 2) := by decide +kernel
theorem dL_isWell_297 : decode cL_isWell 297 = .ok (.invokevirtual 54, 3) := by decide +kernel
theorem dL_isWell_300 : decode cL_isWell 300 = .ok (.ifCond .lt 104, 3) := by decide +kernel
theorem dL_isWell_303 : decode cL_isWell 303 = .ok (.aload_n 0, 1) := by decide +kernel
theorem dL_isWell_304 : decode cL_isWell 304 = .ok (.iload 7, 2) := by decide +kernel
theorem dL_isWell_306 : decode cL_isWell 306 = .ok (.iconst 2, 1) := by decide +kernel
theorem dL_isWell_307 : decode cL_isWell 307 = .ok (.invokevirtual 54, 3) := by decide +kernel
theorem dL_isWell_310 : decode cL_isWell 310 = .ok (.bipush 7, 2) := by decide +kernel
theorem dL_isWell_312 : decode cL_isWell 312 = .ok (.if_icmp .gt 92, 3) := by decide +kernel
theorem dL_isWell_315 : decode cL_isWell 315 = .ok (.aload_n 0, 1) := by decide +kernel
theorem dL_isWell_316 : decode cL_isWell 316 = .ok (.iload 7, 2) := by decide +kernel
theorem dL_isWell_318 : decode cL_isWell 318 = .ok (.iconst 3, 1) := by decide +kernel
theorem dL_isWell_319 : decode cL_isWell 319 = .ok (.invokevirtual 54, 3) := by decide +kernel
theorem dL_isWell_322 : decode cL_isWell 322 = .ok (.iconst 2, 1) := by decide +kernel
theorem dL_isWell_323 : decode cL_isWell 323 = .ok (.if_icmp .lt 81, 3) := by decide +kernel
theorem dL_isWell_326 : decode cL_isWell 326 = .ok (.aload_n 0, 1) := by decide +kernel
theorem dL_isWell_327 : decode cL_isWell 327 = .ok (.iload 7, 2) := by decide +kernel
theorem dL_isWell_329 : decode cL_isWell 329 = .ok (.iconst 3, 1) := by decide +kernel
theorem dL_isWell_330 : decode cL_isWell 330 = .ok (.invokevirtual 54, 3) := by decide +kernel
theorem dL_isWell_333 : decode cL_isWell 333 = .ok (.iconst 4, 1) := by decide +kernel
theorem dL_isWell_334 : decode cL_isWell 334 = .ok (.if_icmp .gt 70, 3) := by decide +kernel
theorem dL_isWell_337 : decode cL_isWell 337 = .ok (.aload_n 0, 1) := by decide +kernel
theorem dL_isWell_338 : decode cL_isWell 338 = .ok (.iload 7, 2) := by decide +kernel
theorem dL_isWell_340 : decode cL_isWell 340 = .ok (.iconst 0, 1) := by decide +kernel
theorem dL_isWell_341 : decode cL_isWell 341 = .ok (.iconst 1, 1) := by decide +kernel
theorem dL_isWell_342 : decode cL_isWell 342 = .ok (.invokevirtual 83, 3) := by decide +kernel
theorem dL_isWell_345 : decode cL_isWell 345 = .ok (.ifCond .ne 59, 3) := by decide +kernel
theorem dL_isWell_348 : decode cL_isWell 348 = .ok (.aload_n 0, 1) := by decide +kernel
theorem dL_isWell_349 : decode cL_isWell 349 = .ok (.iload 7, 2) := by decide +kernel
theorem dL_isWell_351 : decode cL_isWell 351 = .ok (.aload_n 0, 1) := by decide +kernel
theorem dL_isWell_352 : decode cL_isWell 352 = .ok (.iload 7, 2) := by decide +kernel
theorem dL_isWell_354 : decode cL_isWell 354 = .ok (.iconst 2, 1) := by decide +kernel
theorem dL_isWell_355 : decode cL_isWell 355 = .ok (.invokevirtual 54, 3) := by decide +kernel
theorem dL_isWell_358 : decode cL_isWell 358 = .ok (.iconst 1, 1) := by decide +kernel
theorem dL_isWell_359 : decode cL_isWell 359 = .ok (.isub, 1) := by decide +kernel
theorem dL_isWell_360 : decode cL_isWell 360 = .ok (.iconst 1, 1) := by decide +kernel
theorem dL_isWell_361 : decode cL_isWell 361 = .ok (.invokevirtual 83, 3) := by decide +kernel
theorem dL_isWell_364 : decode cL_isWell 364 = .ok (.ifCond .ne 40, 3) := by decide +kernel
theorem dL_isWell_367 : decode cL_isWell 367 = .ok (.aload_n 0, 1) := by decide +kernel
theorem dL_isWell_368 : decode cL_isWell 368 = .ok (.iload 7, 2) := by decide +kernel
theorem dL_isWell_370 : decode cL_isWell 370 = .ok (.iload 8, 2) := by decide +kernel
theorem dL_isWell_372 : decode cL_isWell 372 = .ok (.iconst 0, 1) := by decide +kernel
theorem dL_isWell_373 : decode cL_isWell 373 = .ok (.invokevirtual 87, 3) := by decide +kernel
theorem dL_isWell_376 : decode cL_isWell 376 = .ok (.bipush (-5), 2) := by decide +kernel
theorem dL_isWell_378 : decode cL_isWell 378 = .ok (.if_icmp .ne 26, 3) := by decide +kernel
theorem dL_isWell_381 : decode cL_isWell 381 = .ok (.iload 8, 2) := by decide +kernel
theorem dL_isWell_383 : decode cL_isWell 383 = .ok (.ifCond .eq 17, 3) := by decide +kernel
theorem dL_isWell_386 : decode cL_isWell 386 = .ok (.aload_n 0, 1) := by decide +kernel
theorem dL_isWell_387 : decode cL_isWell 387 = .ok (.iload 7, 2) := by decide +kernel
theorem dL_isWell_389 : decode cL_isWell 389 = .ok (.iload 8, 2) := by decide +kernel
theorem dL_isWell_391 : decode cL_isWell 391 = .ok (.iconst 1, 1) := by decide +kernel
theorem dL_isWell_392 : decode cL_isWell 392 = .ok (.isub, 1) := by decide +kernel
theorem dL_isWell_393 : decode cL_isWell 393 = .ok (.iconst 0, 1) := by decide +kernel
theorem dL_isWell_394 : decode cL_isWell 394 = .ok (.invokevirtual 87, 3) := by decide +kernel
theorem dL_isWell_397 : decode cL_isWell 397 = .ok (.ifCond .lt 7, 3) := by decide +kernel
theorem dL_isWell_400 : decode cL_isWell 400 = .ok (.iconst 1, 1) := by decide +kernel
theorem dL_isWell_401 : decode cL_isWell 401 = .ok (.goto 4, 3) := by decide +kernel
theorem dL_isWell_404 : decode cL_isWell 404 = .ok (.iconst 0, 1) := by decide +kernel
theorem dL_isWell_405 : decode cL_isWell 405 = .ok (.istore 6, 2) := by decide +kernel
theorem dL_isWell_407 : decode cL_isWell 407 = .ok (.iinc 7 1, 3) := by decide +kernel
theorem dL_isWell_410 : decode cL_isWell 410 = .ok (.goto (-176), 3) := by decide +kernel
theorem dL_isWell_413 : decode cL_isWell 413 = .ok (.iload 6, 2) := by decide +kernel
theorem dL_isWell_415 : decode cL_isWell 415 = .ok (.ifCond .eq 64, 3) := by decide +kernel
theorem dL_isWell_418 : decode cL_isWell 418 = .ok (.iload 5, 2) := by decide +kernel
theorem dL_isWell_420 : decode cL_isWell 420 = .ok (.ifCond .ne 59, 3) := by decide +kernel
theorem dL_isWell_423 : decode cL_isWell 423 = .ok (.iload 4, 2) := by decide +kernel
theorem dL_isWell_425 : decode cL_isWell 425 = .ok (.aload_n 0, 1) := by decide +kernel
theorem dL_isWell_426 : decode cL_isWell 426 = .ok (.iconst 2, 1) := by decide +kernel
theorem dL_isWell_427 : decode cL_isWell 427 = .ok (.invokevirtual 47, 3) := by decide +kernel
theorem dL_isWell_430 : decode cL_isWell 430 = .ok (.if_icmp .ne 49, 3) := by decide +kernel
theorem dL_isWell_433 : decode cL_isWell 433 = .ok (.iload_n 3, 1) := by decide +kernel
theorem dL_isWell_434 : decode cL_isWell 434 = .ok (.aload_n 0, 1) := by decide +kernel
theorem dL_isWell_435 : decode cL_isWell 435 = .ok (.bipush 6, 2) := by decide +kernel
theorem dL_isWell_437 : decode cL_isWell 437 = .ok (.invokevirtual 47, 3) := by decide +kernel
theorem dL_isWell_440 : decode cL_isWell 440 = .ok (.if_icmp .ne 39, 3) := by decide +kernel
theorem dL_isWell_443 : decode cL_isWell 443 = .ok (.aload_n 0, 1) := by decide +kernel
theorem dL_isWell_444 : decode cL_isWell 444 = .ok (.iconst 4, 1) := by decide +kernel
theorem dL_isWell_445 : decode cL_isWell 445 = .ok (.invokevirtual 47, 3) := by decide +kernel
theorem dL_isWell_448 : decode cL_isWell 448 = .ok (.aload_n 0, 1) := by decide +kernel
theorem dL_isWell_449 : decode cL_isWell 449 = .ok (.iconst 3, 1) := by decide +kernel
theorem dL_isWell_450 : decode cL_isWell 450 = .ok (.invokevirtual 47, 3) := by decide +kernel
theorem dL_isWell_453 : decode cL_isWell 453 = .ok (.if_icmp .gt 26, 3) := by decide +kernel
theorem dL_isWell_456 : decode cL_isWell 456 = .ok (.aload_n 0, 1) := by decide +kernel
theorem dL_isWell_457 : decode cL_isWell 457 = .ok (.iconst 4, 1) := by decide +kernel
theorem dL_isWell_458 : decode cL_isWell 458 = .ok (.invokevirtual 47, 3) := by decide +kernel
theorem dL_isWell_461 : decode cL_isWell 461 = .ok (.aload_n 0, 1) := by decide +kernel
theorem dL_isWell_462 : decode cL_isWell 462 = .ok (.iconst 3, 1) := by decide +kernel
theorem dL_isWell_463 : decode cL_isWell 463 = .ok (.invokevirtual 47, 3) := by decide +kernel
theorem dL_isWell_466 : decode cL_isWell 466 = .ok (.aload_n 0, 1) := by decide +kernel
theorem dL_isWell_467 : decode cL_isWell 467 = .ok (.iconst 5, 1) := by decide +kernel
theorem dL_isWell_468 : decode cL_isWell 468 = .ok (.invokevirtual 47, 3) := by decide +kernel
theorem dL_isWell_471 : decode cL_isWell 471 = .ok (.isub, 1) := by decide +kernel
theorem dL_isWell_472 : decode cL_isWell 472 = .ok (.if_icmp .lt 7, 3) := by decide +kernel
theorem dL_isWell_475 : decode cL_isWell 475 = .ok (.iconst 1, 1) := by decide +kernel
theorem dL_isWell_476 : decode cL_isWell 476 = .ok (.goto 4, 3) := by decide +kernel
theorem dL_isWell_479 : decode cL_isWell 479 = .ok (.iconst 0, 1) := by decide +kernel
theorem dL_isWell_480 : decode cL_isWell 480 = .ok (.ireturn, 1) := by decide +kernel
theorem dL_law_0 : decode cL_law 0 = .ok (.new 12, 3) := by decide +kernel
theorem dL_law_3 : decode cL_law 3 = .ok (.dup, 1) := by decide +kernel
theorem dL_law_4 : decode cL_law 4 = .ok (.invokespecial 93, 3) := by decide +kernel
theorem dL_law_7 : decode cL_law 7 = .ok (.astore_n 1, 1) := by decide +kernel
theorem dL_law_8 : decode cL_law 8 = .ok (.new 12, 3) := by decide +kernel
theorem dL_law_11 : decode cL_law 11 = .ok (.dup, 1) := by decide +kernel
theorem dL_law_12 : decode cL_law 12 = .ok (.invokespecial 93, 3) := by decide +kernel
theorem dL_law_15 : decode cL_law 15 = .ok (.astore_n 2, 1) := by decide +kernel
theorem dL_law_16 : decode cL_law 16 = .ok (.iconst 1, 1) := by decide +kernel
theorem dL_law_17 : decode cL_law 17 = .ok (.istore_n 3, 1) := by decide +kernel
theorem dL_law_18 : decode cL_law 18 = .ok (.iconst 0, 1) := by decide +kernel
theorem dL_law_19 : decode cL_law 19 = .ok (.istore 4, 2) := by decide +kernel
theorem dL_law_21 : decode cL_law 21 = .ok (.iload 4, 2) := by decide +kernel
theorem dL_law_23 : decode cL_law 23 = .ok (.bipush 48, 2) := by decide +kernel
theorem dL_law_25 : decode cL_law 25 = .ok (.if_icmp .ge 58, 3) := by decide +kernel
theorem dL_law_28 : decode cL_law 28 = .ok (.iload_n 3, 1) := by decide +kernel
theorem dL_law_29 : decode cL_law 29 = .ok (.ifCond .eq 54, 3) := by decide +kernel
theorem dL_law_32 : decode cL_law 32 = .ok (.aload_n 1, 1) := by decide +kernel
theorem dL_law_33 : decode cL_law 33 = .ok (.aload_n 2, 1) := by decide +kernel
theorem dL_law_34 : decode cL_law 34 = .ok (.aload_n 0, 1) := by decide +kernel
theorem dL_law_35 : decode cL_law 35 = .ok (.iload 4, 2) := by decide +kernel
theorem dL_law_37 : decode cL_law 37 = .ok (.invokestatic 94, 3) := by decide +kernel
theorem dL_law_40 : decode cL_law 40 = .ok (.aload_n 0, 1) := by decide +kernel
theorem dL_law_41 : decode cL_law 41 = .ok (.iload 4, 2) := by decide +kernel
theorem dL_law_43 : decode cL_law 43 = .ok (.iconst 1, 1) := by decide +kernel
theorem dL_law_44 : decode cL_law 44 = .ok (.iadd, 1) := by decide +kernel
theorem dL_law_45 : decode cL_law 45 = .ok (.invokestatic 94, 3) := by decide +kernel
theorem dL_law_48 : decode cL_law 48 = .ok (.iconst 2, 1) := by decide +kernel
theorem dL_law_49 : decode cL_law 49 = .ok (.ishr, 1) := by decide +kernel
theorem dL_law_50 : decode cL_law 50 = .ok (.invokestatic 98, 3) := by decide +kernel
theorem dL_law_53 : decode cL_law 53 = .ok (.ifCond .eq 22, 3) := by decide +kernel
theorem dL_law_56 : decode cL_law 56 = .ok (.iload 4, 2) := by decide +kernel
theorem dL_law_58 : decode cL_law 58 = .ok (.bipush 8, 2) := by decide +kernel
theorem dL_law_60 : decode cL_law 60 = .ok (.irem, 1) := by decide +kernel
theorem dL_law_61 : decode cL_law 61 = .ok (.ifCond .gt 10, 3) := by decide +kernel
theorem dL_law_64 : decode cL_law 64 = .ok (.aload_n 1, 1) := by decide +kernel
theorem dL_law_65 : decode cL_law 65 = .ok (.invokestatic 101, 3) := by decide +kernel
theorem dL_law_68 : decode cL_law 68 = .ok (.ifCond .eq 7, 3) := by decide +kernel
theorem dL_law_71 : decode cL_law 71 = .ok (.iconst 1, 1) := by decide +kernel
theorem dL_law_72 : decode cL_law 72 = .ok (.goto 4, 3) := by decide +kernel
theorem dL_law_75 : decode cL_law 75 = .ok (.iconst 0, 1) := by decide +kernel
theorem dL_law_76 : decode cL_law 76 = .ok (.istore_n 3, 1) := by decide +kernel
theorem dL_law_77 : decode cL_law 77 = .ok (.iinc 4 1, 3) := by decide +kernel
theorem dL_law_80 : decode cL_law 80 = .ok (.goto (-59), 3) := by decide +kernel
theorem dL_law_83 : decode cL_law 83 = .ok (.iload_n 3, 1) := by decide +kernel
theorem dL_law_84 : decode cL_law 84 = .ok (.ifCond .eq 22, 3) := by decide +kernel
theorem dL_law_87 : decode cL_law 87 = .ok (.aload_n 1, 1) := by decide +kernel
theorem dL_law_88 : decode cL_law 88 = .ok (.invokestatic 101, 3) := by decide +kernel
theorem dL_law_91 : decode cL_law 91 = .ok (.ifCond .eq 15, 3) := by decide +kernel
theorem dL_law_94 : decode cL_law 94 = .ok (.aload_n 1, 1) := by decide +kernel
theorem dL_law_95 : decode cL_law 95 = .ok (.aload_n 2, 1) := by decide +kernel
theorem dL_law_96 : decode cL_law 96 = .ok (.invokestatic 105, 3) := by decide +kernel
theorem dL_law_99 : decode cL_law 99 = .ok (.ifCond .eq 7, 3) := by decide +kernel
theorem dL_law_102 : decode cL_law 102 = .ok (.iconst 1, 1) := by decide +kernel
theorem dL_law_103 : decode cL_law 103 = .ok (.goto 4, 3) := by decide +kernel
theorem dL_law_106 : decode cL_law 106 = .ok (.iconst 0, 1) := by decide +kernel
theorem dL_law_107 : decode cL_law 107 = .ok (.ireturn, 1) := by decide +kernel
