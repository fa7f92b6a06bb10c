theorem zd_L_law_0 : decode zc_L_law 0 = .ok (.new 8, 3) := by decide +kernel
theorem zd_L_law_3 : decode zc_L_law 3 = .ok (.dup, 1) := by decide +kernel
theorem zd_L_law_4 : decode zc_L_law 4 = .ok (.invokespecial 43, 3) := by decide +kernel
theorem zd_L_law_7 : decode zc_L_law 7 = .ok (.astore_n 1, 1) := by decide +kernel
theorem zd_L_law_8 : decode zc_L_law 8 = .ok (.new 44, 3) := by decide +kernel
theorem zd_L_law_11 : decode zc_L_law 11 = .ok (.dup, 1) := by decide +kernel
theorem zd_L_law_12 : decode zc_L_law 12 = .ok (.invokespecial 46, 3) := by decide +kernel
theorem zd_L_law_15 : decode zc_L_law 15 = .ok (.astore_n 2, 1) := by decide +kernel
theorem zd_L_law_16 : decode zc_L_law 16 = .ok (.iconst 1, 1) := by decide +kernel
theorem zd_L_law_17 : decode zc_L_law 17 = .ok (.newarray .long, 2) := by decide +kernel
theorem zd_L_law_19 : decode zc_L_law 19 = .ok (.astore_n 3, 1) := by decide +kernel
theorem zd_L_law_20 : decode zc_L_law 20 = .ok (.iconst 0, 1) := by decide +kernel
theorem zd_L_law_21 : decode zc_L_law 21 = .ok (.istore 4, 2) := by decide +kernel
theorem zd_L_law_23 : decode zc_L_law 23 = .ok (.iload 4, 2) := by decide +kernel
theorem zd_L_law_25 : decode zc_L_law 25 = .ok (.aload_n 0, 1) := by decide +kernel
theorem zd_L_law_26 : decode zc_L_law 26 = .ok (.arraylength, 1) := by decide +kernel
theorem zd_L_law_27 : decode zc_L_law 27 = .ok (.iconst 5, 1) := by decide +kernel
theorem zd_L_law_28 : decode zc_L_law 28 = .ok (.isub, 1) := by decide +kernel
theorem zd_L_law_29 : decode zc_L_law 29 = .ok (.if_icmp .gt 629, 3) := by decide +kernel
theorem zd_L_law_32 : decode zc_L_law 32 = .ok (.aload_n 0, 1) := by decide +kernel
theorem zd_L_law_33 : decode zc_L_law 33 = .ok (.iload 4, 2) := by decide +kernel
theorem zd_L_law_35 : decode zc_L_law 35 = .ok (.iaload, 1) := by decide +kernel
theorem zd_L_law_36 : decode zc_L_law 36 = .ok (.bipush 15, 2) := by decide +kernel
theorem zd_L_law_38 : decode zc_L_law 38 = .ok (.iand, 1) := by decide +kernel
theorem zd_L_law_39 : decode zc_L_law 39 = .ok (.tableswitch 613 0 8 #[49, 141, 197, 253, 309, 365, 433, 489, 545], 49) := by decide +kernel
theorem zd_L_law_88 : decode zc_L_law 88 = .ok (.aload_n 1, 1) := by decide +kernel
theorem zd_L_law_89 : decode zc_L_law 89 = .ok (.aload_n 0, 1) := by decide +kernel
theorem zd_L_law_90 : decode zc_L_law 90 = .ok (.iload 4, 2) := by decide +kernel
theorem zd_L_law_92 : decode zc_L_law 92 = .ok (.iconst 1, 1) := by decide +kernel
theorem zd_L_law_93 : decode zc_L_law 93 = .ok (.iadd, 1) := by decide +kernel
theorem zd_L_law_94 : decode zc_L_law 94 = .ok (.iaload, 1) := by decide +kernel
theorem zd_L_law_95 : decode zc_L_law 95 = .ok (.aload_n 0, 1) := by decide +kernel
theorem zd_L_law_96 : decode zc_L_law 96 = .ok (.iload 4, 2) := by decide +kernel
theorem zd_L_law_98 : decode zc_L_law 98 = .ok (.iconst 2, 1) := by decide +kernel
theorem zd_L_law_99 : decode zc_L_law 99 = .ok (.iadd, 1) := by decide +kernel
theorem zd_L_law_100 : decode zc_L_law 100 = .ok (.iaload, 1) := by decide +kernel
theorem zd_L_law_101 : decode zc_L_law 101 = .ok (.i2l, 1) := by decide +kernel
theorem zd_L_law_102 : decode zc_L_law 102 = .ok (.bipush 32, 2) := by decide +kernel
theorem zd_L_law_104 : decode zc_L_law 104 = .ok (.lshl, 1) := by decide +kernel
theorem zd_L_law_105 : decode zc_L_law 105 = .ok (.aload_n 0, 1) := by decide +kernel
theorem zd_L_law_106 : decode zc_L_law 106 = .ok (.iload 4, 2) := by decide +kernel
theorem zd_L_law_108 : decode zc_L_law 108 = .ok (.iconst 3, 1) := by decide +kernel
theorem zd_L_law_109 : decode zc_L_law 109 = .ok (.iadd, 1) := by decide +kernel
theorem zd_L_law_110 : decode zc_L_law 110 = .ok (.iaload, 1) := by decide +kernel
theorem zd_L_law_111 : decode zc_L_law 111 = .ok (.i2l, 1) := by decide +kernel
theorem zd_L_law_112 : decode zc_L_law 112 = .ok (.ldc2_w 47, 3) := by decide +kernel
theorem zd_L_law_115 : decode zc_L_law 115 = .ok (.land, 1) := by decide +kernel
theorem zd_L_law_116 : decode zc_L_law 116 = .ok (.lor, 1) := by decide +kernel
theorem zd_L_law_117 : decode zc_L_law 117 = .ok (.aload_n 0, 1) := by decide +kernel
theorem zd_L_law_118 : decode zc_L_law 118 = .ok (.iload 4, 2) := by decide +kernel
theorem zd_L_law_120 : decode zc_L_law 120 = .ok (.iconst 4, 1) := by decide +kernel
theorem zd_L_law_121 : decode zc_L_law 121 = .ok (.iadd, 1) := by decide +kernel
theorem zd_L_law_122 : decode zc_L_law 122 = .ok (.iaload, 1) := by decide +kernel
theorem zd_L_law_123 : decode zc_L_law 123 = .ok (.invokestatic 49, 3) := by decide +kernel
theorem zd_L_law_126 : decode zc_L_law 126 = .ok (.istore 5, 2) := by decide +kernel
theorem zd_L_law_128 : decode zc_L_law 128 = .ok (.aload_n 2, 1) := by decide +kernel
theorem zd_L_law_129 : decode zc_L_law 129 = .ok (.aload_n 0, 1) := by decide +kernel
theorem zd_L_law_130 : decode zc_L_law 130 = .ok (.iload 4, 2) := by decide +kernel
theorem zd_L_law_132 : decode zc_L_law 132 = .ok (.iconst 1, 1) := by decide +kernel
theorem zd_L_law_133 : decode zc_L_law 133 = .ok (.iadd, 1) := by decide +kernel
theorem zd_L_law_134 : decode zc_L_law 134 = .ok (.iaload, 1) := by decide +kernel
theorem zd_L_law_135 : decode zc_L_law 135 = .ok (.aload_n 0, 1) := by decide +kernel
theorem zd_L_law_136 : decode zc_L_law 136 = .ok (.iload 4, 2) := by decide +kernel
theorem zd_L_law_138 : decode zc_L_law 138 = .ok (.iconst 2, 1) := by decide +kernel
theorem zd_L_law_139 : decode zc_L_law 139 = .ok (.iadd, 1) := by decide +kernel
theorem zd_L_law_140 : decode zc_L_law 140 = .ok (.iaload, 1) := by decide +kernel
theorem zd_L_law_141 : decode zc_L_law 141 = .ok (.i2l, 1) := by decide +kernel
theorem zd_L_law_142 : decode zc_L_law 142 = .ok (.bipush 32, 2) := by decide +kernel
theorem zd_L_law_144 : decode zc_L_law 144 = .ok (.lshl, 1) := by decide +kernel
theorem zd_L_law_145 : decode zc_L_law 145 = .ok (.aload_n 0, 1) := by decide +kernel
theorem zd_L_law_146 : decode zc_L_law 146 = .ok (.iload 4, 2) := by decide +kernel
theorem zd_L_law_148 : decode zc_L_law 148 = .ok (.iconst 3, 1) := by decide +kernel
theorem zd_L_law_149 : decode zc_L_law 149 = .ok (.iadd, 1) := by decide +kernel
theorem zd_L_law_150 : decode zc_L_law 150 = .ok (.iaload, 1) := by decide +kernel
theorem zd_L_law_151 : decode zc_L_law 151 = .ok (.i2l, 1) := by decide +kernel
theorem zd_L_law_152 : decode zc_L_law 152 = .ok (.ldc2_w 47, 3) := by decide +kernel
theorem zd_L_law_155 : decode zc_L_law 155 = .ok (.land, 1) := by decide +kernel
theorem zd_L_law_156 : decode zc_L_law 156 = .ok (.lor, 1) := by decide +kernel
theorem zd_L_law_157 : decode zc_L_law 157 = .ok (.aload_n 0, 1) := by decide +kernel
theorem zd_L_law_158 : decode zc_L_law 158 = .ok (.iload 4, 2) := by decide +kernel
theorem zd_L_law_160 : decode zc_L_law 160 = .ok (.iconst 4, 1) := by decide +kernel
theorem zd_L_law_161 : decode zc_L_law 161 = .ok (.iadd, 1) := by decide +kernel
theorem zd_L_law_162 : decode zc_L_law 162 = .ok (.iaload, 1) := by decide +kernel
theorem zd_L_law_163 : decode zc_L_law 163 = .ok (.invokevirtual 54, 3) := by decide +kernel
theorem zd_L_law_166 : decode zc_L_law 166 = .ok (.aload_n 2, 1) := by decide +kernel
theorem zd_L_law_167 : decode zc_L_law 167 = .ok (.invokevirtual 55, 3) := by decide +kernel
theorem zd_L_law_170 : decode zc_L_law 170 = .ok (.iload 5, 2) := by decide +kernel
theorem zd_L_law_172 : decode zc_L_law 172 = .ok (.if_icmp .eq 5, 3) := by decide +kernel
theorem zd_L_law_175 : decode zc_L_law 175 = .ok (.iconst 0, 1) := by decide +kernel
theorem zd_L_law_176 : decode zc_L_law 176 = .ok (.ireturn, 1) := by decide +kernel
theorem zd_L_law_177 : decode zc_L_law 177 = .ok (.goto 475, 3) := by decide +kernel
theorem zd_L_law_180 : decode zc_L_law 180 = .ok (.aload_n 1, 1) := by decide +kernel
theorem zd_L_law_181 : decode zc_L_law 181 = .ok (.aload_n 0, 1) := by decide +kernel
theorem zd_L_law_182 : decode zc_L_law 182 = .ok (.iload 4, 2) := by decide +kernel
theorem zd_L_law_184 : decode zc_L_law 184 = .ok (.iconst 1, 1) := by decide +kernel
theorem zd_L_law_185 : decode zc_L_law 185 = .ok (.iadd, 1) := by decide +kernel
theorem zd_L_law_186 : decode zc_L_law 186 = .ok (.iaload, 1) := by decide +kernel
theorem zd_L_law_187 : decode zc_L_law 187 = .ok (.aload_n 3, 1) := by decide +kernel
theorem zd_L_law_188 : decode zc_L_law 188 = .ok (.invokestatic 59, 3) := by decide +kernel
theorem zd_L_law_191 : decode zc_L_law 191 = .ok (.istore 5, 2) := by decide +kernel
theorem zd_L_law_193 : decode zc_L_law 193 = .ok (.aload_n 2, 1) := by decide +kernel
theorem zd_L_law_194 : decode zc_L_law 194 = .ok (.aload_n 0, 1) := by decide +kernel
theorem zd_L_law_195 : decode zc_L_law 195 = .ok (.iload 4, 2) := by decide +kernel
theorem zd_L_law_197 : decode zc_L_law 197 = .ok (.iconst 1, 1) := by decide +kernel
theorem zd_L_law_198 : decode zc_L_law 198 = .ok (.iadd, 1) := by decide +kernel
theorem zd_L_law_199 : decode zc_L_law 199 = .ok (.iaload, 1) := by decide +kernel
theorem zd_L_law_200 : decode zc_L_law 200 = .ok (.invokevirtual 62, 3) := by decide +kernel
theorem zd_L_law_203 : decode zc_L_law 203 = .ok (.istore 6, 2) := by decide +kernel
theorem zd_L_law_205 : decode zc_L_law 205 = .ok (.aload_n 2, 1) := by decide +kernel
theorem zd_L_law_206 : decode zc_L_law 206 = .ok (.invokevirtual 55, 3) := by decide +kernel
theorem zd_L_law_209 : decode zc_L_law 209 = .ok (.iload 5, 2) := by decide +kernel
theorem zd_L_law_211 : decode zc_L_law 211 = .ok (.if_icmp .eq 5, 3) := by decide +kernel
theorem zd_L_law_214 : decode zc_L_law 214 = .ok (.iconst 0, 1) := by decide +kernel
theorem zd_L_law_215 : decode zc_L_law 215 = .ok (.ireturn, 1) := by decide +kernel
theorem zd_L_law_216 : decode zc_L_law 216 = .ok (.iload 5, 2) := by decide +kernel
theorem zd_L_law_218 : decode zc_L_law 218 = .ok (.ifCond .ne 15, 3) := by decide +kernel
theorem zd_L_law_221 : decode zc_L_law 221 = .ok (.aload_n 3, 1) := by decide +kernel
theorem zd_L_law_222 : decode zc_L_law 222 = .ok (.iconst 0, 1) := by decide +kernel
theorem zd_L_law_223 : decode zc_L_law 223 = .ok (.laload, 1) := by decide +kernel
theorem zd_L_law_224 : decode zc_L_law 224 = .ok (.iload 6, 2) := by decide +kernel
theorem zd_L_law_226 : decode zc_L_law 226 = .ok (.i2l, 1) := by decide +kernel
theorem zd_L_law_227 : decode zc_L_law 227 = .ok (.lcmp, 1) := by decide +kernel
theorem zd_L_law_228 : decode zc_L_law 228 = .ok (.ifCond .eq 5, 3) := by decide +kernel
theorem zd_L_law_231 : decode zc_L_law 231 = .ok (.iconst 0, 1) := by decide +kernel
theorem zd_L_law_232 : decode zc_L_law 232 = .ok (.ireturn, 1) := by decide +kernel
theorem zd_L_law_233 : decode zc_L_law 233 = .ok (.goto 419, 3) := by decide +kernel
theorem zd_L_law_236 : decode zc_L_law 236 = .ok (.aload_n 1, 1) := by decide +kernel
theorem zd_L_law_237 : decode zc_L_law 237 = .ok (.aload_n 0, 1) := by decide +kernel
theorem zd_L_law_238 : decode zc_L_law 238 = .ok (.iload 4, 2) := by decide +kernel
theorem zd_L_law_240 : decode zc_L_law 240 = .ok (.iconst 1, 1) := by decide +kernel
theorem zd_L_law_241 : decode zc_L_law 241 = .ok (.iadd, 1) := by decide +kernel
theorem zd_L_law_242 : decode zc_L_law 242 = .ok (.iaload, 1) := by decide +kernel
theorem zd_L_law_243 : decode zc_L_law 243 = .ok (.aload_n 3, 1) := by decide +kernel
theorem zd_L_law_244 : decode zc_L_law 244 = .ok (.invokestatic 63, 3) := by decide +kernel
theorem zd_L_law_247 : decode zc_L_law 247 = .ok (.istore 5, 2) := by decide +kernel
theorem zd_L_law_249 : decode zc_L_law 249 = .ok (.aload_n 2, 1) := by decide +kernel
theorem zd_L_law_250 : decode zc_L_law 250 = .ok (.aload_n 0, 1) := by decide +kernel
theorem zd_L_law_251 : decode zc_L_law 251 = .ok (.iload 4, 2) := by decide +kernel
theorem zd_L_law_253 : decode zc_L_law 253 = .ok (.iconst 1, 1) := by decide +kernel
theorem zd_L_law_254 : decode zc_L_law 254 = .ok (.iadd, 1) := by decide +kernel
theorem zd_L_law_255 : decode zc_L_law 255 = .ok (.iaload, 1) := by decide +kernel
theorem zd_L_law_256 : decode zc_L_law 256 = .ok (.invokevirtual 65, 3) := by decide +kernel
theorem zd_L_law_259 : decode zc_L_law 259 = .ok (.istore 6, 2) := by decide +kernel
theorem zd_L_law_261 : decode zc_L_law 261 = .ok (.aload_n 2, 1) := by decide +kernel
theorem zd_L_law_262 : decode zc_L_law 262 = .ok (.invokevirtual 55, 3) := by decide +kernel
theorem zd_L_law_265 : decode zc_L_law 265 = .ok (.iload 5, 2) := by decide +kernel
theorem zd_L_law_267 : decode zc_L_law 267 = .ok (.if_icmp .eq 5, 3) := by decide +kernel
theorem zd_L_law_270 : decode zc_L_law 270 = .ok (.iconst 0, 1) := by decide +kernel
theorem zd_L_law_271 : decode zc_L_law 271 = .ok (.ireturn, 1) := by decide +kernel
theorem zd_L_law_272 : decode zc_L_law 272 = .ok (.iload 5, 2) := by decide +kernel
theorem zd_L_law_274 : decode zc_L_law 274 = .ok (.ifCond .ne 15, 3) := by decide +kernel
theorem zd_L_law_277 : decode zc_L_law 277 = .ok (.aload_n 3, 1) := by decide +kernel
theorem zd_L_law_278 : decode zc_L_law 278 = .ok (.iconst 0, 1) := by decide +kernel
theorem zd_L_law_279 : decode zc_L_law 279 = .ok (.laload, 1) := by decide +kernel
theorem zd_L_law_280 : decode zc_L_law 280 = .ok (.iload 6, 2) := by decide +kernel
theorem zd_L_law_282 : decode zc_L_law 282 = .ok (.i2l, 1) := by decide +kernel
theorem zd_L_law_283 : decode zc_L_law 283 = .ok (.lcmp, 1) := by decide +kernel
theorem zd_L_law_284 : decode zc_L_law 284 = .ok (.ifCond .eq 5, 3) := by decide +kernel
theorem zd_L_law_287 : decode zc_L_law 287 = .ok (.iconst 0, 1) := by decide +kernel
theorem zd_L_law_288 : decode zc_L_law 288 = .ok (.ireturn, 1) := by decide +kernel
theorem zd_L_law_289 : decode zc_L_law 289 = .ok (.goto 363, 3) := by decide +kernel
theorem zd_L_law_292 : decode zc_L_law 292 = .ok (.aload_n 1, 1) := by decide +kernel
theorem zd_L_law_293 : decode zc_L_law 293 = .ok (.aload_n 0, 1) := by decide +kernel
theorem zd_L_law_294 : decode zc_L_law 294 = .ok (.iload 4, 2) := by decide +kernel
theorem zd_L_law_296 : decode zc_L_law 296 = .ok (.iconst 1, 1) := by decide +kernel
theorem zd_L_law_297 : decode zc_L_law 297 = .ok (.iadd, 1) := by decide +kernel
theorem zd_L_law_298 : decode zc_L_law 298 = .ok (.iaload, 1) := by decide +kernel
theorem zd_L_law_299 : decode zc_L_law 299 = .ok (.aload_n 3, 1) := by decide +kernel
theorem zd_L_law_300 : decode zc_L_law 300 = .ok (.invokestatic 66, 3) := by decide +kernel
theorem zd_L_law_303 : decode zc_L_law 303 = .ok (.istore 5, 2) := by decide +kernel
theorem zd_L_law_305 : decode zc_L_law 305 = .ok (.aload_n 2, 1) := by decide +kernel
theorem zd_L_law_306 : decode zc_L_law 306 = .ok (.aload_n 0, 1) := by decide +kernel
theorem zd_L_law_307 : decode zc_L_law 307 = .ok (.iload 4, 2) := by decide +kernel
theorem zd_L_law_309 : decode zc_L_law 309 = .ok (.iconst 1, 1) := by decide +kernel
theorem zd_L_law_310 : decode zc_L_law 310 = .ok (.iadd, 1) := by decide +kernel
theorem zd_L_law_311 : decode zc_L_law 311 = .ok (.iaload, 1) := by decide +kernel
theorem zd_L_law_312 : decode zc_L_law 312 = .ok (.invokevirtual 68, 3) := by decide +kernel
theorem zd_L_law_315 : decode zc_L_law 315 = .ok (.istore 6, 2) := by decide +kernel
theorem zd_L_law_317 : decode zc_L_law 317 = .ok (.aload_n 2, 1) := by decide +kernel
theorem zd_L_law_318 : decode zc_L_law 318 = .ok (.invokevirtual 55, 3) := by decide +kernel
theorem zd_L_law_321 : decode zc_L_law 321 = .ok (.iload 5, 2) := by decide +kernel
theorem zd_L_law_323 : decode zc_L_law 323 = .ok (.if_icmp .eq 5, 3) := by decide +kernel
theorem zd_L_law_326 : decode zc_L_law 326 = .ok (.iconst 0, 1) := by decide +kernel
theorem zd_L_law_327 : decode zc_L_law 327 = .ok (.ireturn, 1) := by decide +kernel
theorem zd_L_law_328 : decode zc_L_law 328 = .ok (.iload 5, 2) := by decide +kernel
theorem zd_L_law_330 : decode zc_L_law 330 = .ok (.ifCond .ne 15, 3) := by decide +kernel
theorem zd_L_law_333 : decode zc_L_law 333 = .ok (.aload_n 3, 1) := by decide +kernel
theorem zd_L_law_334 : decode zc_L_law 334 = .ok (.iconst 0, 1) := by decide +kernel
theorem zd_L_law_335 : decode zc_L_law 335 = .ok (.laload, 1) := by decide +kernel
theorem zd_L_law_336 : decode zc_L_law 336 = .ok (.iload 6, 2) := by decide +kernel
theorem zd_L_law_338 : decode zc_L_law 338 = .ok (.i2l, 1) := by decide +kernel
theorem zd_L_law_339 : decode zc_L_law 339 = .ok (.lcmp, 1) := by decide +kernel
theorem zd_L_law_340 : decode zc_L_law 340 = .ok (.ifCond .eq 5, 3) := by decide +kernel
theorem zd_L_law_343 : decode zc_L_law 343 = .ok (.iconst 0, 1) := by decide +kernel
theorem zd_L_law_344 : decode zc_L_law 344 = .ok (.ireturn, 1) := by decide +kernel
theorem zd_L_law_345 : decode zc_L_law 345 = .ok (.goto 307, 3) := by decide +kernel
theorem zd_L_law_348 : decode zc_L_law 348 = .ok (.aload_n 1, 1) := by decide +kernel
theorem zd_L_law_349 : decode zc_L_law 349 = .ok (.aload_n 0, 1) := by decide +kernel
theorem zd_L_law_350 : decode zc_L_law 350 = .ok (.iload 4, 2) := by decide +kernel
theorem zd_L_law_352 : decode zc_L_law 352 = .ok (.iconst 1, 1) := by decide +kernel
theorem zd_L_law_353 : decode zc_L_law 353 = .ok (.iadd, 1) := by decide +kernel
theorem zd_L_law_354 : decode zc_L_law 354 = .ok (.iaload, 1) := by decide +kernel
theorem zd_L_law_355 : decode zc_L_law 355 = .ok (.aload_n 3, 1) := by decide +kernel
theorem zd_L_law_356 : decode zc_L_law 356 = .ok (.invokestatic 69, 3) := by decide +kernel
theorem zd_L_law_359 : decode zc_L_law 359 = .ok (.istore 5, 2) := by decide +kernel
theorem zd_L_law_361 : decode zc_L_law 361 = .ok (.aload_n 2, 1) := by decide +kernel
theorem zd_L_law_362 : decode zc_L_law 362 = .ok (.aload_n 0, 1) := by decide +kernel
theorem zd_L_law_363 : decode zc_L_law 363 = .ok (.iload 4, 2) := by decide +kernel
theorem zd_L_law_365 : decode zc_L_law 365 = .ok (.iconst 1, 1) := by decide +kernel
theorem zd_L_law_366 : decode zc_L_law 366 = .ok (.iadd, 1) := by decide +kernel
theorem zd_L_law_367 : decode zc_L_law 367 = .ok (.iaload, 1) := by decide +kernel
theorem zd_L_law_368 : decode zc_L_law 368 = .ok (.invokevirtual 71, 3) := by decide +kernel
theorem zd_L_law_371 : decode zc_L_law 371 = .ok (.istore 6, 2) := by decide +kernel
theorem zd_L_law_373 : decode zc_L_law 373 = .ok (.aload_n 2, 1) := by decide +kernel
theorem zd_L_law_374 : decode zc_L_law 374 = .ok (.invokevirtual 55, 3) := by decide +kernel
theorem zd_L_law_377 : decode zc_L_law 377 = .ok (.iload 5, 2) := by decide +kernel
theorem zd_L_law_379 : decode zc_L_law 379 = .ok (.if_icmp .eq 5, 3) := by decide +kernel
theorem zd_L_law_382 : decode zc_L_law 382 = .ok (.iconst 0, 1) := by decide +kernel
theorem zd_L_law_383 : decode zc_L_law 383 = .ok (.ireturn, 1) := by decide +kernel
theorem zd_L_law_384 : decode zc_L_law 384 = .ok (.iload 5, 2) := by decide +kernel
theorem zd_L_law_386 : decode zc_L_law 386 = .ok (.ifCond .ne 15, 3) := by decide +kernel
theorem zd_L_law_389 : decode zc_L_law 389 = .ok (.aload_n 3, 1) := by decide +kernel
theorem zd_L_law_390 : decode zc_L_law 390 = .ok (.iconst 0, 1) := by decide +kernel
theorem zd_L_law_391 : decode zc_L_law 391 = .ok (.laload, 1) := by decide +kernel
theorem zd_L_law_392 : decode zc_L_law 392 = .ok (.iload 6, 2) := by decide +kernel
theorem zd_L_law_394 : decode zc_L_law 394 = .ok (.i2l, 1) := by decide +kernel
theorem zd_L_law_395 : decode zc_L_law 395 = .ok (.lcmp, 1) := by decide +kernel
theorem zd_L_law_396 : decode zc_L_law 396 = .ok (.ifCond .eq 5, 3) := by decide +kernel
theorem zd_L_law_399 : decode zc_L_law 399 = .ok (.iconst 0, 1) := by decide +kernel
theorem zd_L_law_400 : decode zc_L_law 400 = .ok (.ireturn, 1) := by decide +kernel
theorem zd_L_law_401 : decode zc_L_law 401 = .ok (.goto 251, 3) := by decide +kernel
theorem zd_L_law_404 : decode zc_L_law 404 = .ok (.aload_n 1, 1) := by decide +kernel
theorem zd_L_law_405 : decode zc_L_law 405 = .ok (.aload_n 0, 1) := by decide +kernel
theorem zd_L_law_406 : decode zc_L_law 406 = .ok (.iload 4, 2) := by decide +kernel
theorem zd_L_law_408 : decode zc_L_law 408 = .ok (.iconst 1, 1) := by decide +kernel
theorem zd_L_law_409 : decode zc_L_law 409 = .ok (.iadd, 1) := by decide +kernel
theorem zd_L_law_410 : decode zc_L_law 410 = .ok (.iaload, 1) := by decide +kernel
theorem zd_L_law_411 : decode zc_L_law 411 = .ok (.aload_n 0, 1) := by decide +kernel
theorem zd_L_law_412 : decode zc_L_law 412 = .ok (.iload 4, 2) := by decide +kernel
theorem zd_L_law_414 : decode zc_L_law 414 = .ok (.iconst 2, 1) := by decide +kernel
theorem zd_L_law_415 : decode zc_L_law 415 = .ok (.iadd, 1) := by decide +kernel
theorem zd_L_law_416 : decode zc_L_law 416 = .ok (.iaload, 1) := by decide +kernel
theorem zd_L_law_417 : decode zc_L_law 417 = .ok (.aload_n 3, 1) := by decide +kernel
theorem zd_L_law_418 : decode zc_L_law 418 = .ok (.invokestatic 72, 3) := by decide +kernel
theorem zd_L_law_421 : decode zc_L_law 421 = .ok (.istore 5, 2) := by decide +kernel
theorem zd_L_law_423 : decode zc_L_law 423 = .ok (.aload_n 2, 1) := by decide +kernel
theorem zd_L_law_424 : decode zc_L_law 424 = .ok (.aload_n 0, 1) := by decide +kernel
theorem zd_L_law_425 : decode zc_L_law 425 = .ok (.iload 4, 2) := by decide +kernel
theorem zd_L_law_427 : decode zc_L_law 427 = .ok (.iconst 1, 1) := by decide +kernel
theorem zd_L_law_428 : decode zc_L_law 428 = .ok (.iadd, 1) := by decide +kernel
theorem zd_L_law_429 : decode zc_L_law 429 = .ok (.iaload, 1) := by decide +kernel
theorem zd_L_law_430 : decode zc_L_law 430 = .ok (.aload_n 0, 1) := by decide +kernel
theorem zd_L_law_431 : decode zc_L_law 431 = .ok (.iload 4, 2) := by decide +kernel
theorem zd_L_law_433 : decode zc_L_law 433 = .ok (.iconst 2, 1) := by decide +kernel
theorem zd_L_law_434 : decode zc_L_law 434 = .ok (.iadd, 1) := by decide +kernel
theorem zd_L_law_435 : decode zc_L_law 435 = .ok (.iaload, 1) := by decide +kernel
theorem zd_L_law_436 : decode zc_L_law 436 = .ok (.invokevirtual 75, 3) := by decide +kernel
theorem zd_L_law_439 : decode zc_L_law 439 = .ok (.istore 6, 2) := by decide +kernel
theorem zd_L_law_441 : decode zc_L_law 441 = .ok (.aload_n 2, 1) := by decide +kernel
theorem zd_L_law_442 : decode zc_L_law 442 = .ok (.invokevirtual 55, 3) := by decide +kernel
theorem zd_L_law_445 : decode zc_L_law 445 = .ok (.iload 5, 2) := by decide +kernel
theorem zd_L_law_447 : decode zc_L_law 447 = .ok (.if_icmp .eq 5, 3) := by decide +kernel
theorem zd_L_law_450 : decode zc_L_law 450 = .ok (.iconst 0, 1) := by decide +kernel
theorem zd_L_law_451 : decode zc_L_law 451 = .ok (.ireturn, 1) := by decide +kernel
theorem zd_L_law_452 : decode zc_L_law 452 = .ok (.iload 5, 2) := by decide +kernel
theorem zd_L_law_454 : decode zc_L_law 454 = .ok (.ifCond .ne 15, 3) := by decide +kernel
theorem zd_L_law_457 : decode zc_L_law 457 = .ok (.aload_n 3, 1) := by decide +kernel
theorem zd_L_law_458 : decode zc_L_law 458 = .ok (.iconst 0, 1) := by decide +kernel
theorem zd_L_law_459 : decode zc_L_law 459 = .ok (.laload, 1) := by decide +kernel
theorem zd_L_law_460 : decode zc_L_law 460 = .ok (.iload 6, 2) := by decide +kernel
theorem zd_L_law_462 : decode zc_L_law 462 = .ok (.i2l, 1) := by decide +kernel
theorem zd_L_law_463 : decode zc_L_law 463 = .ok (.lcmp, 1) := by decide +kernel
theorem zd_L_law_464 : decode zc_L_law 464 = .ok (.ifCond .eq 5, 3) := by decide +kernel
theorem zd_L_law_467 : decode zc_L_law 467 = .ok (.iconst 0, 1) := by decide +kernel
theorem zd_L_law_468 : decode zc_L_law 468 = .ok (.ireturn, 1) := by decide +kernel
theorem zd_L_law_469 : decode zc_L_law 469 = .ok (.goto 183, 3) := by decide +kernel
theorem zd_L_law_472 : decode zc_L_law 472 = .ok (.aload_n 1, 1) := by decide +kernel
theorem zd_L_law_473 : decode zc_L_law 473 = .ok (.aload_n 0, 1) := by decide +kernel
theorem zd_L_law_474 : decode zc_L_law 474 = .ok (.iload 4, 2) := by decide +kernel
theorem zd_L_law_476 : decode zc_L_law 476 = .ok (.iconst 1, 1) := by decide +kernel
theorem zd_L_law_477 : decode zc_L_law 477 = .ok (.iadd, 1) := by decide +kernel
theorem zd_L_law_478 : decode zc_L_law 478 = .ok (.iaload, 1) := by decide +kernel
theorem zd_L_law_479 : decode zc_L_law 479 = .ok (.aload_n 3, 1) := by decide +kernel
theorem zd_L_law_480 : decode zc_L_law 480 = .ok (.invokestatic 76, 3) := by decide +kernel
theorem zd_L_law_483 : decode zc_L_law 483 = .ok (.istore 5, 2) := by decide +kernel
theorem zd_L_law_485 : decode zc_L_law 485 = .ok (.aload_n 2, 1) := by decide +kernel
theorem zd_L_law_486 : decode zc_L_law 486 = .ok (.aload_n 0, 1) := by decide +kernel
theorem zd_L_law_487 : decode zc_L_law 487 = .ok (.iload 4, 2) := by decide +kernel
theorem zd_L_law_489 : decode zc_L_law 489 = .ok (.iconst 1, 1) := by decide +kernel
theorem zd_L_law_490 : decode zc_L_law 490 = .ok (.iadd, 1) := by decide +kernel
theorem zd_L_law_491 : decode zc_L_law 491 = .ok (.iaload, 1) := by decide +kernel
theorem zd_L_law_492 : decode zc_L_law 492 = .ok (.invokevirtual 78, 3) := by decide +kernel
theorem zd_L_law_495 : decode zc_L_law 495 = .ok (.istore 6, 2) := by decide +kernel
theorem zd_L_law_497 : decode zc_L_law 497 = .ok (.aload_n 2, 1) := by decide +kernel
theorem zd_L_law_498 : decode zc_L_law 498 = .ok (.invokevirtual 55, 3) := by decide +kernel
theorem zd_L_law_501 : decode zc_L_law 501 = .ok (.iload 5, 2) := by decide +kernel
theorem zd_L_law_503 : decode zc_L_law 503 = .ok (.if_icmp .eq 5, 3) := by decide +kernel
theorem zd_L_law_506 : decode zc_L_law 506 = .ok (.iconst 0, 1) := by decide +kernel
theorem zd_L_law_507 : decode zc_L_law 507 = .ok (.ireturn, 1) := by decide +kernel
theorem zd_L_law_508 : decode zc_L_law 508 = .ok (.iload 5, 2) := by decide +kernel
theorem zd_L_law_510 : decode zc_L_law 510 = .ok (.ifCond .ne 15, 3) := by decide +kernel
theorem zd_L_law_513 : decode zc_L_law 513 = .ok (.aload_n 3, 1) := by decide +kernel
theorem zd_L_law_514 : decode zc_L_law 514 = .ok (.iconst 0, 1) := by decide +kernel
theorem zd_L_law_515 : decode zc_L_law 515 = .ok (.laload, 1) := by decide +kernel
theorem zd_L_law_516 : decode zc_L_law 516 = .ok (.iload 6, 2) := by decide +kernel
theorem zd_L_law_518 : decode zc_L_law 518 = .ok (.i2l, 1) := by decide +kernel
theorem zd_L_law_519 : decode zc_L_law 519 = .ok (.lcmp, 1) := by decide +kernel
theorem zd_L_law_520 : decode zc_L_law 520 = .ok (.ifCond .eq 5, 3) := by decide +kernel
theorem zd_L_law_523 : decode zc_L_law 523 = .ok (.iconst 0, 1) := by decide +kernel
theorem zd_L_law_524 : decode zc_L_law 524 = .ok (.ireturn, 1) := by decide +kernel
theorem zd_L_law_525 : decode zc_L_law 525 = .ok (.goto 127, 3) := by decide +kernel
theorem zd_L_law_528 : decode zc_L_law 528 = .ok (.aload_n 1, 1) := by decide +kernel
theorem zd_L_law_529 : decode zc_L_law 529 = .ok (.aload_n 0, 1) := by decide +kernel
theorem zd_L_law_530 : decode zc_L_law 530 = .ok (.iload 4, 2) := by decide +kernel
theorem zd_L_law_532 : decode zc_L_law 532 = .ok (.iconst 1, 1) := by decide +kernel
theorem zd_L_law_533 : decode zc_L_law 533 = .ok (.iadd, 1) := by decide +kernel
theorem zd_L_law_534 : decode zc_L_law 534 = .ok (.iaload, 1) := by decide +kernel
theorem zd_L_law_535 : decode zc_L_law 535 = .ok (.aload_n 3, 1) := by decide +kernel
theorem zd_L_law_536 : decode zc_L_law 536 = .ok (.invokestatic 79, 3) := by decide +kernel
theorem zd_L_law_539 : decode zc_L_law 539 = .ok (.istore 5, 2) := by decide +kernel
theorem zd_L_law_541 : decode zc_L_law 541 = .ok (.aload_n 2, 1) := by decide +kernel
theorem zd_L_law_542 : decode zc_L_law 542 = .ok (.aload_n 0, 1) := by decide +kernel
theorem zd_L_law_543 : decode zc_L_law 543 = .ok (.iload 4, 2) := by decide +kernel
theorem zd_L_law_545 : decode zc_L_law 545 = .ok (.iconst 1, 1) := by decide +kernel
theorem zd_L_law_546 : decode zc_L_law 546 = .ok (.iadd, 1) := by decide +kernel
theorem zd_L_law_547 : decode zc_L_law 547 = .ok (.iaload, 1) := by decide +kernel
theorem zd_L_law_548 : decode zc_L_law 548 = .ok (.invokevirtual 81, 3) := by decide +kernel
theorem zd_L_law_551 : decode zc_L_law 551 = .ok (.istore 6, 2) := by decide +kernel
theorem zd_L_law_553 : decode zc_L_law 553 = .ok (.aload_n 2, 1) := by decide +kernel
theorem zd_L_law_554 : decode zc_L_law 554 = .ok (.invokevirtual 55, 3) := by decide +kernel
theorem zd_L_law_557 : decode zc_L_law 557 = .ok (.iload 5, 2) := by decide +kernel
theorem zd_L_law_559 : decode zc_L_law 559 = .ok (.if_icmp .eq 5, 3) := by decide +kernel
theorem zd_L_law_562 : decode zc_L_law 562 = .ok (.iconst 0, 1) := by decide +kernel
theorem zd_L_law_563 : decode zc_L_law 563 = .ok (.ireturn, 1) := by decide +kernel
theorem zd_L_law_564 : decode zc_L_law 564 = .ok (.iload 5, 2) := by decide +kernel
theorem zd_L_law_566 : decode zc_L_law 566 = .ok (.ifCond .ne 15, 3) := by decide +kernel
theorem zd_L_law_569 : decode zc_L_law 569 = .ok (.aload_n 3, 1) := by decide +kernel
theorem zd_L_law_570 : decode zc_L_law 570 = .ok (.iconst 0, 1) := by decide +kernel
theorem zd_L_law_571 : decode zc_L_law 571 = .ok (.laload, 1) := by decide +kernel
theorem zd_L_law_572 : decode zc_L_law 572 = .ok (.iload 6, 2) := by decide +kernel
theorem zd_L_law_574 : decode zc_L_law 574 = .ok (.i2l, 1) := by decide +kernel
theorem zd_L_law_575 : decode zc_L_law 575 = .ok (.lcmp, 1) := by decide +kernel
theorem zd_L_law_576 : decode zc_L_law 576 = .ok (.ifCond .eq 5, 3) := by decide +kernel
theorem zd_L_law_579 : decode zc_L_law 579 = .ok (.iconst 0, 1) := by decide +kernel
theorem zd_L_law_580 : decode zc_L_law 580 = .ok (.ireturn, 1) := by decide +kernel
theorem zd_L_law_581 : decode zc_L_law 581 = .ok (.goto 71, 3) := by decide +kernel
theorem zd_L_law_584 : decode zc_L_law 584 = .ok (.aload_n 1, 1) := by decide +kernel
theorem zd_L_law_585 : decode zc_L_law 585 = .ok (.aload_n 0, 1) := by decide +kernel
theorem zd_L_law_586 : decode zc_L_law 586 = .ok (.iload 4, 2) := by decide +kernel
theorem zd_L_law_588 : decode zc_L_law 588 = .ok (.iconst 1, 1) := by decide +kernel
theorem zd_L_law_589 : decode zc_L_law 589 = .ok (.iadd, 1) := by decide +kernel
theorem zd_L_law_590 : decode zc_L_law 590 = .ok (.iaload, 1) := by decide +kernel
theorem zd_L_law_591 : decode zc_L_law 591 = .ok (.aload_n 0, 1) := by decide +kernel
theorem zd_L_law_592 : decode zc_L_law 592 = .ok (.iload 4, 2) := by decide +kernel
theorem zd_L_law_594 : decode zc_L_law 594 = .ok (.iconst 2, 1) := by decide +kernel
theorem zd_L_law_595 : decode zc_L_law 595 = .ok (.iadd, 1) := by decide +kernel
theorem zd_L_law_596 : decode zc_L_law 596 = .ok (.iaload, 1) := by decide +kernel
theorem zd_L_law_597 : decode zc_L_law 597 = .ok (.aload_n 3, 1) := by decide +kernel
theorem zd_L_law_598 : decode zc_L_law 598 = .ok (.invokestatic 82, 3) := by decide +kernel
theorem zd_L_law_601 : decode zc_L_law 601 = .ok (.istore 5, 2) := by decide +kernel
theorem zd_L_law_603 : decode zc_L_law 603 = .ok (.aload_n 2, 1) := by decide +kernel
theorem zd_L_law_604 : decode zc_L_law 604 = .ok (.aload_n 0, 1) := by decide +kernel
theorem zd_L_law_605 : decode zc_L_law 605 = .ok (.iload 4, 2) := by decide +kernel
theorem zd_L_law_607 : decode zc_L_law 607 = .ok (.iconst 1, 1) := by decide +kernel
theorem zd_L_law_608 : decode zc_L_law 608 = .ok (.iadd, 1) := by decide +kernel
theorem zd_L_law_609 : decode zc_L_law 609 = .ok (.iaload, 1) := by decide +kernel
theorem zd_L_law_610 : decode zc_L_law 610 = .ok (.aload_n 0, 1) := by decide +kernel
theorem zd_L_law_611 : decode zc_L_law 611 = .ok (.iload 4, 2) := by decide +kernel
theorem zd_L_law_613 : decode zc_L_law 613 = .ok (.iconst 2, 1) := by decide +kernel
theorem zd_L_law_614 : decode zc_L_law 614 = .ok (.iadd, 1) := by decide +kernel
theorem zd_L_law_615 : decode zc_L_law 615 = .ok (.iaload, 1) := by decide +kernel
theorem zd_L_law_616 : decode zc_L_law 616 = .ok (.invokevirtual 84, 3) := by decide +kernel
theorem zd_L_law_619 : decode zc_L_law 619 = .ok (.istore 6, 2) := by decide +kernel
theorem zd_L_law_621 : decode zc_L_law 621 = .ok (.aload_n 2, 1) := by decide +kernel
theorem zd_L_law_622 : decode zc_L_law 622 = .ok (.invokevirtual 55, 3) := by decide +kernel
theorem zd_L_law_625 : decode zc_L_law 625 = .ok (.iload 5, 2) := by decide +kernel
theorem zd_L_law_627 : decode zc_L_law 627 = .ok (.if_icmp .eq 5, 3) := by decide +kernel
theorem zd_L_law_630 : decode zc_L_law 630 = .ok (.iconst 0, 1) := by decide +kernel
theorem zd_L_law_631 : decode zc_L_law 631 = .ok (.ireturn, 1) := by decide +kernel
theorem zd_L_law_632 : decode zc_L_law 632 = .ok (.iload 5, 2) := by decide +kernel
theorem zd_L_law_634 : decode zc_L_law 634 = .ok (.ifCond .ne 15, 3) := by decide +kernel
theorem zd_L_law_637 : decode zc_L_law 637 = .ok (.aload_n 3, 1) := by decide +kernel
theorem zd_L_law_638 : decode zc_L_law 638 = .ok (.iconst 0, 1) := by decide +kernel
theorem zd_L_law_639 : decode zc_L_law 639 = .ok (.laload, 1) := by decide +kernel
theorem zd_L_law_640 : decode zc_L_law 640 = .ok (.iload 6, 2) := by decide +kernel
theorem zd_L_law_642 : decode zc_L_law 642 = .ok (.i2l, 1) := by decide +kernel
theorem zd_L_law_643 : decode zc_L_law 643 = .ok (.lcmp, 1) := by decide +kernel
theorem zd_L_law_644 : decode zc_L_law 644 = .ok (.ifCond .eq 5, 3) := by decide +kernel
theorem zd_L_law_647 : decode zc_L_law 647 = .ok (.iconst 0, 1) := by decide +kernel
theorem zd_L_law_648 : decode zc_L_law 648 = .ok (.ireturn, 1) := by decide +kernel
theorem zd_L_law_649 : decode zc_L_law 649 = .ok (.goto 3, 3) := by decide +kernel
theorem zd_L_law_652 : decode zc_L_law 652 = .ok (.iinc 4 5, 3) := by decide +kernel
theorem zd_L_law_655 : decode zc_L_law 655 = .ok (.goto (-632), 3) := by decide +kernel
theorem zd_L_law_658 : decode zc_L_law 658 = .ok (.iconst 1, 1) := by decide +kernel
theorem zd_L_law_659 : decode zc_L_law 659 = .ok (.ireturn, 1) := by decide +kernel
set_option maxHeartbeats 4000000 in
set_option maxRecDepth 100000 in
theorem zs_put_N {k : GC} {l : Launch} (hl : l.stackTraces = false) {D : va_G} {cB cI cJ : ClassId} (F : GF k l room_1 zc_L_law 7 RL D cB cI cJ) (X : XF k) {sc Ls : Nat} {xs : Nat → Int32} (S : SX k sc Ls xs) {cells slots : Nat} (hf : cells ≤ room_1.cells ∧ slots ≤ room_1.slots) (xa : Nat) (qa : Nat) (qb : Nat) (sa : Nat) (sb : Nat) (pa : Nat) (pb : Nat) (da : Nat) (db : Nat) (ka : Nat) (ha : Nat) (ta : Nat) (wa : Nat) (va : Nat) (hb : Nat) (hc : Nat) (ea : Nat) (ua : Nat) (ma : Nat) (mb : Nat) (mz : Nat) (mh : Nat) (me : Nat) (oa : Nat) (qn : Int32) (qf : Nat → Int32) (sn : Int32) (sf : Nat → Int32) (pn : Int32) (pf : Nat → Int32) (dn : Int32) (df : Nat → Int32) (tf : Nat → Int32) (an : Int32) (mt : Int32) (co : Int32) (ra : Int32) (rr : Int32) (zra : Int32) (zrr : Int32) (zrp : Int32) (th : Int32) (mf : Nat → Int32) (sz : Nat → Int32) (mc : Int32) (cp : Int32) (hi : Nat → Int32) (bg : Int32) (en : Int32) (tb : Nat → Int32) (ou : Int32) (mp : Int32) (fa : Int32) (ox : Nat → Int64) (i : Int32) (g1 : ¬ ((i + (1 : Int32)) < 0 ∨ Ls ≤ Int32.toNatClampNeg (i + (1 : Int32)))) (g2 : ¬ ((i + (2 : Int32)) < 0 ∨ Ls ≤ Int32.toNatClampNeg (i + (2 : Int32)))) (g3 : ¬ ((i + (3 : Int32)) < 0 ∨ Ls ≤ Int32.toNatClampNeg (i + (3 : Int32)))) (g4 : ¬ ((i + (4 : Int32)) < 0 ∨ Ls ≤ Int32.toNatClampNeg (i + (4 : Int32)))) (qn' : Int32) (qf' : Nat → Int32) (sn' : Int32) (sf' : Nat → Int32) (pn' : Int32) (pf' : Nat → Int32) (mf' : Nat → Int32) (sz' : Nat → Int32) (h1 : zf_L_put qn qf sn sf pn pf (xs (Int32.toNatClampNeg (i + (1 : Int32)))) ((lshl ((xs (Int32.toNatClampNeg (i + (2 : Int32)))).toInt64) (32 : Int32)) ||| (((xs (Int32.toNatClampNeg (i + (3 : Int32)))).toInt64) &&& (4294967295 : Int64))) (xs (Int32.toNatClampNeg (i + (4 : Int32)))) = some ((0 : Int32), qn', qf', sn', sf', pn', pf')) (h2 : zf_M_put mf sz (xs (Int32.toNatClampNeg (i + (1 : Int32)))) ((lshl ((xs (Int32.toNatClampNeg (i + (2 : Int32)))).toInt64) (32 : Int32)) ||| (((xs (Int32.toNatClampNeg (i + (3 : Int32)))).toInt64) &&& (4294967295 : Int64))) (xs (Int32.toNatClampNeg (i + (4 : Int32)))) = some ((0 : Int32), mf', sz')) (kk : G D 7 k cells slots 652 [(0, .ref sc), (1, .ref xa), (2, .ref ma), (3, .ref oa), (4, .int i)] [] [(xa, .inr (7, [.ref qa, .ref sa, .ref pa, .ref da, .ref ka, .ref wa, .ref va, .ref ea, .ref ua])), (qa, .inr (4, [.ref qb, .int qn'])), (qb, .inl (cB, 160, .inl qf')), (sa, .inr (4, [.ref sb, .int sn'])), (sb, .inl (cB, 200, .inl sf')), (pa, .inr (4, [.ref pb, .int pn'])), (pb, .inl (cB, 64, .inl pf')), (da, .inr (4, [.ref db, .int dn])), (db, .inl (cB, 160, .inl df)), (ha, .inr (2, [.ref pa, .ref qa])), (ka, .inr (3, [.ref pa, .ref qa, .ref ha, .ref ta, .int an, .int mt, .int co])), (ta, .inl (cI, 32, .inl tf)), (wa, .inr (6, [.ref qa, .ref sa])), (va, .inr (1, [.ref qa, .ref sa])), (hb, .inr (2, [.ref pa, .ref da])), (hc, .inr (2, [.ref pa, .ref da])), (ea, .inr (5, [.ref sa, .ref da, .ref hb, .int ra, .int rr])), (ua, .inr (0, [.ref sa, .ref da, .ref hc, .int zra, .int zrr, .int zrp])), (ma, .inr (8, [.int (0 : Int32), .ref mb, .ref mz, .int mc, .int cp, .ref mh, .int bg, .int en, .ref me, .int ou, .int mp, .int fa])), (mb, .inl (cI, 600, .inl mf')), (mz, .inl (cI, 3, .inl sz')), (mh, .inl (cI, 224, .inl hi)), (me, .inl (cI, 32, .inl tb)), (oa, .inl (cJ, 1, .inr (.inl ox)))]) : G D 7 k cells slots 88 [(0, .ref sc), (1, .ref xa), (2, .ref ma), (3, .ref oa), (4, .int i)] [] [(xa, .inr (7, [.ref qa, .ref sa, .ref pa, .ref da, .ref ka, .ref wa, .ref va, .ref ea, .ref ua])), (qa, .inr (4, [.ref qb, .int qn])), (qb, .inl (cB, 160, .inl qf)), (sa, .inr (4, [.ref sb, .int sn])), (sb, .inl (cB, 200, .inl sf)), (pa, .inr (4, [.ref pb, .int pn])), (pb, .inl (cB, 64, .inl pf)), (da, .inr (4, [.ref db, .int dn])), (db, .inl (cB, 160, .inl df)), (ha, .inr (2, [.ref pa, .ref qa])), (ka, .inr (3, [.ref pa, .ref qa, .ref ha, .ref ta, .int an, .int mt, .int co])), (ta, .inl (cI, 32, .inl tf)), (wa, .inr (6, [.ref qa, .ref sa])), (va, .inr (1, [.ref qa, .ref sa])), (hb, .inr (2, [.ref pa, .ref da])), (hc, .inr (2, [.ref pa, .ref da])), (ea, .inr (5, [.ref sa, .ref da, .ref hb, .int ra, .int rr])), (ua, .inr (0, [.ref sa, .ref da, .ref hc, .int zra, .int zrr, .int zrp])), (ma, .inr (8, [.int th, .ref mb, .ref mz, .int mc, .int cp, .ref mh, .int bg, .int en, .ref me, .int ou, .int mp, .int fa])), (mb, .inl (cI, 600, .inl mf)), (mz, .inl (cI, 3, .inl sz)), (mh, .inl (cI, 224, .inl hi)), (me, .inl (cI, 32, .inl tb)), (oa, .inl (cJ, 1, .inr (.inl ox)))] := by
  refine G_aload_n F zd_L_law_88 rfl (j := 1) rfl ?_
  refine G_aload_n F zd_L_law_89 rfl (j := 0) rfl ?_
  refine G_iload F zd_L_law_90 (j := 4) rfl ?_
  refine G_iconst (v := (1 : Int32)) F zd_L_law_92 (by decide) ?_
  refine G_iadd F zd_L_law_93 ?_
  refine G_sld F S zd_L_law_94 g1 ?_
  refine G_aload_n F zd_L_law_95 rfl (j := 0) rfl ?_
  refine G_iload F zd_L_law_96 (j := 4) rfl ?_
  refine G_iconst (v := (2 : Int32)) F zd_L_law_98 (by decide) ?_
  refine G_iadd F zd_L_law_99 ?_
  refine G_sld F S zd_L_law_100 g2 ?_
  refine G_i2l F zd_L_law_101 ?_
  refine G_bipush (v := (32 : Int32)) F zd_L_law_102 (by decide) ?_
  refine G_lshl F zd_L_law_104 ?_
  refine G_aload_n F zd_L_law_105 rfl (j := 0) rfl ?_
  refine G_iload F zd_L_law_106 (j := 4) rfl ?_
  refine G_iconst (v := (3 : Int32)) F zd_L_law_108 (by decide) ?_
  refine G_iadd F zd_L_law_109 ?_
  refine G_sld F S zd_L_law_110 g3 ?_
  refine G_i2l F zd_L_law_111 ?_
  refine G_ldc2 (v := (4294967295 : Int64)) F aw_629 zd_L_law_112 ?_
  refine G_land F zd_L_law_115 ?_
  refine G_lor F zd_L_law_116 ?_
  refine G_aload_n F zd_L_law_117 rfl (j := 0) rfl ?_
  refine G_iload F zd_L_law_118 (j := 4) rfl ?_
  refine G_iconst (v := (4 : Int32)) F zd_L_law_120 (by decide) ?_
  refine G_iadd F zd_L_law_121 ?_
  refine G_sld F S zd_L_law_122 g4 ?_
  refine G_calliW F (zk_L_put l D cB cI cJ xa qa qb sa sb pa pb da db ka ha ta wa va hb hc ea ua qn qf sn sf pn pf dn df tf an mt co ra rr zra zrr zrp (xs (Int32.toNatClampNeg (i + (1 : Int32)))) ((lshl ((xs (Int32.toNatClampNeg (i + (2 : Int32)))).toInt64) (32 : Int32)) ||| (((xs (Int32.toNatClampNeg (i + (3 : Int32)))).toInt64) &&& (4294967295 : Int64))) (xs (Int32.toNatClampNeg (i + (4 : Int32)))) (0 : Int32) qn' qf' sn' sf' pn' pf' h1) (rest := []) [0, 1, 2, 3, 4, 5, 6, 7, 8, 9, 10, 11, 12, 13, 14, 15, 16, 17] rfl rfl rfl (ws' := [(xa, .inr (7, [.ref qa, .ref sa, .ref pa, .ref da, .ref ka, .ref wa, .ref va, .ref ea, .ref ua])), (qa, .inr (4, [.ref qb, .int qn'])), (qb, .inl (cB, 160, .inl qf')), (sa, .inr (4, [.ref sb, .int sn'])), (sb, .inl (cB, 200, .inl sf')), (pa, .inr (4, [.ref pb, .int pn'])), (pb, .inl (cB, 64, .inl pf')), (da, .inr (4, [.ref db, .int dn])), (db, .inl (cB, 160, .inl df)), (ha, .inr (2, [.ref pa, .ref qa])), (ka, .inr (3, [.ref pa, .ref qa, .ref ha, .ref ta, .int an, .int mt, .int co])), (ta, .inl (cI, 32, .inl tf)), (wa, .inr (6, [.ref qa, .ref sa])), (va, .inr (1, [.ref qa, .ref sa])), (hb, .inr (2, [.ref pa, .ref da])), (hc, .inr (2, [.ref pa, .ref da])), (ea, .inr (5, [.ref sa, .ref da, .ref hb, .int ra, .int rr])), (ua, .inr (0, [.ref sa, .ref da, .ref hc, .int zra, .int zrr, .int zrp])), (ma, .inr (8, [.int th, .ref mb, .ref mz, .int mc, .int cp, .ref mh, .int bg, .int en, .ref me, .int ou, .int mp, .int fa])), (mb, .inl (cI, 600, .inl mf)), (mz, .inl (cI, 3, .inl sz)), (mh, .inl (cI, 224, .inl hi)), (me, .inl (cI, 32, .inl tb)), (oa, .inl (cJ, 1, .inr (.inl ox)))]) (by simp only [setsW, List.set]) cl_L_49 rfl rfl ⟨Nat.le_of_ble_eq_true rfl, Nat.le_of_ble_eq_true rfl⟩ hf rfl (Nat.le_of_ble_eq_true rfl) zd_L_law_123 rfl ?_
  refine G_istore F zd_L_law_126 (by decide) (L' := [(5, .int (0 : Int32)), (0, .ref sc), (1, .ref xa), (2, .ref ma), (3, .ref oa), (4, .int i)]) rfl ?_
  refine G_aload_n F zd_L_law_128 rfl (j := 3) rfl ?_
  refine G_aload_n F zd_L_law_129 rfl (j := 1) rfl ?_
  refine G_iload F zd_L_law_130 (j := 5) rfl ?_
  refine G_iconst (v := (1 : Int32)) F zd_L_law_132 (by decide) ?_
  refine G_iadd F zd_L_law_133 ?_
  refine G_sld F S zd_L_law_134 g1 ?_
  refine G_aload_n F zd_L_law_135 rfl (j := 1) rfl ?_
  refine G_iload F zd_L_law_136 (j := 5) rfl ?_
  refine G_iconst (v := (2 : Int32)) F zd_L_law_138 (by decide) ?_
  refine G_iadd F zd_L_law_139 ?_
  refine G_sld F S zd_L_law_140 g2 ?_
  refine G_i2l F zd_L_law_141 ?_
  refine G_bipush (v := (32 : Int32)) F zd_L_law_142 (by decide) ?_
  refine G_lshl F zd_L_law_144 ?_
  refine G_aload_n F zd_L_law_145 rfl (j := 1) rfl ?_
  refine G_iload F zd_L_law_146 (j := 5) rfl ?_
  refine G_iconst (v := (3 : Int32)) F zd_L_law_148 (by decide) ?_
  refine G_iadd F zd_L_law_149 ?_
  refine G_sld F S zd_L_law_150 g3 ?_
  refine G_i2l F zd_L_law_151 ?_
  refine G_ldc2 (v := (4294967295 : Int64)) F aw_629 zd_L_law_152 ?_
  refine G_land F zd_L_law_155 ?_
  refine G_lor F zd_L_law_156 ?_
  refine G_aload_n F zd_L_law_157 rfl (j := 1) rfl ?_
  refine G_iload F zd_L_law_158 (j := 5) rfl ?_
  refine G_iconst (v := (4 : Int32)) F zd_L_law_160 (by decide) ?_
  refine G_iadd F zd_L_law_161 ?_
  refine G_sld F S zd_L_law_162 g4 ?_
  refine G_callvV F (zk_M_put l D cB cI cJ ma mb mz mh me th mf sz mc cp hi bg en tb ou mp fa (xs (Int32.toNatClampNeg (i + (1 : Int32)))) ((lshl ((xs (Int32.toNatClampNeg (i + (2 : Int32)))).toInt64) (32 : Int32)) ||| (((xs (Int32.toNatClampNeg (i + (3 : Int32)))).toInt64) &&& (4294967295 : Int64))) (xs (Int32.toNatClampNeg (i + (4 : Int32)))) (0 : Int32) mf' sz' h2) (rest := []) [18, 19, 20, 21, 22] rfl rfl rfl (ws' := [(xa, .inr (7, [.ref qa, .ref sa, .ref pa, .ref da, .ref ka, .ref wa, .ref va, .ref ea, .ref ua])), (qa, .inr (4, [.ref qb, .int qn'])), (qb, .inl (cB, 160, .inl qf')), (sa, .inr (4, [.ref sb, .int sn'])), (sb, .inl (cB, 200, .inl sf')), (pa, .inr (4, [.ref pb, .int pn'])), (pb, .inl (cB, 64, .inl pf')), (da, .inr (4, [.ref db, .int dn])), (db, .inl (cB, 160, .inl df)), (ha, .inr (2, [.ref pa, .ref qa])), (ka, .inr (3, [.ref pa, .ref qa, .ref ha, .ref ta, .int an, .int mt, .int co])), (ta, .inl (cI, 32, .inl tf)), (wa, .inr (6, [.ref qa, .ref sa])), (va, .inr (1, [.ref qa, .ref sa])), (hb, .inr (2, [.ref pa, .ref da])), (hc, .inr (2, [.ref pa, .ref da])), (ea, .inr (5, [.ref sa, .ref da, .ref hb, .int ra, .int rr])), (ua, .inr (0, [.ref sa, .ref da, .ref hc, .int zra, .int zrr, .int zrp])), (ma, .inr (8, [.int (0 : Int32), .ref mb, .ref mz, .int mc, .int cp, .ref mh, .int bg, .int en, .ref me, .int ou, .int mp, .int fa])), (mb, .inl (cI, 600, .inl mf')), (mz, .inl (cI, 3, .inl sz')), (mh, .inl (cI, 224, .inl hi)), (me, .inl (cI, 32, .inl tb)), (oa, .inl (cJ, 1, .inr (.inl ox)))]) (by simp only [setsW, List.set]) (q0 := 18) rfl cv_L_54_M rfl rfl ⟨Nat.le_of_ble_eq_true rfl, Nat.le_of_ble_eq_true rfl⟩ hf rfl (Nat.le_of_ble_eq_true rfl) zd_L_law_163 rfl ?_
  refine G_aload_n F zd_L_law_166 rfl (j := 3) rfl ?_
  refine G_calliV0 F (zk_M_thrown l D cB cI cJ ma mb mz mh me (0 : Int32) mf' sz' mc cp hi bg en tb ou mp fa (0 : Int32) rfl) (rest := []) [18, 19, 20, 21, 22] rfl rfl (q0 := 18) rfl cv_L_55_M rfl rfl ⟨Nat.le_of_ble_eq_true rfl, Nat.le_of_ble_eq_true rfl⟩ hf rfl (Nat.le_of_ble_eq_true rfl) zd_L_law_167 rfl ?_
  refine G_iload F zd_L_law_170 (j := 0) rfl ?_
  refine G_icmp_eq F zd_L_law_172 (tgt := 177) rfl (fun _ => ?_) (fun h0 => absurd rfl h0)
  refine G_goto F zd_L_law_177 (tgt := 652) rfl ?_
  exact G_lv [1, 2, 3, 4, 5] rfl kk

set_option maxHeartbeats 4000000 in
set_option maxRecDepth 100000 in
theorem zs_put_IA {k : GC} {l : Launch} (hl : l.stackTraces = false) {D : va_G} {cB cI cJ : ClassId} (F : GF k l room_1 zc_L_law 7 RL D cB cI cJ) (X : XF k) {sc Ls : Nat} {xs : Nat → Int32} (S : SX k sc Ls xs) {cells slots : Nat} (hf1 : cells + 1 ≤ room_1.cells ∧ slots + 6 ≤ room_1.slots) (xa : Nat) (qa : Nat) (qb : Nat) (sa : Nat) (sb : Nat) (pa : Nat) (pb : Nat) (da : Nat) (db : Nat) (ka : Nat) (ha : Nat) (ta : Nat) (wa : Nat) (va : Nat) (hb : Nat) (hc : Nat) (ea : Nat) (ua : Nat) (ma : Nat) (mb : Nat) (mz : Nat) (mh : Nat) (me : Nat) (oa : Nat) (qn : Int32) (qf : Nat → Int32) (sn : Int32) (sf : Nat → Int32) (pn : Int32) (pf : Nat → Int32) (dn : Int32) (df : Nat → Int32) (tf : Nat → Int32) (an : Int32) (mt : Int32) (co : Int32) (ra : Int32) (rr : Int32) (zra : Int32) (zrr : Int32) (zrp : Int32) (th : Int32) (mf : Nat → Int32) (sz : Nat → Int32) (mc : Int32) (cp : Int32) (hi : Nat → Int32) (bg : Int32) (en : Int32) (tb : Nat → Int32) (ou : Int32) (mp : Int32) (fa : Int32) (ox : Nat → Int64) (i : Int32) (g1 : ¬ ((i + (1 : Int32)) < 0 ∨ Ls ≤ Int32.toNatClampNeg (i + (1 : Int32)))) (g2 : ¬ ((i + (2 : Int32)) < 0 ∨ Ls ≤ Int32.toNatClampNeg (i + (2 : Int32)))) (g3 : ¬ ((i + (3 : Int32)) < 0 ∨ Ls ≤ Int32.toNatClampNeg (i + (3 : Int32)))) (g4 : ¬ ((i + (4 : Int32)) < 0 ∨ Ls ≤ Int32.toNatClampNeg (i + (4 : Int32)))) (mf' : Nat → Int32) (sz' : Nat → Int32) (h1 : zf_X_put_IA qn sn pn (xs (Int32.toNatClampNeg (i + (1 : Int32)))) (xs (Int32.toNatClampNeg (i + (4 : Int32)))) = some ()) (h2 : zf_M_put mf sz (xs (Int32.toNatClampNeg (i + (1 : Int32)))) ((lshl ((xs (Int32.toNatClampNeg (i + (2 : Int32)))).toInt64) (32 : Int32)) ||| (((xs (Int32.toNatClampNeg (i + (3 : Int32)))).toInt64) &&& (4294967295 : Int64))) (xs (Int32.toNatClampNeg (i + (4 : Int32)))) = some ((1 : Int32), mf', sz')) (kk : G D 7 k (cells + 1) (slots + 6) 652 [(0, .ref sc), (1, .ref xa), (2, .ref ma), (3, .ref oa), (4, .int i)] [] [(xa, .inr (7, [.ref qa, .ref sa, .ref pa, .ref da, .ref ka, .ref wa, .ref va, .ref ea, .ref ua])), (qa, .inr (4, [.ref qb, .int qn])), (qb, .inl (cB, 160, .inl qf)), (sa, .inr (4, [.ref sb, .int sn])), (sb, .inl (cB, 200, .inl sf)), (pa, .inr (4, [.ref pb, .int pn])), (pb, .inl (cB, 64, .inl pf)), (da, .inr (4, [.ref db, .int dn])), (db, .inl (cB, 160, .inl df)), (ha, .inr (2, [.ref pa, .ref qa])), (ka, .inr (3, [.ref pa, .ref qa, .ref ha, .ref ta, .int an, .int mt, .int co])), (ta, .inl (cI, 32, .inl tf)), (wa, .inr (6, [.ref qa, .ref sa])), (va, .inr (1, [.ref qa, .ref sa])), (hb, .inr (2, [.ref pa, .ref da])), (hc, .inr (2, [.ref pa, .ref da])), (ea, .inr (5, [.ref sa, .ref da, .ref hb, .int ra, .int rr])), (ua, .inr (0, [.ref sa, .ref da, .ref hc, .int zra, .int zrr, .int zrp])), (ma, .inr (8, [.int (1 : Int32), .ref mb, .ref mz, .int mc, .int cp, .ref mh, .int bg, .int en, .ref me, .int ou, .int mp, .int fa])), (mb, .inl (cI, 600, .inl mf')), (mz, .inl (cI, 3, .inl sz')), (mh, .inl (cI, 224, .inl hi)), (me, .inl (cI, 32, .inl tb)), (oa, .inl (cJ, 1, .inr (.inl ox)))]) : G D 7 k cells slots 88 [(0, .ref sc), (1, .ref xa), (2, .ref ma), (3, .ref oa), (4, .int i)] [] [(xa, .inr (7, [.ref qa, .ref sa, .ref pa, .ref da, .ref ka, .ref wa, .ref va, .ref ea, .ref ua])), (qa, .inr (4, [.ref qb, .int qn])), (qb, .inl (cB, 160, .inl qf)), (sa, .inr (4, [.ref sb, .int sn])), (sb, .inl (cB, 200, .inl sf)), (pa, .inr (4, [.ref pb, .int pn])), (pb, .inl (cB, 64, .inl pf)), (da, .inr (4, [.ref db, .int dn])), (db, .inl (cB, 160, .inl df)), (ha, .inr (2, [.ref pa, .ref qa])), (ka, .inr (3, [.ref pa, .ref qa, .ref ha, .ref ta, .int an, .int mt, .int co])), (ta, .inl (cI, 32, .inl tf)), (wa, .inr (6, [.ref qa, .ref sa])), (va, .inr (1, [.ref qa, .ref sa])), (hb, .inr (2, [.ref pa, .ref da])), (hc, .inr (2, [.ref pa, .ref da])), (ea, .inr (5, [.ref sa, .ref da, .ref hb, .int ra, .int rr])), (ua, .inr (0, [.ref sa, .ref da, .ref hc, .int zra, .int zrr, .int zrp])), (ma, .inr (8, [.int th, .ref mb, .ref mz, .int mc, .int cp, .ref mh, .int bg, .int en, .ref me, .int ou, .int mp, .int fa])), (mb, .inl (cI, 600, .inl mf)), (mz, .inl (cI, 3, .inl sz)), (mh, .inl (cI, 224, .inl hi)), (me, .inl (cI, 32, .inl tb)), (oa, .inl (cJ, 1, .inr (.inl ox)))] := by
  refine G_aload_n F zd_L_law_88 rfl (j := 1) rfl ?_
  refine G_aload_n F zd_L_law_89 rfl (j := 0) rfl ?_
  refine G_iload F zd_L_law_90 (j := 4) rfl ?_
  refine G_iconst (v := (1 : Int32)) F zd_L_law_92 (by decide) ?_
  refine G_iadd F zd_L_law_93 ?_
  refine G_sld F S zd_L_law_94 g1 ?_
  refine G_aload_n F zd_L_law_95 rfl (j := 0) rfl ?_
  refine G_iload F zd_L_law_96 (j := 4) rfl ?_
  refine G_iconst (v := (2 : Int32)) F zd_L_law_98 (by decide) ?_
  refine G_iadd F zd_L_law_99 ?_
  refine G_sld F S zd_L_law_100 g2 ?_
  refine G_i2l F zd_L_law_101 ?_
  refine G_bipush (v := (32 : Int32)) F zd_L_law_102 (by decide) ?_
  refine G_lshl F zd_L_law_104 ?_
  refine G_aload_n F zd_L_law_105 rfl (j := 0) rfl ?_
  refine G_iload F zd_L_law_106 (j := 4) rfl ?_
  refine G_iconst (v := (3 : Int32)) F zd_L_law_108 (by decide) ?_
  refine G_iadd F zd_L_law_109 ?_
  refine G_sld F S zd_L_law_110 g3 ?_
  refine G_i2l F zd_L_law_111 ?_
  refine G_ldc2 (v := (4294967295 : Int64)) F aw_629 zd_L_law_112 ?_
  refine G_land F zd_L_law_115 ?_
  refine G_lor F zd_L_law_116 ?_
  refine G_aload_n F zd_L_law_117 rfl (j := 0) rfl ?_
  refine G_iload F zd_L_law_118 (j := 4) rfl ?_
  refine G_iconst (v := (4 : Int32)) F zd_L_law_120 (by decide) ?_
  refine G_iadd F zd_L_law_121 ?_
  refine G_sld F S zd_L_law_122 g4 ?_
  refine G_calliC F X (zx_L_put_IA l hl D cB cI cJ xa qa qb sa sb pa pb da db ka ha ta wa va hb hc ea ua qn qf sn sf pn pf dn df tf an mt co ra rr zra zrr zrp (xs (Int32.toNatClampNeg (i + (1 : Int32)))) ((lshl ((xs (Int32.toNatClampNeg (i + (2 : Int32)))).toInt64) (32 : Int32)) ||| (((xs (Int32.toNatClampNeg (i + (3 : Int32)))).toInt64) &&& (4294967295 : Int64))) (xs (Int32.toNatClampNeg (i + (4 : Int32)))) h1) (rest := []) [0, 1, 2, 3, 4, 5, 6, 7, 8, 9, 10, 11, 12, 13, 14, 15, 16, 17] rfl rfl cl_L_49 rfl rfl ⟨Nat.le_of_ble_eq_true rfl, Nat.le_of_ble_eq_true rfl⟩ hf1 rfl (Nat.le_of_ble_eq_true rfl) zd_L_law_123 rfl ?_
  refine G_istore F zd_L_law_126 (by decide) (L' := [(5, .int (1 : Int32)), (0, .ref sc), (1, .ref xa), (2, .ref ma), (3, .ref oa), (4, .int i)]) rfl ?_
  refine G_aload_n F zd_L_law_128 rfl (j := 3) rfl ?_
  refine G_aload_n F zd_L_law_129 rfl (j := 1) rfl ?_
  refine G_iload F zd_L_law_130 (j := 5) rfl ?_
  refine G_iconst (v := (1 : Int32)) F zd_L_law_132 (by decide) ?_
  refine G_iadd F zd_L_law_133 ?_
  refine G_sld F S zd_L_law_134 g1 ?_
  refine G_aload_n F zd_L_law_135 rfl (j := 1) rfl ?_
  refine G_iload F zd_L_law_136 (j := 5) rfl ?_
  refine G_iconst (v := (2 : Int32)) F zd_L_law_138 (by decide) ?_
  refine G_iadd F zd_L_law_139 ?_
  refine G_sld F S zd_L_law_140 g2 ?_
  refine G_i2l F zd_L_law_141 ?_
  refine G_bipush (v := (32 : Int32)) F zd_L_law_142 (by decide) ?_
  refine G_lshl F zd_L_law_144 ?_
  refine G_aload_n F zd_L_law_145 rfl (j := 1) rfl ?_
  refine G_iload F zd_L_law_146 (j := 5) rfl ?_
  refine G_iconst (v := (3 : Int32)) F zd_L_law_148 (by decide) ?_
  refine G_iadd F zd_L_law_149 ?_
  refine G_sld F S zd_L_law_150 g3 ?_
  refine G_i2l F zd_L_law_151 ?_
  refine G_ldc2 (v := (4294967295 : Int64)) F aw_629 zd_L_law_152 ?_
  refine G_land F zd_L_law_155 ?_
  refine G_lor F zd_L_law_156 ?_
  refine G_aload_n F zd_L_law_157 rfl (j := 1) rfl ?_
  refine G_iload F zd_L_law_158 (j := 5) rfl ?_
  refine G_iconst (v := (4 : Int32)) F zd_L_law_160 (by decide) ?_
  refine G_iadd F zd_L_law_161 ?_
  refine G_sld F S zd_L_law_162 g4 ?_
  refine G_callvV F (zk_M_put l D cB cI cJ ma mb mz mh me th mf sz mc cp hi bg en tb ou mp fa (xs (Int32.toNatClampNeg (i + (1 : Int32)))) ((lshl ((xs (Int32.toNatClampNeg (i + (2 : Int32)))).toInt64) (32 : Int32)) ||| (((xs (Int32.toNatClampNeg (i + (3 : Int32)))).toInt64) &&& (4294967295 : Int64))) (xs (Int32.toNatClampNeg (i + (4 : Int32)))) (1 : Int32) mf' sz' h2) (rest := []) [18, 19, 20, 21, 22] rfl rfl rfl (ws' := [(xa, .inr (7, [.ref qa, .ref sa, .ref pa, .ref da, .ref ka, .ref wa, .ref va, .ref ea, .ref ua])), (qa, .inr (4, [.ref qb, .int qn])), (qb, .inl (cB, 160, .inl qf)), (sa, .inr (4, [.ref sb, .int sn])), (sb, .inl (cB, 200, .inl sf)), (pa, .inr (4, [.ref pb, .int pn])), (pb, .inl (cB, 64, .inl pf)), (da, .inr (4, [.ref db, .int dn])), (db, .inl (cB, 160, .inl df)), (ha, .inr (2, [.ref pa, .ref qa])), (ka, .inr (3, [.ref pa, .ref qa, .ref ha, .ref ta, .int an, .int mt, .int co])), (ta, .inl (cI, 32, .inl tf)), (wa, .inr (6, [.ref qa, .ref sa])), (va, .inr (1, [.ref qa, .ref sa])), (hb, .inr (2, [.ref pa, .ref da])), (hc, .inr (2, [.ref pa, .ref da])), (ea, .inr (5, [.ref sa, .ref da, .ref hb, .int ra, .int rr])), (ua, .inr (0, [.ref sa, .ref da, .ref hc, .int zra, .int zrr, .int zrp])), (ma, .inr (8, [.int (1 : Int32), .ref mb, .ref mz, .int mc, .int cp, .ref mh, .int bg, .int en, .ref me, .int ou, .int mp, .int fa])), (mb, .inl (cI, 600, .inl mf')), (mz, .inl (cI, 3, .inl sz')), (mh, .inl (cI, 224, .inl hi)), (me, .inl (cI, 32, .inl tb)), (oa, .inl (cJ, 1, .inr (.inl ox)))]) (by simp only [setsW, List.set]) (q0 := 18) rfl cv_L_54_M rfl rfl ⟨Nat.le_of_ble_eq_true rfl, Nat.le_of_ble_eq_true rfl⟩ hf1 rfl (Nat.le_of_ble_eq_true rfl) zd_L_law_163 rfl ?_
  refine G_aload_n F zd_L_law_166 rfl (j := 3) rfl ?_
  refine G_calliV0 F (zk_M_thrown l D cB cI cJ ma mb mz mh me (1 : Int32) mf' sz' mc cp hi bg en tb ou mp fa (1 : Int32) rfl) (rest := []) [18, 19, 20, 21, 22] rfl rfl (q0 := 18) rfl cv_L_55_M rfl rfl ⟨Nat.le_of_ble_eq_true rfl, Nat.le_of_ble_eq_true rfl⟩ hf1 rfl (Nat.le_of_ble_eq_true rfl) zd_L_law_167 rfl ?_
  refine G_iload F zd_L_law_170 (j := 0) rfl ?_
  refine G_icmp_eq F zd_L_law_172 (tgt := 177) rfl (fun _ => ?_) (fun h0 => absurd rfl h0)
  refine G_goto F zd_L_law_177 (tgt := 652) rfl ?_
  exact G_lv [1, 2, 3, 4, 5] rfl kk

set_option maxHeartbeats 4000000 in
set_option maxRecDepth 100000 in
theorem zs_put_IS {k : GC} {l : Launch} (hl : l.stackTraces = false) {D : va_G} {cB cI cJ : ClassId} (F : GF k l room_1 zc_L_law 7 RL D cB cI cJ) (X : XF k) {sc Ls : Nat} {xs : Nat → Int32} (S : SX k sc Ls xs) {cells slots : Nat} (hf1 : cells + 1 ≤ room_1.cells ∧ slots + 6 ≤ room_1.slots) (xa : Nat) (qa : Nat) (qb : Nat) (sa : Nat) (sb : Nat) (pa : Nat) (pb : Nat) (da : Nat) (db : Nat) (ka : Nat) (ha : Nat) (ta : Nat) (wa : Nat) (va : Nat) (hb : Nat) (hc : Nat) (ea : Nat) (ua : Nat) (ma : Nat) (mb : Nat) (mz : Nat) (mh : Nat) (me : Nat) (oa : Nat) (qn : Int32) (qf : Nat → Int32) (sn : Int32) (sf : Nat → Int32) (pn : Int32) (pf : Nat → Int32) (dn : Int32) (df : Nat → Int32) (tf : Nat → Int32) (an : Int32) (mt : Int32) (co : Int32) (ra : Int32) (rr : Int32) (zra : Int32) (zrr : Int32) (zrp : Int32) (th : Int32) (mf : Nat → Int32) (sz : Nat → Int32) (mc : Int32) (cp : Int32) (hi : Nat → Int32) (bg : Int32) (en : Int32) (tb : Nat → Int32) (ou : Int32) (mp : Int32) (fa : Int32) (ox : Nat → Int64) (i : Int32) (g1 : ¬ ((i + (1 : Int32)) < 0 ∨ Ls ≤ Int32.toNatClampNeg (i + (1 : Int32)))) (g2 : ¬ ((i + (2 : Int32)) < 0 ∨ Ls ≤ Int32.toNatClampNeg (i + (2 : Int32)))) (g3 : ¬ ((i + (3 : Int32)) < 0 ∨ Ls ≤ Int32.toNatClampNeg (i + (3 : Int32)))) (g4 : ¬ ((i + (4 : Int32)) < 0 ∨ Ls ≤ Int32.toNatClampNeg (i + (4 : Int32)))) (mf' : Nat → Int32) (sz' : Nat → Int32) (h1 : zf_X_put_IS qn sn pn (xs (Int32.toNatClampNeg (i + (1 : Int32)))) (xs (Int32.toNatClampNeg (i + (4 : Int32)))) = some ()) (h2 : zf_M_put mf sz (xs (Int32.toNatClampNeg (i + (1 : Int32)))) ((lshl ((xs (Int32.toNatClampNeg (i + (2 : Int32)))).toInt64) (32 : Int32)) ||| (((xs (Int32.toNatClampNeg (i + (3 : Int32)))).toInt64) &&& (4294967295 : Int64))) (xs (Int32.toNatClampNeg (i + (4 : Int32)))) = some ((2 : Int32), mf', sz')) (kk : G D 7 k (cells + 1) (slots + 6) 652 [(0, .ref sc), (1, .ref xa), (2, .ref ma), (3, .ref oa), (4, .int i)] [] [(xa, .inr (7, [.ref qa, .ref sa, .ref pa, .ref da, .ref ka, .ref wa, .ref va, .ref ea, .ref ua])), (qa, .inr (4, [.ref qb, .int qn])), (qb, .inl (cB, 160, .inl qf)), (sa, .inr (4, [.ref sb, .int sn])), (sb, .inl (cB, 200, .inl sf)), (pa, .inr (4, [.ref pb, .int pn])), (pb, .inl (cB, 64, .inl pf)), (da, .inr (4, [.ref db, .int dn])), (db, .inl (cB, 160, .inl df)), (ha, .inr (2, [.ref pa, .ref qa])), (ka, .inr (3, [.ref pa, .ref qa, .ref ha, .ref ta, .int an, .int mt, .int co])), (ta, .inl (cI, 32, .inl tf)), (wa, .inr (6, [.ref qa, .ref sa])), (va, .inr (1, [.ref qa, .ref sa])), (hb, .inr (2, [.ref pa, .ref da])), (hc, .inr (2, [.ref pa, .ref da])), (ea, .inr (5, [.ref sa, .ref da, .ref hb, .int ra, .int rr])), (ua, .inr (0, [.ref sa, .ref da, .ref hc, .int zra, .int zrr, .int zrp])), (ma, .inr (8, [.int (2 : Int32), .ref mb, .ref mz, .int mc, .int cp, .ref mh, .int bg, .int en, .ref me, .int ou, .int mp, .int fa])), (mb, .inl (cI, 600, .inl mf')), (mz, .inl (cI, 3, .inl sz')), (mh, .inl (cI, 224, .inl hi)), (me, .inl (cI, 32, .inl tb)), (oa, .inl (cJ, 1, .inr (.inl ox)))]) : G D 7 k cells slots 88 [(0, .ref sc), (1, .ref xa), (2, .ref ma), (3, .ref oa), (4, .int i)] [] [(xa, .inr (7, [.ref qa, .ref sa, .ref pa, .ref da, .ref ka, .ref wa, .ref va, .ref ea, .ref ua])), (qa, .inr (4, [.ref qb, .int qn])), (qb, .inl (cB, 160, .inl qf)), (sa, .inr (4, [.ref sb, .int sn])), (sb, .inl (cB, 200, .inl sf)), (pa, .inr (4, [.ref pb, .int pn])), (pb, .inl (cB, 64, .inl pf)), (da, .inr (4, [.ref db, .int dn])), (db, .inl (cB, 160, .inl df)), (ha, .inr (2, [.ref pa, .ref qa])), (ka, .inr (3, [.ref pa, .ref qa, .ref ha, .ref ta, .int an, .int mt, .int co])), (ta, .inl (cI, 32, .inl tf)), (wa, .inr (6, [.ref qa, .ref sa])), (va, .inr (1, [.ref qa, .ref sa])), (hb, .inr (2, [.ref pa, .ref da])), (hc, .inr (2, [.ref pa, .ref da])), (ea, .inr (5, [.ref sa, .ref da, .ref hb, .int ra, .int rr])), (ua, .inr (0, [.ref sa, .ref da, .ref hc, .int zra, .int zrr, .int zrp])), (ma, .inr (8, [.int th, .ref mb, .ref mz, .int mc, .int cp, .ref mh, .int bg, .int en, .ref me, .int ou, .int mp, .int fa])), (mb, .inl (cI, 600, .inl mf)), (mz, .inl (cI, 3, .inl sz)), (mh, .inl (cI, 224, .inl hi)), (me, .inl (cI, 32, .inl tb)), (oa, .inl (cJ, 1, .inr (.inl ox)))] := by
  refine G_aload_n F zd_L_law_88 rfl (j := 1) rfl ?_
  refine G_aload_n F zd_L_law_89 rfl (j := 0) rfl ?_
  refine G_iload F zd_L_law_90 (j := 4) rfl ?_
  refine G_iconst (v := (1 : Int32)) F zd_L_law_92 (by decide) ?_
  refine G_iadd F zd_L_law_93 ?_
  refine G_sld F S zd_L_law_94 g1 ?_
  refine G_aload_n F zd_L_law_95 rfl (j := 0) rfl ?_
  refine G_iload F zd_L_law_96 (j := 4) rfl ?_
  refine G_iconst (v := (2 : Int32)) F zd_L_law_98 (by decide) ?_
  refine G_iadd F zd_L_law_99 ?_
  refine G_sld F S zd_L_law_100 g2 ?_
  refine G_i2l F zd_L_law_101 ?_
  refine G_bipush (v := (32 : Int32)) F zd_L_law_102 (by decide) ?_
  refine G_lshl F zd_L_law_104 ?_
  refine G_aload_n F zd_L_law_105 rfl (j := 0) rfl ?_
  refine G_iload F zd_L_law_106 (j := 4) rfl ?_
  refine G_iconst (v := (3 : Int32)) F zd_L_law_108 (by decide) ?_
  refine G_iadd F zd_L_law_109 ?_
  refine G_sld F S zd_L_law_110 g3 ?_
  refine G_i2l F zd_L_law_111 ?_
  refine G_ldc2 (v := (4294967295 : Int64)) F aw_629 zd_L_law_112 ?_
  refine G_land F zd_L_law_115 ?_
  refine G_lor F zd_L_law_116 ?_
  refine G_aload_n F zd_L_law_117 rfl (j := 0) rfl ?_
  refine G_iload F zd_L_law_118 (j := 4) rfl ?_
  refine G_iconst (v := (4 : Int32)) F zd_L_law_120 (by decide) ?_
  refine G_iadd F zd_L_law_121 ?_
  refine G_sld F S zd_L_law_122 g4 ?_
  refine G_calliC F X (zx_L_put_IS l hl D cB cI cJ xa qa qb sa sb pa pb da db ka ha ta wa va hb hc ea ua qn qf sn sf pn pf dn df tf an mt co ra rr zra zrr zrp (xs (Int32.toNatClampNeg (i + (1 : Int32)))) ((lshl ((xs (Int32.toNatClampNeg (i + (2 : Int32)))).toInt64) (32 : Int32)) ||| (((xs (Int32.toNatClampNeg (i + (3 : Int32)))).toInt64) &&& (4294967295 : Int64))) (xs (Int32.toNatClampNeg (i + (4 : Int32)))) h1) (rest := []) [0, 1, 2, 3, 4, 5, 6, 7, 8, 9, 10, 11, 12, 13, 14, 15, 16, 17] rfl rfl cl_L_49 rfl rfl ⟨Nat.le_of_ble_eq_true rfl, Nat.le_of_ble_eq_true rfl⟩ hf1 rfl (Nat.le_of_ble_eq_true rfl) zd_L_law_123 rfl ?_
  refine G_istore F zd_L_law_126 (by decide) (L' := [(5, .int (2 : Int32)), (0, .ref sc), (1, .ref xa), (2, .ref ma), (3, .ref oa), (4, .int i)]) rfl ?_
  refine G_aload_n F zd_L_law_128 rfl (j := 3) rfl ?_
  refine G_aload_n F zd_L_law_129 rfl (j := 1) rfl ?_
  refine G_iload F zd_L_law_130 (j := 5) rfl ?_
  refine G_iconst (v := (1 : Int32)) F zd_L_law_132 (by decide) ?_
  refine G_iadd F zd_L_law_133 ?_
  refine G_sld F S zd_L_law_134 g1 ?_
  refine G_aload_n F zd_L_law_135 rfl (j := 1) rfl ?_
  refine G_iload F zd_L_law_136 (j := 5) rfl ?_
  refine G_iconst (v := (2 : Int32)) F zd_L_law_138 (by decide) ?_
  refine G_iadd F zd_L_law_139 ?_
  refine G_sld F S zd_L_law_140 g2 ?_
  refine G_i2l F zd_L_law_141 ?_
  refine G_bipush (v := (32 : Int32)) F zd_L_law_142 (by decide) ?_
  refine G_lshl F zd_L_law_144 ?_
  refine G_aload_n F zd_L_law_145 rfl (j := 1) rfl ?_
  refine G_iload F zd_L_law_146 (j := 5) rfl ?_
  refine G_iconst (v := (3 : Int32)) F zd_L_law_148 (by decide) ?_
  refine G_iadd F zd_L_law_149 ?_
  refine G_sld F S zd_L_law_150 g3 ?_
  refine G_i2l F zd_L_law_151 ?_
  refine G_ldc2 (v := (4294967295 : Int64)) F aw_629 zd_L_law_152 ?_
  refine G_land F zd_L_law_155 ?_
  refine G_lor F zd_L_law_156 ?_
  refine G_aload_n F zd_L_law_157 rfl (j := 1) rfl ?_
  refine G_iload F zd_L_law_158 (j := 5) rfl ?_
  refine G_iconst (v := (4 : Int32)) F zd_L_law_160 (by decide) ?_
  refine G_iadd F zd_L_law_161 ?_
  refine G_sld F S zd_L_law_162 g4 ?_
  refine G_callvV F (zk_M_put l D cB cI cJ ma mb mz mh me th mf sz mc cp hi bg en tb ou mp fa (xs (Int32.toNatClampNeg (i + (1 : Int32)))) ((lshl ((xs (Int32.toNatClampNeg (i + (2 : Int32)))).toInt64) (32 : Int32)) ||| (((xs (Int32.toNatClampNeg (i + (3 : Int32)))).toInt64) &&& (4294967295 : Int64))) (xs (Int32.toNatClampNeg (i + (4 : Int32)))) (2 : Int32) mf' sz' h2) (rest := []) [18, 19, 20, 21, 22] rfl rfl rfl (ws' := [(xa, .inr (7, [.ref qa, .ref sa, .ref pa, .ref da, .ref ka, .ref wa, .ref va, .ref ea, .ref ua])), (qa, .inr (4, [.ref qb, .int qn])), (qb, .inl (cB, 160, .inl qf)), (sa, .inr (4, [.ref sb, .int sn])), (sb, .inl (cB, 200, .inl sf)), (pa, .inr (4, [.ref pb, .int pn])), (pb, .inl (cB, 64, .inl pf)), (da, .inr (4, [.ref db, .int dn])), (db, .inl (cB, 160, .inl df)), (ha, .inr (2, [.ref pa, .ref qa])), (ka, .inr (3, [.ref pa, .ref qa, .ref ha, .ref ta, .int an, .int mt, .int co])), (ta, .inl (cI, 32, .inl tf)), (wa, .inr (6, [.ref qa, .ref sa])), (va, .inr (1, [.ref qa, .ref sa])), (hb, .inr (2, [.ref pa, .ref da])), (hc, .inr (2, [.ref pa, .ref da])), (ea, .inr (5, [.ref sa, .ref da, .ref hb, .int ra, .int rr])), (ua, .inr (0, [.ref sa, .ref da, .ref hc, .int zra, .int zrr, .int zrp])), (ma, .inr (8, [.int (2 : Int32), .ref mb, .ref mz, .int mc, .int cp, .ref mh, .int bg, .int en, .ref me, .int ou, .int mp, .int fa])), (mb, .inl (cI, 600, .inl mf')), (mz, .inl (cI, 3, .inl sz')), (mh, .inl (cI, 224, .inl hi)), (me, .inl (cI, 32, .inl tb)), (oa, .inl (cJ, 1, .inr (.inl ox)))]) (by simp only [setsW, List.set]) (q0 := 18) rfl cv_L_54_M rfl rfl ⟨Nat.le_of_ble_eq_true rfl, Nat.le_of_ble_eq_true rfl⟩ hf1 rfl (Nat.le_of_ble_eq_true rfl) zd_L_law_163 rfl ?_
  refine G_aload_n F zd_L_law_166 rfl (j := 3) rfl ?_
  refine G_calliV0 F (zk_M_thrown l D cB cI cJ ma mb mz mh me (2 : Int32) mf' sz' mc cp hi bg en tb ou mp fa (2 : Int32) rfl) (rest := []) [18, 19, 20, 21, 22] rfl rfl (q0 := 18) rfl cv_L_55_M rfl rfl ⟨Nat.le_of_ble_eq_true rfl, Nat.le_of_ble_eq_true rfl⟩ hf1 rfl (Nat.le_of_ble_eq_true rfl) zd_L_law_167 rfl ?_
  refine G_iload F zd_L_law_170 (j := 0) rfl ?_
  refine G_icmp_eq F zd_L_law_172 (tgt := 177) rfl (fun _ => ?_) (fun h0 => absurd rfl h0)
  refine G_goto F zd_L_law_177 (tgt := 652) rfl ?_
  exact G_lv [1, 2, 3, 4, 5] rfl kk

set_option maxHeartbeats 4000000 in
set_option maxRecDepth 100000 in
theorem zs_empty_N {k : GC} {l : Launch} (hl : l.stackTraces = false) {D : va_G} {cB cI cJ : ClassId} (F : GF k l room_1 zc_L_law 7 RL D cB cI cJ) (X : XF k) {sc Ls : Nat} {xs : Nat → Int32} (S : SX k sc Ls xs) {cells slots : Nat} (hf : cells ≤ room_1.cells ∧ slots ≤ room_1.slots) (xa : Nat) (qa : Nat) (qb : Nat) (sa : Nat) (sb : Nat) (pa : Nat) (pb : Nat) (da : Nat) (db : Nat) (ka : Nat) (ha : Nat) (ta : Nat) (wa : Nat) (va : Nat) (hb : Nat) (hc : Nat) (ea : Nat) (ua : Nat) (ma : Nat) (mb : Nat) (mz : Nat) (mh : Nat) (me : Nat) (oa : Nat) (qn : Int32) (qf : Nat → Int32) (sn : Int32) (sf : Nat → Int32) (pn : Int32) (pf : Nat → Int32) (dn : Int32) (df : Nat → Int32) (tf : Nat → Int32) (an : Int32) (mt : Int32) (co : Int32) (ra : Int32) (rr : Int32) (zra : Int32) (zrr : Int32) (zrp : Int32) (th : Int32) (mf : Nat → Int32) (sz : Nat → Int32) (mc : Int32) (cp : Int32) (hi : Nat → Int32) (bg : Int32) (en : Int32) (tb : Nat → Int32) (ou : Int32) (mp : Int32) (fa : Int32) (ox : Nat → Int64) (i : Int32) (g1 : ¬ ((i + (1 : Int32)) < 0 ∨ Ls ≤ Int32.toNatClampNeg (i + (1 : Int32)))) (qn' : Int32) (sn' : Int32) (pn' : Int32) (ox' : Nat → Int64) (rm : Int32) (sz' : Nat → Int32) (h1 : zf_L_empty qn sn pn (xs (Int32.toNatClampNeg (i + (1 : Int32)))) ox = some ((0 : Int32), qn', sn', pn', ox')) (h2 : zf_M_empty sz (xs (Int32.toNatClampNeg (i + (1 : Int32)))) = some (rm, (0 : Int32), sz')) (hx : lg_cmp (ox' (Int32.toNatClampNeg (0 : Int32))) (rm.toInt64) = 0) (kk : G D 7 k cells slots 652 [(0, .ref sc), (1, .ref xa), (2, .ref ma), (3, .ref oa), (4, .int i)] [] [(xa, .inr (7, [.ref qa, .ref sa, .ref pa, .ref da, .ref ka, .ref wa, .ref va, .ref ea, .ref ua])), (qa, .inr (4, [.ref qb, .int qn'])), (qb, .inl (cB, 160, .inl qf)), (sa, .inr (4, [.ref sb, .int sn'])), (sb, .inl (cB, 200, .inl sf)), (pa, .inr (4, [.ref pb, .int pn'])), (pb, .inl (cB, 64, .inl pf)), (da, .inr (4, [.ref db, .int dn])), (db, .inl (cB, 160, .inl df)), (ha, .inr (2, [.ref pa, .ref qa])), (ka, .inr (3, [.ref pa, .ref qa, .ref ha, .ref ta, .int an, .int mt, .int co])), (ta, .inl (cI, 32, .inl tf)), (wa, .inr (6, [.ref qa, .ref sa])), (va, .inr (1, [.ref qa, .ref sa])), (hb, .inr (2, [.ref pa, .ref da])), (hc, .inr (2, [.ref pa, .ref da])), (ea, .inr (5, [.ref sa, .ref da, .ref hb, .int ra, .int rr])), (ua, .inr (0, [.ref sa, .ref da, .ref hc, .int zra, .int zrr, .int zrp])), (ma, .inr (8, [.int (0 : Int32), .ref mb, .ref mz, .int mc, .int cp, .ref mh, .int bg, .int en, .ref me, .int ou, .int mp, .int fa])), (mb, .inl (cI, 600, .inl mf)), (mz, .inl (cI, 3, .inl sz')), (mh, .inl (cI, 224, .inl hi)), (me, .inl (cI, 32, .inl tb)), (oa, .inl (cJ, 1, .inr (.inl ox')))]) : G D 7 k cells slots 180 [(0, .ref sc), (1, .ref xa), (2, .ref ma), (3, .ref oa), (4, .int i)] [] [(xa, .inr (7, [.ref qa, .ref sa, .ref pa, .ref da, .ref ka, .ref wa, .ref va, .ref ea, .ref ua])), (qa, .inr (4, [.ref qb, .int qn])), (qb, .inl (cB, 160, .inl qf)), (sa, .inr (4, [.ref sb, .int sn])), (sb, .inl (cB, 200, .inl sf)), (pa, .inr (4, [.ref pb, .int pn])), (pb, .inl (cB, 64, .inl pf)), (da, .inr (4, [.ref db, .int dn])), (db, .inl (cB, 160, .inl df)), (ha, .inr (2, [.ref pa, .ref qa])), (ka, .inr (3, [.ref pa, .ref qa, .ref ha, .ref ta, .int an, .int mt, .int co])), (ta, .inl (cI, 32, .inl tf)), (wa, .inr (6, [.ref qa, .ref sa])), (va, .inr (1, [.ref qa, .ref sa])), (hb, .inr (2, [.ref pa, .ref da])), (hc, .inr (2, [.ref pa, .ref da])), (ea, .inr (5, [.ref sa, .ref da, .ref hb, .int ra, .int rr])), (ua, .inr (0, [.ref sa, .ref da, .ref hc, .int zra, .int zrr, .int zrp])), (ma, .inr (8, [.int th, .ref mb, .ref mz, .int mc, .int cp, .ref mh, .int bg, .int en, .ref me, .int ou, .int mp, .int fa])), (mb, .inl (cI, 600, .inl mf)), (mz, .inl (cI, 3, .inl sz)), (mh, .inl (cI, 224, .inl hi)), (me, .inl (cI, 32, .inl tb)), (oa, .inl (cJ, 1, .inr (.inl ox)))] := by
  refine G_aload_n F zd_L_law_180 rfl (j := 1) rfl ?_
  refine G_aload_n F zd_L_law_181 rfl (j := 0) rfl ?_
  refine G_iload F zd_L_law_182 (j := 4) rfl ?_
  refine G_iconst (v := (1 : Int32)) F zd_L_law_184 (by decide) ?_
  refine G_iadd F zd_L_law_185 ?_
  refine G_sld F S zd_L_law_186 g1 ?_
  refine G_aload_n F zd_L_law_187 rfl (j := 3) rfl ?_
  refine G_calliW F (zk_L_empty l D cB cI cJ xa qa qb sa sb pa pb da db ka ha ta wa va hb hc ea ua oa qn qf sn sf pn pf dn df tf an mt co ra rr zra zrr zrp (xs (Int32.toNatClampNeg (i + (1 : Int32)))) ox (0 : Int32) qn' sn' pn' ox' h1) (rest := []) [0, 1, 2, 3, 4, 5, 6, 7, 8, 9, 10, 11, 12, 13, 14, 15, 16, 17, 23] rfl rfl rfl (ws' := [(xa, .inr (7, [.ref qa, .ref sa, .ref pa, .ref da, .ref ka, .ref wa, .ref va, .ref ea, .ref ua])), (qa, .inr (4, [.ref qb, .int qn'])), (qb, .inl (cB, 160, .inl qf)), (sa, .inr (4, [.ref sb, .int sn'])), (sb, .inl (cB, 200, .inl sf)), (pa, .inr (4, [.ref pb, .int pn'])), (pb, .inl (cB, 64, .inl pf)), (da, .inr (4, [.ref db, .int dn])), (db, .inl (cB, 160, .inl df)), (ha, .inr (2, [.ref pa, .ref qa])), (ka, .inr (3, [.ref pa, .ref qa, .ref ha, .ref ta, .int an, .int mt, .int co])), (ta, .inl (cI, 32, .inl tf)), (wa, .inr (6, [.ref qa, .ref sa])), (va, .inr (1, [.ref qa, .ref sa])), (hb, .inr (2, [.ref pa, .ref da])), (hc, .inr (2, [.ref pa, .ref da])), (ea, .inr (5, [.ref sa, .ref da, .ref hb, .int ra, .int rr])), (ua, .inr (0, [.ref sa, .ref da, .ref hc, .int zra, .int zrr, .int zrp])), (ma, .inr (8, [.int th, .ref mb, .ref mz, .int mc, .int cp, .ref mh, .int bg, .int en, .ref me, .int ou, .int mp, .int fa])), (mb, .inl (cI, 600, .inl mf)), (mz, .inl (cI, 3, .inl sz)), (mh, .inl (cI, 224, .inl hi)), (me, .inl (cI, 32, .inl tb)), (oa, .inl (cJ, 1, .inr (.inl ox')))]) (by simp only [setsW, List.set]) cl_L_59 rfl rfl ⟨Nat.le_of_ble_eq_true rfl, Nat.le_of_ble_eq_true rfl⟩ hf rfl (Nat.le_of_ble_eq_true rfl) zd_L_law_188 rfl ?_
  refine G_istore F zd_L_law_191 (by decide) (L' := [(5, .int (0 : Int32)), (0, .ref sc), (1, .ref xa), (2, .ref ma), (3, .ref oa), (4, .int i)]) rfl ?_
  refine G_aload_n F zd_L_law_193 rfl (j := 3) rfl ?_
  refine G_aload_n F zd_L_law_194 rfl (j := 1) rfl ?_
  refine G_iload F zd_L_law_195 (j := 5) rfl ?_
  refine G_iconst (v := (1 : Int32)) F zd_L_law_197 (by decide) ?_
  refine G_iadd F zd_L_law_198 ?_
  refine G_sld F S zd_L_law_199 g1 ?_
  refine G_calliV F (zk_M_empty l D cB cI cJ ma mb mz mh me th mf sz mc cp hi bg en tb ou mp fa (xs (Int32.toNatClampNeg (i + (1 : Int32)))) rm (0 : Int32) sz' h2) (rest := []) [18, 19, 20, 21, 22] rfl rfl rfl (ws' := [(xa, .inr (7, [.ref qa, .ref sa, .ref pa, .ref da, .ref ka, .ref wa, .ref va, .ref ea, .ref ua])), (qa, .inr (4, [.ref qb, .int qn'])), (qb, .inl (cB, 160, .inl qf)), (sa, .inr (4, [.ref sb, .int sn'])), (sb, .inl (cB, 200, .inl sf)), (pa, .inr (4, [.ref pb, .int pn'])), (pb, .inl (cB, 64, .inl pf)), (da, .inr (4, [.ref db, .int dn])), (db, .inl (cB, 160, .inl df)), (ha, .inr (2, [.ref pa, .ref qa])), (ka, .inr (3, [.ref pa, .ref qa, .ref ha, .ref ta, .int an, .int mt, .int co])), (ta, .inl (cI, 32, .inl tf)), (wa, .inr (6, [.ref qa, .ref sa])), (va, .inr (1, [.ref qa, .ref sa])), (hb, .inr (2, [.ref pa, .ref da])), (hc, .inr (2, [.ref pa, .ref da])), (ea, .inr (5, [.ref sa, .ref da, .ref hb, .int ra, .int rr])), (ua, .inr (0, [.ref sa, .ref da, .ref hc, .int zra, .int zrr, .int zrp])), (ma, .inr (8, [.int (0 : Int32), .ref mb, .ref mz, .int mc, .int cp, .ref mh, .int bg, .int en, .ref me, .int ou, .int mp, .int fa])), (mb, .inl (cI, 600, .inl mf)), (mz, .inl (cI, 3, .inl sz')), (mh, .inl (cI, 224, .inl hi)), (me, .inl (cI, 32, .inl tb)), (oa, .inl (cJ, 1, .inr (.inl ox')))]) (by simp only [setsW, List.set]) (q0 := 18) rfl cv_L_62_M rfl rfl ⟨Nat.le_of_ble_eq_true rfl, Nat.le_of_ble_eq_true rfl⟩ hf rfl (Nat.le_of_ble_eq_true rfl) zd_L_law_200 rfl ?_
  refine G_istore F zd_L_law_203 (by decide) (L' := [(6, .int rm), (5, .int (0 : Int32)), (0, .ref sc), (1, .ref xa), (2, .ref ma), (3, .ref oa), (4, .int i)]) rfl ?_
  refine G_aload_n F zd_L_law_205 rfl (j := 4) rfl ?_
  refine G_calliV0 F (zk_M_thrown l D cB cI cJ ma mb mz mh me (0 : Int32) mf sz' mc cp hi bg en tb ou mp fa (0 : Int32) rfl) (rest := []) [18, 19, 20, 21, 22] rfl rfl (q0 := 18) rfl cv_L_55_M rfl rfl ⟨Nat.le_of_ble_eq_true rfl, Nat.le_of_ble_eq_true rfl⟩ hf rfl (Nat.le_of_ble_eq_true rfl) zd_L_law_206 rfl ?_
  refine G_iload F zd_L_law_209 (j := 1) rfl ?_
  refine G_icmp_eq F zd_L_law_211 (tgt := 216) rfl (fun _ => ?_) (fun h0 => absurd rfl h0)
  refine G_iload F zd_L_law_216 (j := 1) rfl ?_
  refine G_if_ne F zd_L_law_218 (tgt := 233) rfl (fun h0 => absurd rfl h0) (fun _ => ?_)
  refine G_aload_n F zd_L_law_221 rfl (j := 5) rfl ?_
  refine G_iconst (v := (0 : Int32)) F zd_L_law_222 (by decide) ?_
  refine G_laload F zd_L_law_223 (q := 23) rfl (by decide) ?_
  refine G_iload F zd_L_law_224 (j := 0) rfl ?_
  refine G_i2l F zd_L_law_226 ?_
  refine G_lcmp F zd_L_law_227 ?_
  refine G_topi (y := (0 : Int32)) hx.symm ?_
  refine G_if_eq F zd_L_law_228 (tgt := 233) rfl (fun _ => ?_) (fun h0 => absurd rfl h0)
  refine G_goto F zd_L_law_233 (tgt := 652) rfl ?_
  exact G_lv [2, 3, 4, 5, 6] rfl kk

set_option maxHeartbeats 4000000 in
set_option maxRecDepth 100000 in
theorem zs_empty_IA {k : GC} {l : Launch} (hl : l.stackTraces = false) {D : va_G} {cB cI cJ : ClassId} (F : GF k l room_1 zc_L_law 7 RL D cB cI cJ) (X : XF k) {sc Ls : Nat} {xs : Nat → Int32} (S : SX k sc Ls xs) {cells slots : Nat} (hf1 : cells + 1 ≤ room_1.cells ∧ slots + 6 ≤ room_1.slots) (xa : Nat) (qa : Nat) (qb : Nat) (sa : Nat) (sb : Nat) (pa : Nat) (pb : Nat) (da : Nat) (db : Nat) (ka : Nat) (ha : Nat) (ta : Nat) (wa : Nat) (va : Nat) (hb : Nat) (hc : Nat) (ea : Nat) (ua : Nat) (ma : Nat) (mb : Nat) (mz : Nat) (mh : Nat) (me : Nat) (oa : Nat) (qn : Int32) (qf : Nat → Int32) (sn : Int32) (sf : Nat → Int32) (pn : Int32) (pf : Nat → Int32) (dn : Int32) (df : Nat → Int32) (tf : Nat → Int32) (an : Int32) (mt : Int32) (co : Int32) (ra : Int32) (rr : Int32) (zra : Int32) (zrr : Int32) (zrp : Int32) (th : Int32) (mf : Nat → Int32) (sz : Nat → Int32) (mc : Int32) (cp : Int32) (hi : Nat → Int32) (bg : Int32) (en : Int32) (tb : Nat → Int32) (ou : Int32) (mp : Int32) (fa : Int32) (ox : Nat → Int64) (i : Int32) (g1 : ¬ ((i + (1 : Int32)) < 0 ∨ Ls ≤ Int32.toNatClampNeg (i + (1 : Int32)))) (rm : Int32) (sz' : Nat → Int32) (h1 : zf_X_empty_IA (xs (Int32.toNatClampNeg (i + (1 : Int32)))) = some ()) (h2 : zf_M_empty sz (xs (Int32.toNatClampNeg (i + (1 : Int32)))) = some (rm, (1 : Int32), sz')) (kk : G D 7 k (cells + 1) (slots + 6) 652 [(0, .ref sc), (1, .ref xa), (2, .ref ma), (3, .ref oa), (4, .int i)] [] [(xa, .inr (7, [.ref qa, .ref sa, .ref pa, .ref da, .ref ka, .ref wa, .ref va, .ref ea, .ref ua])), (qa, .inr (4, [.ref qb, .int qn])), (qb, .inl (cB, 160, .inl qf)), (sa, .inr (4, [.ref sb, .int sn])), (sb, .inl (cB, 200, .inl sf)), (pa, .inr (4, [.ref pb, .int pn])), (pb, .inl (cB, 64, .inl pf)), (da, .inr (4, [.ref db, .int dn])), (db, .inl (cB, 160, .inl df)), (ha, .inr (2, [.ref pa, .ref qa])), (ka, .inr (3, [.ref pa, .ref qa, .ref ha, .ref ta, .int an, .int mt, .int co])), (ta, .inl (cI, 32, .inl tf)), (wa, .inr (6, [.ref qa, .ref sa])), (va, .inr (1, [.ref qa, .ref sa])), (hb, .inr (2, [.ref pa, .ref da])), (hc, .inr (2, [.ref pa, .ref da])), (ea, .inr (5, [.ref sa, .ref da, .ref hb, .int ra, .int rr])), (ua, .inr (0, [.ref sa, .ref da, .ref hc, .int zra, .int zrr, .int zrp])), (ma, .inr (8, [.int (1 : Int32), .ref mb, .ref mz, .int mc, .int cp, .ref mh, .int bg, .int en, .ref me, .int ou, .int mp, .int fa])), (mb, .inl (cI, 600, .inl mf)), (mz, .inl (cI, 3, .inl sz')), (mh, .inl (cI, 224, .inl hi)), (me, .inl (cI, 32, .inl tb)), (oa, .inl (cJ, 1, .inr (.inl ox)))]) : G D 7 k cells slots 180 [(0, .ref sc), (1, .ref xa), (2, .ref ma), (3, .ref oa), (4, .int i)] [] [(xa, .inr (7, [.ref qa, .ref sa, .ref pa, .ref da, .ref ka, .ref wa, .ref va, .ref ea, .ref ua])), (qa, .inr (4, [.ref qb, .int qn])), (qb, .inl (cB, 160, .inl qf)), (sa, .inr (4, [.ref sb, .int sn])), (sb, .inl (cB, 200, .inl sf)), (pa, .inr (4, [.ref pb, .int pn])), (pb, .inl (cB, 64, .inl pf)), (da, .inr (4, [.ref db, .int dn])), (db, .inl (cB, 160, .inl df)), (ha, .inr (2, [.ref pa, .ref qa])), (ka, .inr (3, [.ref pa, .ref qa, .ref ha, .ref ta, .int an, .int mt, .int co])), (ta, .inl (cI, 32, .inl tf)), (wa, .inr (6, [.ref qa, .ref sa])), (va, .inr (1, [.ref qa, .ref sa])), (hb, .inr (2, [.ref pa, .ref da])), (hc, .inr (2, [.ref pa, .ref da])), (ea, .inr (5, [.ref sa, .ref da, .ref hb, .int ra, .int rr])), (ua, .inr (0, [.ref sa, .ref da, .ref hc, .int zra, .int zrr, .int zrp])), (ma, .inr (8, [.int th, .ref mb, .ref mz, .int mc, .int cp, .ref mh, .int bg, .int en, .ref me, .int ou, .int mp, .int fa])), (mb, .inl (cI, 600, .inl mf)), (mz, .inl (cI, 3, .inl sz)), (mh, .inl (cI, 224, .inl hi)), (me, .inl (cI, 32, .inl tb)), (oa, .inl (cJ, 1, .inr (.inl ox)))] := by
  refine G_aload_n F zd_L_law_180 rfl (j := 1) rfl ?_
  refine G_aload_n F zd_L_law_181 rfl (j := 0) rfl ?_
  refine G_iload F zd_L_law_182 (j := 4) rfl ?_
  refine G_iconst (v := (1 : Int32)) F zd_L_law_184 (by decide) ?_
  refine G_iadd F zd_L_law_185 ?_
  refine G_sld F S zd_L_law_186 g1 ?_
  refine G_aload_n F zd_L_law_187 rfl (j := 3) rfl ?_
  refine G_calliC F X (zx_L_empty_IA l hl D cB cI cJ xa qa qb sa sb pa pb da db ka ha ta wa va hb hc ea ua oa qn qf sn sf pn pf dn df tf an mt co ra rr zra zrr zrp (xs (Int32.toNatClampNeg (i + (1 : Int32)))) ox h1) (rest := []) [0, 1, 2, 3, 4, 5, 6, 7, 8, 9, 10, 11, 12, 13, 14, 15, 16, 17, 23] rfl rfl cl_L_59 rfl rfl ⟨Nat.le_of_ble_eq_true rfl, Nat.le_of_ble_eq_true rfl⟩ hf1 rfl (Nat.le_of_ble_eq_true rfl) zd_L_law_188 rfl ?_
  refine G_istore F zd_L_law_191 (by decide) (L' := [(5, .int (1 : Int32)), (0, .ref sc), (1, .ref xa), (2, .ref ma), (3, .ref oa), (4, .int i)]) rfl ?_
  refine G_aload_n F zd_L_law_193 rfl (j := 3) rfl ?_
  refine G_aload_n F zd_L_law_194 rfl (j := 1) rfl ?_
  refine G_iload F zd_L_law_195 (j := 5) rfl ?_
  refine G_iconst (v := (1 : Int32)) F zd_L_law_197 (by decide) ?_
  refine G_iadd F zd_L_law_198 ?_
  refine G_sld F S zd_L_law_199 g1 ?_
  refine G_calliV F (zk_M_empty l D cB cI cJ ma mb mz mh me th mf sz mc cp hi bg en tb ou mp fa (xs (Int32.toNatClampNeg (i + (1 : Int32)))) rm (1 : Int32) sz' h2) (rest := []) [18, 19, 20, 21, 22] rfl rfl rfl (ws' := [(xa, .inr (7, [.ref qa, .ref sa, .ref pa, .ref da, .ref ka, .ref wa, .ref va, .ref ea, .ref ua])), (qa, .inr (4, [.ref qb, .int qn])), (qb, .inl (cB, 160, .inl qf)), (sa, .inr (4, [.ref sb, .int sn])), (sb, .inl (cB, 200, .inl sf)), (pa, .inr (4, [.ref pb, .int pn])), (pb, .inl (cB, 64, .inl pf)), (da, .inr (4, [.ref db, .int dn])), (db, .inl (cB, 160, .inl df)), (ha, .inr (2, [.ref pa, .ref qa])), (ka, .inr (3, [.ref pa, .ref qa, .ref ha, .ref ta, .int an, .int mt, .int co])), (ta, .inl (cI, 32, .inl tf)), (wa, .inr (6, [.ref qa, .ref sa])), (va, .inr (1, [.ref qa, .ref sa])), (hb, .inr (2, [.ref pa, .ref da])), (hc, .inr (2, [.ref pa, .ref da])), (ea, .inr (5, [.ref sa, .ref da, .ref hb, .int ra, .int rr])), (ua, .inr (0, [.ref sa, .ref da, .ref hc, .int zra, .int zrr, .int zrp])), (ma, .inr (8, [.int (1 : Int32), .ref mb, .ref mz, .int mc, .int cp, .ref mh, .int bg, .int en, .ref me, .int ou, .int mp, .int fa])), (mb, .inl (cI, 600, .inl mf)), (mz, .inl (cI, 3, .inl sz')), (mh, .inl (cI, 224, .inl hi)), (me, .inl (cI, 32, .inl tb)), (oa, .inl (cJ, 1, .inr (.inl ox)))]) (by simp only [setsW, List.set]) (q0 := 18) rfl cv_L_62_M rfl rfl ⟨Nat.le_of_ble_eq_true rfl, Nat.le_of_ble_eq_true rfl⟩ hf1 rfl (Nat.le_of_ble_eq_true rfl) zd_L_law_200 rfl ?_
  refine G_istore F zd_L_law_203 (by decide) (L' := [(6, .int rm), (5, .int (1 : Int32)), (0, .ref sc), (1, .ref xa), (2, .ref ma), (3, .ref oa), (4, .int i)]) rfl ?_
  refine G_aload_n F zd_L_law_205 rfl (j := 4) rfl ?_
  refine G_calliV0 F (zk_M_thrown l D cB cI cJ ma mb mz mh me (1 : Int32) mf sz' mc cp hi bg en tb ou mp fa (1 : Int32) rfl) (rest := []) [18, 19, 20, 21, 22] rfl rfl (q0 := 18) rfl cv_L_55_M rfl rfl ⟨Nat.le_of_ble_eq_true rfl, Nat.le_of_ble_eq_true rfl⟩ hf1 rfl (Nat.le_of_ble_eq_true rfl) zd_L_law_206 rfl ?_
  refine G_iload F zd_L_law_209 (j := 1) rfl ?_
  refine G_icmp_eq F zd_L_law_211 (tgt := 216) rfl (fun _ => ?_) (fun h0 => absurd rfl h0)
  refine G_iload F zd_L_law_216 (j := 1) rfl ?_
  refine G_if_ne F zd_L_law_218 (tgt := 233) rfl (fun _ => ?_) (fun h0 => absurd h0 (by decide))
  refine G_goto F zd_L_law_233 (tgt := 652) rfl ?_
  exact G_lv [2, 3, 4, 5, 6] rfl kk

set_option maxHeartbeats 4000000 in
set_option maxRecDepth 100000 in
theorem zs_pack_N {k : GC} {l : Launch} (hl : l.stackTraces = false) {D : va_G} {cB cI cJ : ClassId} (F : GF k l room_1 zc_L_law 7 RL D cB cI cJ) (X : XF k) {sc Ls : Nat} {xs : Nat → Int32} (S : SX k sc Ls xs) {cells slots : Nat} (hf : cells ≤ room_1.cells ∧ slots ≤ room_1.slots) (xa : Nat) (qa : Nat) (qb : Nat) (sa : Nat) (sb : Nat) (pa : Nat) (pb : Nat) (da : Nat) (db : Nat) (ka : Nat) (ha : Nat) (ta : Nat) (wa : Nat) (va : Nat) (hb : Nat) (hc : Nat) (ea : Nat) (ua : Nat) (ma : Nat) (mb : Nat) (mz : Nat) (mh : Nat) (me : Nat) (oa : Nat) (qn : Int32) (qf : Nat → Int32) (sn : Int32) (sf : Nat → Int32) (pn : Int32) (pf : Nat → Int32) (dn : Int32) (df : Nat → Int32) (tf : Nat → Int32) (an : Int32) (mt : Int32) (co : Int32) (ra : Int32) (rr : Int32) (zra : Int32) (zrr : Int32) (zrp : Int32) (th : Int32) (mf : Nat → Int32) (sz : Nat → Int32) (mc : Int32) (cp : Int32) (hi : Nat → Int32) (bg : Int32) (en : Int32) (tb : Nat → Int32) (ou : Int32) (mp : Int32) (fa : Int32) (ox : Nat → Int64) (i : Int32) (g1 : ¬ ((i + (1 : Int32)) < 0 ∨ Ls ≤ Int32.toNatClampNeg (i + (1 : Int32)))) (sn' : Int32) (sf' : Nat → Int32) (an' : Int32) (mt' : Int32) (co' : Int32) (tf' : Nat → Int32) (ox' : Nat → Int64) (rm : Int32) (mc' : Int32) (cp' : Int32) (bg' : Int32) (en' : Int32) (ou' : Int32) (mf' : Nat → Int32) (sz' : Nat → Int32) (hi' : Nat → Int32) (tb' : Nat → Int32) (h1 : zf_L_pack qn qf sf pn pf tf (xs (Int32.toNatClampNeg (i + (1 : Int32)))) ox = some ((0 : Int32), sn', sf', an', mt', co', tf', ox')) (h2 : zf_M_pack mf sz mc cp hi bg en tb ou (xs (Int32.toNatClampNeg (i + (1 : Int32)))) = some (rm, (0 : Int32), mc', cp', bg', en', ou', mf', sz', hi', tb')) (hx : lg_cmp (ox' (Int32.toNatClampNeg (0 : Int32))) (rm.toInt64) = 0) (kk : G D 7 k cells slots 652 [(0, .ref sc), (1, .ref xa), (2, .ref ma), (3, .ref oa), (4, .int i)] [] [(xa, .inr (7, [.ref qa, .ref sa, .ref pa, .ref da, .ref ka, .ref wa, .ref va, .ref ea, .ref ua])), (qa, .inr (4, [.ref qb, .int qn])), (qb, .inl (cB, 160, .inl qf)), (sa, .inr (4, [.ref sb, .int sn'])), (sb, .inl (cB, 200, .inl sf')), (pa, .inr (4, [.ref pb, .int pn])), (pb, .inl (cB, 64, .inl pf)), (da, .inr (4, [.ref db, .int dn])), (db, .inl (cB, 160, .inl df)), (ha, .inr (2, [.ref pa, .ref qa])), (ka, .inr (3, [.ref pa, .ref qa, .ref ha, .ref ta, .int an', .int mt', .int co'])), (ta, .inl (cI, 32, .inl tf')), (wa, .inr (6, [.ref qa, .ref sa])), (va, .inr (1, [.ref qa, .ref sa])), (hb, .inr (2, [.ref pa, .ref da])), (hc, .inr (2, [.ref pa, .ref da])), (ea, .inr (5, [.ref sa, .ref da, .ref hb, .int ra, .int rr])), (ua, .inr (0, [.ref sa, .ref da, .ref hc, .int zra, .int zrr, .int zrp])), (ma, .inr (8, [.int (0 : Int32), .ref mb, .ref mz, .int mc', .int cp', .ref mh, .int bg', .int en', .ref me, .int ou', .int mp, .int fa])), (mb, .inl (cI, 600, .inl mf')), (mz, .inl (cI, 3, .inl sz')), (mh, .inl (cI, 224, .inl hi')), (me, .inl (cI, 32, .inl tb')), (oa, .inl (cJ, 1, .inr (.inl ox')))]) : G D 7 k cells slots 236 [(0, .ref sc), (1, .ref xa), (2, .ref ma), (3, .ref oa), (4, .int i)] [] [(xa, .inr (7, [.ref qa, .ref sa, .ref pa, .ref da, .ref ka, .ref wa, .ref va, .ref ea, .ref ua])), (qa, .inr (4, [.ref qb, .int qn])), (qb, .inl (cB, 160, .inl qf)), (sa, .inr (4, [.ref sb, .int sn])), (sb, .inl (cB, 200, .inl sf)), (pa, .inr (4, [.ref pb, .int pn])), (pb, .inl (cB, 64, .inl pf)), (da, .inr (4, [.ref db, .int dn])), (db, .inl (cB, 160, .inl df)), (ha, .inr (2, [.ref pa, .ref qa])), (ka, .inr (3, [.ref pa, .ref qa, .ref ha, .ref ta, .int an, .int mt, .int co])), (ta, .inl (cI, 32, .inl tf)), (wa, .inr (6, [.ref qa, .ref sa])), (va, .inr (1, [.ref qa, .ref sa])), (hb, .inr (2, [.ref pa, .ref da])), (hc, .inr (2, [.ref pa, .ref da])), (ea, .inr (5, [.ref sa, .ref da, .ref hb, .int ra, .int rr])), (ua, .inr (0, [.ref sa, .ref da, .ref hc, .int zra, .int zrr, .int zrp])), (ma, .inr (8, [.int th, .ref mb, .ref mz, .int mc, .int cp, .ref mh, .int bg, .int en, .ref me, .int ou, .int mp, .int fa])), (mb, .inl (cI, 600, .inl mf)), (mz, .inl (cI, 3, .inl sz)), (mh, .inl (cI, 224, .inl hi)), (me, .inl (cI, 32, .inl tb)), (oa, .inl (cJ, 1, .inr (.inl ox)))] := by
  refine G_aload_n F zd_L_law_236 rfl (j := 1) rfl ?_
  refine G_aload_n F zd_L_law_237 rfl (j := 0) rfl ?_
  refine G_iload F zd_L_law_238 (j := 4) rfl ?_
  refine G_iconst (v := (1 : Int32)) F zd_L_law_240 (by decide) ?_
  refine G_iadd F zd_L_law_241 ?_
  refine G_sld F S zd_L_law_242 g1 ?_
  refine G_aload_n F zd_L_law_243 rfl (j := 3) rfl ?_
  refine G_calliW F (zk_L_pack l D cB cI cJ xa qa qb sa sb pa pb da db ka ha ta wa va hb hc ea ua oa qn qf sn sf pn pf dn df tf an mt co ra rr zra zrr zrp (xs (Int32.toNatClampNeg (i + (1 : Int32)))) ox (0 : Int32) sn' sf' an' mt' co' tf' ox' h1) (rest := []) [0, 1, 2, 3, 4, 5, 6, 7, 8, 9, 10, 11, 12, 13, 14, 15, 16, 17, 23] rfl rfl rfl (ws' := [(xa, .inr (7, [.ref qa, .ref sa, .ref pa, .ref da, .ref ka, .ref wa, .ref va, .ref ea, .ref ua])), (qa, .inr (4, [.ref qb, .int qn])), (qb, .inl (cB, 160, .inl qf)), (sa, .inr (4, [.ref sb, .int sn'])), (sb, .inl (cB, 200, .inl sf')), (pa, .inr (4, [.ref pb, .int pn])), (pb, .inl (cB, 64, .inl pf)), (da, .inr (4, [.ref db, .int dn])), (db, .inl (cB, 160, .inl df)), (ha, .inr (2, [.ref pa, .ref qa])), (ka, .inr (3, [.ref pa, .ref qa, .ref ha, .ref ta, .int an', .int mt', .int co'])), (ta, .inl (cI, 32, .inl tf')), (wa, .inr (6, [.ref qa, .ref sa])), (va, .inr (1, [.ref qa, .ref sa])), (hb, .inr (2, [.ref pa, .ref da])), (hc, .inr (2, [.ref pa, .ref da])), (ea, .inr (5, [.ref sa, .ref da, .ref hb, .int ra, .int rr])), (ua, .inr (0, [.ref sa, .ref da, .ref hc, .int zra, .int zrr, .int zrp])), (ma, .inr (8, [.int th, .ref mb, .ref mz, .int mc, .int cp, .ref mh, .int bg, .int en, .ref me, .int ou, .int mp, .int fa])), (mb, .inl (cI, 600, .inl mf)), (mz, .inl (cI, 3, .inl sz)), (mh, .inl (cI, 224, .inl hi)), (me, .inl (cI, 32, .inl tb)), (oa, .inl (cJ, 1, .inr (.inl ox')))]) (by simp only [setsW, List.set]) cl_L_63 rfl rfl ⟨Nat.le_of_ble_eq_true rfl, Nat.le_of_ble_eq_true rfl⟩ hf rfl (Nat.le_of_ble_eq_true rfl) zd_L_law_244 rfl ?_
  refine G_istore F zd_L_law_247 (by decide) (L' := [(5, .int (0 : Int32)), (0, .ref sc), (1, .ref xa), (2, .ref ma), (3, .ref oa), (4, .int i)]) rfl ?_
  refine G_aload_n F zd_L_law_249 rfl (j := 3) rfl ?_
  refine G_aload_n F zd_L_law_250 rfl (j := 1) rfl ?_
  refine G_iload F zd_L_law_251 (j := 5) rfl ?_
  refine G_iconst (v := (1 : Int32)) F zd_L_law_253 (by decide) ?_
  refine G_iadd F zd_L_law_254 ?_
  refine G_sld F S zd_L_law_255 g1 ?_
  refine G_calliV F (zk_M_pack l D cB cI cJ ma mb mz mh me th mf sz mc cp hi bg en tb ou mp fa (xs (Int32.toNatClampNeg (i + (1 : Int32)))) rm (0 : Int32) mc' cp' bg' en' ou' mf' sz' hi' tb' h2) (rest := []) [18, 19, 20, 21, 22] rfl rfl rfl (ws' := [(xa, .inr (7, [.ref qa, .ref sa, .ref pa, .ref da, .ref ka, .ref wa, .ref va, .ref ea, .ref ua])), (qa, .inr (4, [.ref qb, .int qn])), (qb, .inl (cB, 160, .inl qf)), (sa, .inr (4, [.ref sb, .int sn'])), (sb, .inl (cB, 200, .inl sf')), (pa, .inr (4, [.ref pb, .int pn])), (pb, .inl (cB, 64, .inl pf)), (da, .inr (4, [.ref db, .int dn])), (db, .inl (cB, 160, .inl df)), (ha, .inr (2, [.ref pa, .ref qa])), (ka, .inr (3, [.ref pa, .ref qa, .ref ha, .ref ta, .int an', .int mt', .int co'])), (ta, .inl (cI, 32, .inl tf')), (wa, .inr (6, [.ref qa, .ref sa])), (va, .inr (1, [.ref qa, .ref sa])), (hb, .inr (2, [.ref pa, .ref da])), (hc, .inr (2, [.ref pa, .ref da])), (ea, .inr (5, [.ref sa, .ref da, .ref hb, .int ra, .int rr])), (ua, .inr (0, [.ref sa, .ref da, .ref hc, .int zra, .int zrr, .int zrp])), (ma, .inr (8, [.int (0 : Int32), .ref mb, .ref mz, .int mc', .int cp', .ref mh, .int bg', .int en', .ref me, .int ou', .int mp, .int fa])), (mb, .inl (cI, 600, .inl mf')), (mz, .inl (cI, 3, .inl sz')), (mh, .inl (cI, 224, .inl hi')), (me, .inl (cI, 32, .inl tb')), (oa, .inl (cJ, 1, .inr (.inl ox')))]) (by simp only [setsW, List.set]) (q0 := 18) rfl cv_L_65_M rfl rfl ⟨Nat.le_of_ble_eq_true rfl, Nat.le_of_ble_eq_true rfl⟩ hf rfl (Nat.le_of_ble_eq_true rfl) zd_L_law_256 rfl ?_
  refine G_istore F zd_L_law_259 (by decide) (L' := [(6, .int rm), (5, .int (0 : Int32)), (0, .ref sc), (1, .ref xa), (2, .ref ma), (3, .ref oa), (4, .int i)]) rfl ?_
  refine G_aload_n F zd_L_law_261 rfl (j := 4) rfl ?_
  refine G_calliV0 F (zk_M_thrown l D cB cI cJ ma mb mz mh me (0 : Int32) mf' sz' mc' cp' hi' bg' en' tb' ou' mp fa (0 : Int32) rfl) (rest := []) [18, 19, 20, 21, 22] rfl rfl (q0 := 18) rfl cv_L_55_M rfl rfl ⟨Nat.le_of_ble_eq_true rfl, Nat.le_of_ble_eq_true rfl⟩ hf rfl (Nat.le_of_ble_eq_true rfl) zd_L_law_262 rfl ?_
  refine G_iload F zd_L_law_265 (j := 1) rfl ?_
  refine G_icmp_eq F zd_L_law_267 (tgt := 272) rfl (fun _ => ?_) (fun h0 => absurd rfl h0)
  refine G_iload F zd_L_law_272 (j := 1) rfl ?_
  refine G_if_ne F zd_L_law_274 (tgt := 289) rfl (fun h0 => absurd rfl h0) (fun _ => ?_)
  refine G_aload_n F zd_L_law_277 rfl (j := 5) rfl ?_
  refine G_iconst (v := (0 : Int32)) F zd_L_law_278 (by decide) ?_
  refine G_laload F zd_L_law_279 (q := 23) rfl (by decide) ?_
  refine G_iload F zd_L_law_280 (j := 0) rfl ?_
  refine G_i2l F zd_L_law_282 ?_
  refine G_lcmp F zd_L_law_283 ?_
  refine G_topi (y := (0 : Int32)) hx.symm ?_
  refine G_if_eq F zd_L_law_284 (tgt := 289) rfl (fun _ => ?_) (fun h0 => absurd rfl h0)
  refine G_goto F zd_L_law_289 (tgt := 652) rfl ?_
  exact G_lv [2, 3, 4, 5, 6] rfl kk

set_option maxHeartbeats 4000000 in
set_option maxRecDepth 100000 in
theorem zs_pack_IA {k : GC} {l : Launch} (hl : l.stackTraces = false) {D : va_G} {cB cI cJ : ClassId} (F : GF k l room_1 zc_L_law 7 RL D cB cI cJ) (X : XF k) {sc Ls : Nat} {xs : Nat → Int32} (S : SX k sc Ls xs) {cells slots : Nat} (hf1 : cells + 1 ≤ room_1.cells ∧ slots + 6 ≤ room_1.slots) (xa : Nat) (qa : Nat) (qb : Nat) (sa : Nat) (sb : Nat) (pa : Nat) (pb : Nat) (da : Nat) (db : Nat) (ka : Nat) (ha : Nat) (ta : Nat) (wa : Nat) (va : Nat) (hb : Nat) (hc : Nat) (ea : Nat) (ua : Nat) (ma : Nat) (mb : Nat) (mz : Nat) (mh : Nat) (me : Nat) (oa : Nat) (qn : Int32) (qf : Nat → Int32) (sn : Int32) (sf : Nat → Int32) (pn : Int32) (pf : Nat → Int32) (dn : Int32) (df : Nat → Int32) (tf : Nat → Int32) (an : Int32) (mt : Int32) (co : Int32) (ra : Int32) (rr : Int32) (zra : Int32) (zrr : Int32) (zrp : Int32) (th : Int32) (mf : Nat → Int32) (sz : Nat → Int32) (mc : Int32) (cp : Int32) (hi : Nat → Int32) (bg : Int32) (en : Int32) (tb : Nat → Int32) (ou : Int32) (mp : Int32) (fa : Int32) (ox : Nat → Int64) (i : Int32) (g1 : ¬ ((i + (1 : Int32)) < 0 ∨ Ls ≤ Int32.toNatClampNeg (i + (1 : Int32)))) (rm : Int32) (mc' : Int32) (cp' : Int32) (bg' : Int32) (en' : Int32) (ou' : Int32) (mf' : Nat → Int32) (sz' : Nat → Int32) (hi' : Nat → Int32) (tb' : Nat → Int32) (h1 : zf_X_pack_IA (xs (Int32.toNatClampNeg (i + (1 : Int32)))) = some ()) (h2 : zf_M_pack mf sz mc cp hi bg en tb ou (xs (Int32.toNatClampNeg (i + (1 : Int32)))) = some (rm, (1 : Int32), mc', cp', bg', en', ou', mf', sz', hi', tb')) (kk : G D 7 k (cells + 1) (slots + 6) 652 [(0, .ref sc), (1, .ref xa), (2, .ref ma), (3, .ref oa), (4, .int i)] [] [(xa, .inr (7, [.ref qa, .ref sa, .ref pa, .ref da, .ref ka, .ref wa, .ref va, .ref ea, .ref ua])), (qa, .inr (4, [.ref qb, .int qn])), (qb, .inl (cB, 160, .inl qf)), (sa, .inr (4, [.ref sb, .int sn])), (sb, .inl (cB, 200, .inl sf)), (pa, .inr (4, [.ref pb, .int pn])), (pb, .inl (cB, 64, .inl pf)), (da, .inr (4, [.ref db, .int dn])), (db, .inl (cB, 160, .inl df)), (ha, .inr (2, [.ref pa, .ref qa])), (ka, .inr (3, [.ref pa, .ref qa, .ref ha, .ref ta, .int an, .int mt, .int co])), (ta, .inl (cI, 32, .inl tf)), (wa, .inr (6, [.ref qa, .ref sa])), (va, .inr (1, [.ref qa, .ref sa])), (hb, .inr (2, [.ref pa, .ref da])), (hc, .inr (2, [.ref pa, .ref da])), (ea, .inr (5, [.ref sa, .ref da, .ref hb, .int ra, .int rr])), (ua, .inr (0, [.ref sa, .ref da, .ref hc, .int zra, .int zrr, .int zrp])), (ma, .inr (8, [.int (1 : Int32), .ref mb, .ref mz, .int mc', .int cp', .ref mh, .int bg', .int en', .ref me, .int ou', .int mp, .int fa])), (mb, .inl (cI, 600, .inl mf')), (mz, .inl (cI, 3, .inl sz')), (mh, .inl (cI, 224, .inl hi')), (me, .inl (cI, 32, .inl tb')), (oa, .inl (cJ, 1, .inr (.inl ox)))]) : G D 7 k cells slots 236 [(0, .ref sc), (1, .ref xa), (2, .ref ma), (3, .ref oa), (4, .int i)] [] [(xa, .inr (7, [.ref qa, .ref sa, .ref pa, .ref da, .ref ka, .ref wa, .ref va, .ref ea, .ref ua])), (qa, .inr (4, [.ref qb, .int qn])), (qb, .inl (cB, 160, .inl qf)), (sa, .inr (4, [.ref sb, .int sn])), (sb, .inl (cB, 200, .inl sf)), (pa, .inr (4, [.ref pb, .int pn])), (pb, .inl (cB, 64, .inl pf)), (da, .inr (4, [.ref db, .int dn])), (db, .inl (cB, 160, .inl df)), (ha, .inr (2, [.ref pa, .ref qa])), (ka, .inr (3, [.ref pa, .ref qa, .ref ha, .ref ta, .int an, .int mt, .int co])), (ta, .inl (cI, 32, .inl tf)), (wa, .inr (6, [.ref qa, .ref sa])), (va, .inr (1, [.ref qa, .ref sa])), (hb, .inr (2, [.ref pa, .ref da])), (hc, .inr (2, [.ref pa, .ref da])), (ea, .inr (5, [.ref sa, .ref da, .ref hb, .int ra, .int rr])), (ua, .inr (0, [.ref sa, .ref da, .ref hc, .int zra, .int zrr, .int zrp])), (ma, .inr (8, [.int th, .ref mb, .ref mz, .int mc, .int cp, .ref mh, .int bg, .int en, .ref me, .int ou, .int mp, .int fa])), (mb, .inl (cI, 600, .inl mf)), (mz, .inl (cI, 3, .inl sz)), (mh, .inl (cI, 224, .inl hi)), (me, .inl (cI, 32, .inl tb)), (oa, .inl (cJ, 1, .inr (.inl ox)))] := by
  refine G_aload_n F zd_L_law_236 rfl (j := 1) rfl ?_
  refine G_aload_n F zd_L_law_237 rfl (j := 0) rfl ?_
  refine G_iload F zd_L_law_238 (j := 4) rfl ?_
  refine G_iconst (v := (1 : Int32)) F zd_L_law_240 (by decide) ?_
  refine G_iadd F zd_L_law_241 ?_
  refine G_sld F S zd_L_law_242 g1 ?_
  refine G_aload_n F zd_L_law_243 rfl (j := 3) rfl ?_
  refine G_calliC F X (zx_L_pack_IA l hl D cB cI cJ xa qa qb sa sb pa pb da db ka ha ta wa va hb hc ea ua oa qn qf sn sf pn pf dn df tf an mt co ra rr zra zrr zrp (xs (Int32.toNatClampNeg (i + (1 : Int32)))) ox h1) (rest := []) [0, 1, 2, 3, 4, 5, 6, 7, 8, 9, 10, 11, 12, 13, 14, 15, 16, 17, 23] rfl rfl cl_L_63 rfl rfl ⟨Nat.le_of_ble_eq_true rfl, Nat.le_of_ble_eq_true rfl⟩ hf1 rfl (Nat.le_of_ble_eq_true rfl) zd_L_law_244 rfl ?_
  refine G_istore F zd_L_law_247 (by decide) (L' := [(5, .int (1 : Int32)), (0, .ref sc), (1, .ref xa), (2, .ref ma), (3, .ref oa), (4, .int i)]) rfl ?_
  refine G_aload_n F zd_L_law_249 rfl (j := 3) rfl ?_
  refine G_aload_n F zd_L_law_250 rfl (j := 1) rfl ?_
  refine G_iload F zd_L_law_251 (j := 5) rfl ?_
  refine G_iconst (v := (1 : Int32)) F zd_L_law_253 (by decide) ?_
  refine G_iadd F zd_L_law_254 ?_
  refine G_sld F S zd_L_law_255 g1 ?_
  refine G_calliV F (zk_M_pack l D cB cI cJ ma mb mz mh me th mf sz mc cp hi bg en tb ou mp fa (xs (Int32.toNatClampNeg (i + (1 : Int32)))) rm (1 : Int32) mc' cp' bg' en' ou' mf' sz' hi' tb' h2) (rest := []) [18, 19, 20, 21, 22] rfl rfl rfl (ws' := [(xa, .inr (7, [.ref qa, .ref sa, .ref pa, .ref da, .ref ka, .ref wa, .ref va, .ref ea, .ref ua])), (qa, .inr (4, [.ref qb, .int qn])), (qb, .inl (cB, 160, .inl qf)), (sa, .inr (4, [.ref sb, .int sn])), (sb, .inl (cB, 200, .inl sf)), (pa, .inr (4, [.ref pb, .int pn])), (pb, .inl (cB, 64, .inl pf)), (da, .inr (4, [.ref db, .int dn])), (db, .inl (cB, 160, .inl df)), (ha, .inr (2, [.ref pa, .ref qa])), (ka, .inr (3, [.ref pa, .ref qa, .ref ha, .ref ta, .int an, .int mt, .int co])), (ta, .inl (cI, 32, .inl tf)), (wa, .inr (6, [.ref qa, .ref sa])), (va, .inr (1, [.ref qa, .ref sa])), (hb, .inr (2, [.ref pa, .ref da])), (hc, .inr (2, [.ref pa, .ref da])), (ea, .inr (5, [.ref sa, .ref da, .ref hb, .int ra, .int rr])), (ua, .inr (0, [.ref sa, .ref da, .ref hc, .int zra, .int zrr, .int zrp])), (ma, .inr (8, [.int (1 : Int32), .ref mb, .ref mz, .int mc', .int cp', .ref mh, .int bg', .int en', .ref me, .int ou', .int mp, .int fa])), (mb, .inl (cI, 600, .inl mf')), (mz, .inl (cI, 3, .inl sz')), (mh, .inl (cI, 224, .inl hi')), (me, .inl (cI, 32, .inl tb')), (oa, .inl (cJ, 1, .inr (.inl ox)))]) (by simp only [setsW, List.set]) (q0 := 18) rfl cv_L_65_M rfl rfl ⟨Nat.le_of_ble_eq_true rfl, Nat.le_of_ble_eq_true rfl⟩ hf1 rfl (Nat.le_of_ble_eq_true rfl) zd_L_law_256 rfl ?_
  refine G_istore F zd_L_law_259 (by decide) (L' := [(6, .int rm), (5, .int (1 : Int32)), (0, .ref sc), (1, .ref xa), (2, .ref ma), (3, .ref oa), (4, .int i)]) rfl ?_
  refine G_aload_n F zd_L_law_261 rfl (j := 4) rfl ?_
  refine G_calliV0 F (zk_M_thrown l D cB cI cJ ma mb mz mh me (1 : Int32) mf' sz' mc' cp' hi' bg' en' tb' ou' mp fa (1 : Int32) rfl) (rest := []) [18, 19, 20, 21, 22] rfl rfl (q0 := 18) rfl cv_L_55_M rfl rfl ⟨Nat.le_of_ble_eq_true rfl, Nat.le_of_ble_eq_true rfl⟩ hf1 rfl (Nat.le_of_ble_eq_true rfl) zd_L_law_262 rfl ?_
  refine G_iload F zd_L_law_265 (j := 1) rfl ?_
  refine G_icmp_eq F zd_L_law_267 (tgt := 272) rfl (fun _ => ?_) (fun h0 => absurd rfl h0)
  refine G_iload F zd_L_law_272 (j := 1) rfl ?_
  refine G_if_ne F zd_L_law_274 (tgt := 289) rfl (fun _ => ?_) (fun h0 => absurd h0 (by decide))
  refine G_goto F zd_L_law_289 (tgt := 652) rfl ?_
  exact G_lv [2, 3, 4, 5, 6] rfl kk

set_option maxHeartbeats 4000000 in
set_option maxRecDepth 100000 in
theorem zs_unpack_N {k : GC} {l : Launch} (hl : l.stackTraces = false) {D : va_G} {cB cI cJ : ClassId} (F : GF k l room_1 zc_L_law 7 RL D cB cI cJ) (X : XF k) {sc Ls : Nat} {xs : Nat → Int32} (S : SX k sc Ls xs) {cells slots : Nat} (hf : cells ≤ room_1.cells ∧ slots ≤ room_1.slots) (xa : Nat) (qa : Nat) (qb : Nat) (sa : Nat) (sb : Nat) (pa : Nat) (pb : Nat) (da : Nat) (db : Nat) (ka : Nat) (ha : Nat) (ta : Nat) (wa : Nat) (va : Nat) (hb : Nat) (hc : Nat) (ea : Nat) (ua : Nat) (ma : Nat) (mb : Nat) (mz : Nat) (mh : Nat) (me : Nat) (oa : Nat) (qn : Int32) (qf : Nat → Int32) (sn : Int32) (sf : Nat → Int32) (pn : Int32) (pf : Nat → Int32) (dn : Int32) (df : Nat → Int32) (tf : Nat → Int32) (an : Int32) (mt : Int32) (co : Int32) (ra : Int32) (rr : Int32) (zra : Int32) (zrr : Int32) (zrp : Int32) (th : Int32) (mf : Nat → Int32) (sz : Nat → Int32) (mc : Int32) (cp : Int32) (hi : Nat → Int32) (bg : Int32) (en : Int32) (tb : Nat → Int32) (ou : Int32) (mp : Int32) (fa : Int32) (ox : Nat → Int64) (i : Int32) (g1 : ¬ ((i + (1 : Int32)) < 0 ∨ Ls ≤ Int32.toNatClampNeg (i + (1 : Int32)))) (qn' : Int32) (qf' : Nat → Int32) (dn' : Int32) (df' : Nat → Int32) (ra' : Int32) (rr' : Int32) (zra' : Int32) (zrr' : Int32) (zrp' : Int32) (ox' : Nat → Int64) (rm : Int32) (bg' : Int32) (en' : Int32) (mp' : Int32) (fa' : Int32) (mf' : Nat → Int32) (sz' : Nat → Int32) (hi' : Nat → Int32) (h1 : zf_L_unpack qn qf sn sf pn pf df ra rr zra zrr zrp (xs (Int32.toNatClampNeg (i + (1 : Int32)))) ox = some ((0 : Int32), qn', qf', dn', df', ra', rr', zra', zrr', zrp', ox')) (h2 : zf_M_unpack mf sz hi bg en mp fa (xs (Int32.toNatClampNeg (i + (1 : Int32)))) = some (rm, (0 : Int32), bg', en', mp', fa', mf', sz', hi')) (hx : lg_cmp (ox' (Int32.toNatClampNeg (0 : Int32))) (rm.toInt64) = 0) (kk : G D 7 k cells slots 652 [(0, .ref sc), (1, .ref xa), (2, .ref ma), (3, .ref oa), (4, .int i)] [] [(xa, .inr (7, [.ref qa, .ref sa, .ref pa, .ref da, .ref ka, .ref wa, .ref va, .ref ea, .ref ua])), (qa, .inr (4, [.ref qb, .int qn'])), (qb, .inl (cB, 160, .inl qf')), (sa, .inr (4, [.ref sb, .int sn])), (sb, .inl (cB, 200, .inl sf)), (pa, .inr (4, [.ref pb, .int pn])), (pb, .inl (cB, 64, .inl pf)), (da, .inr (4, [.ref db, .int dn'])), (db, .inl (cB, 160, .inl df')), (ha, .inr (2, [.ref pa, .ref qa])), (ka, .inr (3, [.ref pa, .ref qa, .ref ha, .ref ta, .int an, .int mt, .int co])), (ta, .inl (cI, 32, .inl tf)), (wa, .inr (6, [.ref qa, .ref sa])), (va, .inr (1, [.ref qa, .ref sa])), (hb, .inr (2, [.ref pa, .ref da])), (hc, .inr (2, [.ref pa, .ref da])), (ea, .inr (5, [.ref sa, .ref da, .ref hb, .int ra', .int rr'])), (ua, .inr (0, [.ref sa, .ref da, .ref hc, .int zra', .int zrr', .int zrp'])), (ma, .inr (8, [.int (0 : Int32), .ref mb, .ref mz, .int mc, .int cp, .ref mh, .int bg', .int en', .ref me, .int ou, .int mp', .int fa'])), (mb, .inl (cI, 600, .inl mf')), (mz, .inl (cI, 3, .inl sz')), (mh, .inl (cI, 224, .inl hi')), (me, .inl (cI, 32, .inl tb)), (oa, .inl (cJ, 1, .inr (.inl ox')))]) : G D 7 k cells slots 292 [(0, .ref sc), (1, .ref xa), (2, .ref ma), (3, .ref oa), (4, .int i)] [] [(xa, .inr (7, [.ref qa, .ref sa, .ref pa, .ref da, .ref ka, .ref wa, .ref va, .ref ea, .ref ua])), (qa, .inr (4, [.ref qb, .int qn])), (qb, .inl (cB, 160, .inl qf)), (sa, .inr (4, [.ref sb, .int sn])), (sb, .inl (cB, 200, .inl sf)), (pa, .inr (4, [.ref pb, .int pn])), (pb, .inl (cB, 64, .inl pf)), (da, .inr (4, [.ref db, .int dn])), (db, .inl (cB, 160, .inl df)), (ha, .inr (2, [.ref pa, .ref qa])), (ka, .inr (3, [.ref pa, .ref qa, .ref ha, .ref ta, .int an, .int mt, .int co])), (ta, .inl (cI, 32, .inl tf)), (wa, .inr (6, [.ref qa, .ref sa])), (va, .inr (1, [.ref qa, .ref sa])), (hb, .inr (2, [.ref pa, .ref da])), (hc, .inr (2, [.ref pa, .ref da])), (ea, .inr (5, [.ref sa, .ref da, .ref hb, .int ra, .int rr])), (ua, .inr (0, [.ref sa, .ref da, .ref hc, .int zra, .int zrr, .int zrp])), (ma, .inr (8, [.int th, .ref mb, .ref mz, .int mc, .int cp, .ref mh, .int bg, .int en, .ref me, .int ou, .int mp, .int fa])), (mb, .inl (cI, 600, .inl mf)), (mz, .inl (cI, 3, .inl sz)), (mh, .inl (cI, 224, .inl hi)), (me, .inl (cI, 32, .inl tb)), (oa, .inl (cJ, 1, .inr (.inl ox)))] := by
  refine G_aload_n F zd_L_law_292 rfl (j := 1) rfl ?_
  refine G_aload_n F zd_L_law_293 rfl (j := 0) rfl ?_
  refine G_iload F zd_L_law_294 (j := 4) rfl ?_
  refine G_iconst (v := (1 : Int32)) F zd_L_law_296 (by decide) ?_
  refine G_iadd F zd_L_law_297 ?_
  refine G_sld F S zd_L_law_298 g1 ?_
  refine G_aload_n F zd_L_law_299 rfl (j := 3) rfl ?_
  refine G_calliW F (zk_L_unpack l D cB cI cJ xa qa qb sa sb pa pb da db ka ha ta wa va hb hc ea ua oa qn qf sn sf pn pf dn df tf an mt co ra rr zra zrr zrp (xs (Int32.toNatClampNeg (i + (1 : Int32)))) ox (0 : Int32) qn' qf' dn' df' ra' rr' zra' zrr' zrp' ox' h1) (rest := []) [0, 1, 2, 3, 4, 5, 6, 7, 8, 9, 10, 11, 12, 13, 14, 15, 16, 17, 23] rfl rfl rfl (ws' := [(xa, .inr (7, [.ref qa, .ref sa, .ref pa, .ref da, .ref ka, .ref wa, .ref va, .ref ea, .ref ua])), (qa, .inr (4, [.ref qb, .int qn'])), (qb, .inl (cB, 160, .inl qf')), (sa, .inr (4, [.ref sb, .int sn])), (sb, .inl (cB, 200, .inl sf)), (pa, .inr (4, [.ref pb, .int pn])), (pb, .inl (cB, 64, .inl pf)), (da, .inr (4, [.ref db, .int dn'])), (db, .inl (cB, 160, .inl df')), (ha, .inr (2, [.ref pa, .ref qa])), (ka, .inr (3, [.ref pa, .ref qa, .ref ha, .ref ta, .int an, .int mt, .int co])), (ta, .inl (cI, 32, .inl tf)), (wa, .inr (6, [.ref qa, .ref sa])), (va, .inr (1, [.ref qa, .ref sa])), (hb, .inr (2, [.ref pa, .ref da])), (hc, .inr (2, [.ref pa, .ref da])), (ea, .inr (5, [.ref sa, .ref da, .ref hb, .int ra', .int rr'])), (ua, .inr (0, [.ref sa, .ref da, .ref hc, .int zra', .int zrr', .int zrp'])), (ma, .inr (8, [.int th, .ref mb, .ref mz, .int mc, .int cp, .ref mh, .int bg, .int en, .ref me, .int ou, .int mp, .int fa])), (mb, .inl (cI, 600, .inl mf)), (mz, .inl (cI, 3, .inl sz)), (mh, .inl (cI, 224, .inl hi)), (me, .inl (cI, 32, .inl tb)), (oa, .inl (cJ, 1, .inr (.inl ox')))]) (by simp only [setsW, List.set]) cl_L_66 rfl rfl ⟨Nat.le_of_ble_eq_true rfl, Nat.le_of_ble_eq_true rfl⟩ hf rfl (Nat.le_of_ble_eq_true rfl) zd_L_law_300 rfl ?_
  refine G_istore F zd_L_law_303 (by decide) (L' := [(5, .int (0 : Int32)), (0, .ref sc), (1, .ref xa), (2, .ref ma), (3, .ref oa), (4, .int i)]) rfl ?_
  refine G_aload_n F zd_L_law_305 rfl (j := 3) rfl ?_
  refine G_aload_n F zd_L_law_306 rfl (j := 1) rfl ?_
  refine G_iload F zd_L_law_307 (j := 5) rfl ?_
  refine G_iconst (v := (1 : Int32)) F zd_L_law_309 (by decide) ?_
  refine G_iadd F zd_L_law_310 ?_
  refine G_sld F S zd_L_law_311 g1 ?_
  refine G_calliV F (zk_M_unpack l D cB cI cJ ma mb mz mh me th mf sz mc cp hi bg en tb ou mp fa (xs (Int32.toNatClampNeg (i + (1 : Int32)))) rm (0 : Int32) bg' en' mp' fa' mf' sz' hi' h2) (rest := []) [18, 19, 20, 21, 22] rfl rfl rfl (ws' := [(xa, .inr (7, [.ref qa, .ref sa, .ref pa, .ref da, .ref ka, .ref wa, .ref va, .ref ea, .ref ua])), (qa, .inr (4, [.ref qb, .int qn'])), (qb, .inl (cB, 160, .inl qf')), (sa, .inr (4, [.ref sb, .int sn])), (sb, .inl (cB, 200, .inl sf)), (pa, .inr (4, [.ref pb, .int pn])), (pb, .inl (cB, 64, .inl pf)), (da, .inr (4, [.ref db, .int dn'])), (db, .inl (cB, 160, .inl df')), (ha, .inr (2, [.ref pa, .ref qa])), (ka, .inr (3, [.ref pa, .ref qa, .ref ha, .ref ta, .int an, .int mt, .int co])), (ta, .inl (cI, 32, .inl tf)), (wa, .inr (6, [.ref qa, .ref sa])), (va, .inr (1, [.ref qa, .ref sa])), (hb, .inr (2, [.ref pa, .ref da])), (hc, .inr (2, [.ref pa, .ref da])), (ea, .inr (5, [.ref sa, .ref da, .ref hb, .int ra', .int rr'])), (ua, .inr (0, [.ref sa, .ref da, .ref hc, .int zra', .int zrr', .int zrp'])), (ma, .inr (8, [.int (0 : Int32), .ref mb, .ref mz, .int mc, .int cp, .ref mh, .int bg', .int en', .ref me, .int ou, .int mp', .int fa'])), (mb, .inl (cI, 600, .inl mf')), (mz, .inl (cI, 3, .inl sz')), (mh, .inl (cI, 224, .inl hi')), (me, .inl (cI, 32, .inl tb)), (oa, .inl (cJ, 1, .inr (.inl ox')))]) (by simp only [setsW, List.set]) (q0 := 18) rfl cv_L_68_M rfl rfl ⟨Nat.le_of_ble_eq_true rfl, Nat.le_of_ble_eq_true rfl⟩ hf rfl (Nat.le_of_ble_eq_true rfl) zd_L_law_312 rfl ?_
  refine G_istore F zd_L_law_315 (by decide) (L' := [(6, .int rm), (5, .int (0 : Int32)), (0, .ref sc), (1, .ref xa), (2, .ref ma), (3, .ref oa), (4, .int i)]) rfl ?_
  refine G_aload_n F zd_L_law_317 rfl (j := 4) rfl ?_
  refine G_calliV0 F (zk_M_thrown l D cB cI cJ ma mb mz mh me (0 : Int32) mf' sz' mc cp hi' bg' en' tb ou mp' fa' (0 : Int32) rfl) (rest := []) [18, 19, 20, 21, 22] rfl rfl (q0 := 18) rfl cv_L_55_M rfl rfl ⟨Nat.le_of_ble_eq_true rfl, Nat.le_of_ble_eq_true rfl⟩ hf rfl (Nat.le_of_ble_eq_true rfl) zd_L_law_318 rfl ?_
  refine G_iload F zd_L_law_321 (j := 1) rfl ?_
  refine G_icmp_eq F zd_L_law_323 (tgt := 328) rfl (fun _ => ?_) (fun h0 => absurd rfl h0)
  refine G_iload F zd_L_law_328 (j := 1) rfl ?_
  refine G_if_ne F zd_L_law_330 (tgt := 345) rfl (fun h0 => absurd rfl h0) (fun _ => ?_)
  refine G_aload_n F zd_L_law_333 rfl (j := 5) rfl ?_
  refine G_iconst (v := (0 : Int32)) F zd_L_law_334 (by decide) ?_
  refine G_laload F zd_L_law_335 (q := 23) rfl (by decide) ?_
  refine G_iload F zd_L_law_336 (j := 0) rfl ?_
  refine G_i2l F zd_L_law_338 ?_
  refine G_lcmp F zd_L_law_339 ?_
  refine G_topi (y := (0 : Int32)) hx.symm ?_
  refine G_if_eq F zd_L_law_340 (tgt := 345) rfl (fun _ => ?_) (fun h0 => absurd rfl h0)
  refine G_goto F zd_L_law_345 (tgt := 652) rfl ?_
  exact G_lv [2, 3, 4, 5, 6] rfl kk

set_option maxHeartbeats 4000000 in
set_option maxRecDepth 100000 in
theorem zs_unpack_IA {k : GC} {l : Launch} (hl : l.stackTraces = false) {D : va_G} {cB cI cJ : ClassId} (F : GF k l room_1 zc_L_law 7 RL D cB cI cJ) (X : XF k) {sc Ls : Nat} {xs : Nat → Int32} (S : SX k sc Ls xs) {cells slots : Nat} (hf1 : cells + 1 ≤ room_1.cells ∧ slots + 6 ≤ room_1.slots) (xa : Nat) (qa : Nat) (qb : Nat) (sa : Nat) (sb : Nat) (pa : Nat) (pb : Nat) (da : Nat) (db : Nat) (ka : Nat) (ha : Nat) (ta : Nat) (wa : Nat) (va : Nat) (hb : Nat) (hc : Nat) (ea : Nat) (ua : Nat) (ma : Nat) (mb : Nat) (mz : Nat) (mh : Nat) (me : Nat) (oa : Nat) (qn : Int32) (qf : Nat → Int32) (sn : Int32) (sf : Nat → Int32) (pn : Int32) (pf : Nat → Int32) (dn : Int32) (df : Nat → Int32) (tf : Nat → Int32) (an : Int32) (mt : Int32) (co : Int32) (ra : Int32) (rr : Int32) (zra : Int32) (zrr : Int32) (zrp : Int32) (th : Int32) (mf : Nat → Int32) (sz : Nat → Int32) (mc : Int32) (cp : Int32) (hi : Nat → Int32) (bg : Int32) (en : Int32) (tb : Nat → Int32) (ou : Int32) (mp : Int32) (fa : Int32) (ox : Nat → Int64) (i : Int32) (g1 : ¬ ((i + (1 : Int32)) < 0 ∨ Ls ≤ Int32.toNatClampNeg (i + (1 : Int32)))) (rm : Int32) (bg' : Int32) (en' : Int32) (mp' : Int32) (fa' : Int32) (mf' : Nat → Int32) (sz' : Nat → Int32) (hi' : Nat → Int32) (h1 : zf_X_unpack_IA (xs (Int32.toNatClampNeg (i + (1 : Int32)))) = some ()) (h2 : zf_M_unpack mf sz hi bg en mp fa (xs (Int32.toNatClampNeg (i + (1 : Int32)))) = some (rm, (1 : Int32), bg', en', mp', fa', mf', sz', hi')) (kk : G D 7 k (cells + 1) (slots + 6) 652 [(0, .ref sc), (1, .ref xa), (2, .ref ma), (3, .ref oa), (4, .int i)] [] [(xa, .inr (7, [.ref qa, .ref sa, .ref pa, .ref da, .ref ka, .ref wa, .ref va, .ref ea, .ref ua])), (qa, .inr (4, [.ref qb, .int qn])), (qb, .inl (cB, 160, .inl qf)), (sa, .inr (4, [.ref sb, .int sn])), (sb, .inl (cB, 200, .inl sf)), (pa, .inr (4, [.ref pb, .int pn])), (pb, .inl (cB, 64, .inl pf)), (da, .inr (4, [.ref db, .int dn])), (db, .inl (cB, 160, .inl df)), (ha, .inr (2, [.ref pa, .ref qa])), (ka, .inr (3, [.ref pa, .ref qa, .ref ha, .ref ta, .int an, .int mt, .int co])), (ta, .inl (cI, 32, .inl tf)), (wa, .inr (6, [.ref qa, .ref sa])), (va, .inr (1, [.ref qa, .ref sa])), (hb, .inr (2, [.ref pa, .ref da])), (hc, .inr (2, [.ref pa, .ref da])), (ea, .inr (5, [.ref sa, .ref da, .ref hb, .int ra, .int rr])), (ua, .inr (0, [.ref sa, .ref da, .ref hc, .int zra, .int zrr, .int zrp])), (ma, .inr (8, [.int (1 : Int32), .ref mb, .ref mz, .int mc, .int cp, .ref mh, .int bg', .int en', .ref me, .int ou, .int mp', .int fa'])), (mb, .inl (cI, 600, .inl mf')), (mz, .inl (cI, 3, .inl sz')), (mh, .inl (cI, 224, .inl hi')), (me, .inl (cI, 32, .inl tb)), (oa, .inl (cJ, 1, .inr (.inl ox)))]) : G D 7 k cells slots 292 [(0, .ref sc), (1, .ref xa), (2, .ref ma), (3, .ref oa), (4, .int i)] [] [(xa, .inr (7, [.ref qa, .ref sa, .ref pa, .ref da, .ref ka, .ref wa, .ref va, .ref ea, .ref ua])), (qa, .inr (4, [.ref qb, .int qn])), (qb, .inl (cB, 160, .inl qf)), (sa, .inr (4, [.ref sb, .int sn])), (sb, .inl (cB, 200, .inl sf)), (pa, .inr (4, [.ref pb, .int pn])), (pb, .inl (cB, 64, .inl pf)), (da, .inr (4, [.ref db, .int dn])), (db, .inl (cB, 160, .inl df)), (ha, .inr (2, [.ref pa, .ref qa])), (ka, .inr (3, [.ref pa, .ref qa, .ref ha, .ref ta, .int an, .int mt, .int co])), (ta, .inl (cI, 32, .inl tf)), (wa, .inr (6, [.ref qa, .ref sa])), (va, .inr (1, [.ref qa, .ref sa])), (hb, .inr (2, [.ref pa, .ref da])), (hc, .inr (2, [.ref pa, .ref da])), (ea, .inr (5, [.ref sa, .ref da, .ref hb, .int ra, .int rr])), (ua, .inr (0, [.ref sa, .ref da, .ref hc, .int zra, .int zrr, .int zrp])), (ma, .inr (8, [.int th, .ref mb, .ref mz, .int mc, .int cp, .ref mh, .int bg, .int en, .ref me, .int ou, .int mp, .int fa])), (mb, .inl (cI, 600, .inl mf)), (mz, .inl (cI, 3, .inl sz)), (mh, .inl (cI, 224, .inl hi)), (me, .inl (cI, 32, .inl tb)), (oa, .inl (cJ, 1, .inr (.inl ox)))] := by
  refine G_aload_n F zd_L_law_292 rfl (j := 1) rfl ?_
  refine G_aload_n F zd_L_law_293 rfl (j := 0) rfl ?_
  refine G_iload F zd_L_law_294 (j := 4) rfl ?_
  refine G_iconst (v := (1 : Int32)) F zd_L_law_296 (by decide) ?_
  refine G_iadd F zd_L_law_297 ?_
  refine G_sld F S zd_L_law_298 g1 ?_
  refine G_aload_n F zd_L_law_299 rfl (j := 3) rfl ?_
  refine G_calliC F X (zx_L_unpack_IA l hl D cB cI cJ xa qa qb sa sb pa pb da db ka ha ta wa va hb hc ea ua oa qn qf sn sf pn pf dn df tf an mt co ra rr zra zrr zrp (xs (Int32.toNatClampNeg (i + (1 : Int32)))) ox h1) (rest := []) [0, 1, 2, 3, 4, 5, 6, 7, 8, 9, 10, 11, 12, 13, 14, 15, 16, 17, 23] rfl rfl cl_L_66 rfl rfl ⟨Nat.le_of_ble_eq_true rfl, Nat.le_of_ble_eq_true rfl⟩ hf1 rfl (Nat.le_of_ble_eq_true rfl) zd_L_law_300 rfl ?_
  refine G_istore F zd_L_law_303 (by decide) (L' := [(5, .int (1 : Int32)), (0, .ref sc), (1, .ref xa), (2, .ref ma), (3, .ref oa), (4, .int i)]) rfl ?_
  refine G_aload_n F zd_L_law_305 rfl (j := 3) rfl ?_
  refine G_aload_n F zd_L_law_306 rfl (j := 1) rfl ?_
  refine G_iload F zd_L_law_307 (j := 5) rfl ?_
  refine G_iconst (v := (1 : Int32)) F zd_L_law_309 (by decide) ?_
  refine G_iadd F zd_L_law_310 ?_
  refine G_sld F S zd_L_law_311 g1 ?_
  refine G_calliV F (zk_M_unpack l D cB cI cJ ma mb mz mh me th mf sz mc cp hi bg en tb ou mp fa (xs (Int32.toNatClampNeg (i + (1 : Int32)))) rm (1 : Int32) bg' en' mp' fa' mf' sz' hi' h2) (rest := []) [18, 19, 20, 21, 22] rfl rfl rfl (ws' := [(xa, .inr (7, [.ref qa, .ref sa, .ref pa, .ref da, .ref ka, .ref wa, .ref va, .ref ea, .ref ua])), (qa, .inr (4, [.ref qb, .int qn])), (qb, .inl (cB, 160, .inl qf)), (sa, .inr (4, [.ref sb, .int sn])), (sb, .inl (cB, 200, .inl sf)), (pa, .inr (4, [.ref pb, .int pn])), (pb, .inl (cB, 64, .inl pf)), (da, .inr (4, [.ref db, .int dn])), (db, .inl (cB, 160, .inl df)), (ha, .inr (2, [.ref pa, .ref qa])), (ka, .inr (3, [.ref pa, .ref qa, .ref ha, .ref ta, .int an, .int mt, .int co])), (ta, .inl (cI, 32, .inl tf)), (wa, .inr (6, [.ref qa, .ref sa])), (va, .inr (1, [.ref qa, .ref sa])), (hb, .inr (2, [.ref pa, .ref da])), (hc, .inr (2, [.ref pa, .ref da])), (ea, .inr (5, [.ref sa, .ref da, .ref hb, .int ra, .int rr])), (ua, .inr (0, [.ref sa, .ref da, .ref hc, .int zra, .int zrr, .int zrp])), (ma, .inr (8, [.int (1 : Int32), .ref mb, .ref mz, .int mc, .int cp, .ref mh, .int bg', .int en', .ref me, .int ou, .int mp', .int fa'])), (mb, .inl (cI, 600, .inl mf')), (mz, .inl (cI, 3, .inl sz')), (mh, .inl (cI, 224, .inl hi')), (me, .inl (cI, 32, .inl tb)), (oa, .inl (cJ, 1, .inr (.inl ox)))]) (by simp only [setsW, List.set]) (q0 := 18) rfl cv_L_68_M rfl rfl ⟨Nat.le_of_ble_eq_true rfl, Nat.le_of_ble_eq_true rfl⟩ hf1 rfl (Nat.le_of_ble_eq_true rfl) zd_L_law_312 rfl ?_
  refine G_istore F zd_L_law_315 (by decide) (L' := [(6, .int rm), (5, .int (1 : Int32)), (0, .ref sc), (1, .ref xa), (2, .ref ma), (3, .ref oa), (4, .int i)]) rfl ?_
  refine G_aload_n F zd_L_law_317 rfl (j := 4) rfl ?_
  refine G_calliV0 F (zk_M_thrown l D cB cI cJ ma mb mz mh me (1 : Int32) mf' sz' mc cp hi' bg' en' tb ou mp' fa' (1 : Int32) rfl) (rest := []) [18, 19, 20, 21, 22] rfl rfl (q0 := 18) rfl cv_L_55_M rfl rfl ⟨Nat.le_of_ble_eq_true rfl, Nat.le_of_ble_eq_true rfl⟩ hf1 rfl (Nat.le_of_ble_eq_true rfl) zd_L_law_318 rfl ?_
  refine G_iload F zd_L_law_321 (j := 1) rfl ?_
  refine G_icmp_eq F zd_L_law_323 (tgt := 328) rfl (fun _ => ?_) (fun h0 => absurd rfl h0)
  refine G_iload F zd_L_law_328 (j := 1) rfl ?_
  refine G_if_ne F zd_L_law_330 (tgt := 345) rfl (fun _ => ?_) (fun h0 => absurd h0 (by decide))
  refine G_goto F zd_L_law_345 (tgt := 652) rfl ?_
  exact G_lv [2, 3, 4, 5, 6] rfl kk

set_option maxHeartbeats 4000000 in
set_option maxRecDepth 100000 in
theorem zs_size_N {k : GC} {l : Launch} (hl : l.stackTraces = false) {D : va_G} {cB cI cJ : ClassId} (F : GF k l room_1 zc_L_law 7 RL D cB cI cJ) (X : XF k) {sc Ls : Nat} {xs : Nat → Int32} (S : SX k sc Ls xs) {cells slots : Nat} (hf : cells ≤ room_1.cells ∧ slots ≤ room_1.slots) (xa : Nat) (qa : Nat) (qb : Nat) (sa : Nat) (sb : Nat) (pa : Nat) (pb : Nat) (da : Nat) (db : Nat) (ka : Nat) (ha : Nat) (ta : Nat) (wa : Nat) (va : Nat) (hb : Nat) (hc : Nat) (ea : Nat) (ua : Nat) (ma : Nat) (mb : Nat) (mz : Nat) (mh : Nat) (me : Nat) (oa : Nat) (qn : Int32) (qf : Nat → Int32) (sn : Int32) (sf : Nat → Int32) (pn : Int32) (pf : Nat → Int32) (dn : Int32) (df : Nat → Int32) (tf : Nat → Int32) (an : Int32) (mt : Int32) (co : Int32) (ra : Int32) (rr : Int32) (zra : Int32) (zrr : Int32) (zrp : Int32) (th : Int32) (mf : Nat → Int32) (sz : Nat → Int32) (mc : Int32) (cp : Int32) (hi : Nat → Int32) (bg : Int32) (en : Int32) (tb : Nat → Int32) (ou : Int32) (mp : Int32) (fa : Int32) (ox : Nat → Int64) (i : Int32) (g1 : ¬ ((i + (1 : Int32)) < 0 ∨ Ls ≤ Int32.toNatClampNeg (i + (1 : Int32)))) (ox' : Nat → Int64) (rm : Int32) (h1 : zf_L_size qn sn pn (xs (Int32.toNatClampNeg (i + (1 : Int32)))) ox = some ((0 : Int32), ox')) (h2 : zf_M_size sz (xs (Int32.toNatClampNeg (i + (1 : Int32)))) = some (rm, (0 : Int32))) (hx : lg_cmp (ox' (Int32.toNatClampNeg (0 : Int32))) (rm.toInt64) = 0) (kk : G D 7 k cells slots 652 [(0, .ref sc), (1, .ref xa), (2, .ref ma), (3, .ref oa), (4, .int i)] [] [(xa, .inr (7, [.ref qa, .ref sa, .ref pa, .ref da, .ref ka, .ref wa, .ref va, .ref ea, .ref ua])), (qa, .inr (4, [.ref qb, .int qn])), (qb, .inl (cB, 160, .inl qf)), (sa, .inr (4, [.ref sb, .int sn])), (sb, .inl (cB, 200, .inl sf)), (pa, .inr (4, [.ref pb, .int pn])), (pb, .inl (cB, 64, .inl pf)), (da, .inr (4, [.ref db, .int dn])), (db, .inl (cB, 160, .inl df)), (ha, .inr (2, [.ref pa, .ref qa])), (ka, .inr (3, [.ref pa, .ref qa, .ref ha, .ref ta, .int an, .int mt, .int co])), (ta, .inl (cI, 32, .inl tf)), (wa, .inr (6, [.ref qa, .ref sa])), (va, .inr (1, [.ref qa, .ref sa])), (hb, .inr (2, [.ref pa, .ref da])), (hc, .inr (2, [.ref pa, .ref da])), (ea, .inr (5, [.ref sa, .ref da, .ref hb, .int ra, .int rr])), (ua, .inr (0, [.ref sa, .ref da, .ref hc, .int zra, .int zrr, .int zrp])), (ma, .inr (8, [.int (0 : Int32), .ref mb, .ref mz, .int mc, .int cp, .ref mh, .int bg, .int en, .ref me, .int ou, .int mp, .int fa])), (mb, .inl (cI, 600, .inl mf)), (mz, .inl (cI, 3, .inl sz)), (mh, .inl (cI, 224, .inl hi)), (me, .inl (cI, 32, .inl tb)), (oa, .inl (cJ, 1, .inr (.inl ox')))]) : G D 7 k cells slots 348 [(0, .ref sc), (1, .ref xa), (2, .ref ma), (3, .ref oa), (4, .int i)] [] [(xa, .inr (7, [.ref qa, .ref sa, .ref pa, .ref da, .ref ka, .ref wa, .ref va, .ref ea, .ref ua])), (qa, .inr (4, [.ref qb, .int qn])), (qb, .inl (cB, 160, .inl qf)), (sa, .inr (4, [.ref sb, .int sn])), (sb, .inl (cB, 200, .inl sf)), (pa, .inr (4, [.ref pb, .int pn])), (pb, .inl (cB, 64, .inl pf)), (da, .inr (4, [.ref db, .int dn])), (db, .inl (cB, 160, .inl df)), (ha, .inr (2, [.ref pa, .ref qa])), (ka, .inr (3, [.ref pa, .ref qa, .ref ha, .ref ta, .int an, .int mt, .int co])), (ta, .inl (cI, 32, .inl tf)), (wa, .inr (6, [.ref qa, .ref sa])), (va, .inr (1, [.ref qa, .ref sa])), (hb, .inr (2, [.ref pa, .ref da])), (hc, .inr (2, [.ref pa, .ref da])), (ea, .inr (5, [.ref sa, .ref da, .ref hb, .int ra, .int rr])), (ua, .inr (0, [.ref sa, .ref da, .ref hc, .int zra, .int zrr, .int zrp])), (ma, .inr (8, [.int th, .ref mb, .ref mz, .int mc, .int cp, .ref mh, .int bg, .int en, .ref me, .int ou, .int mp, .int fa])), (mb, .inl (cI, 600, .inl mf)), (mz, .inl (cI, 3, .inl sz)), (mh, .inl (cI, 224, .inl hi)), (me, .inl (cI, 32, .inl tb)), (oa, .inl (cJ, 1, .inr (.inl ox)))] := by
  refine G_aload_n F zd_L_law_348 rfl (j := 1) rfl ?_
  refine G_aload_n F zd_L_law_349 rfl (j := 0) rfl ?_
  refine G_iload F zd_L_law_350 (j := 4) rfl ?_
  refine G_iconst (v := (1 : Int32)) F zd_L_law_352 (by decide) ?_
  refine G_iadd F zd_L_law_353 ?_
  refine G_sld F S zd_L_law_354 g1 ?_
  refine G_aload_n F zd_L_law_355 rfl (j := 3) rfl ?_
  refine G_calliW F (zk_L_size l D cB cI cJ xa qa qb sa sb pa pb da db ka ha ta wa va hb hc ea ua oa qn qf sn sf pn pf dn df tf an mt co ra rr zra zrr zrp (xs (Int32.toNatClampNeg (i + (1 : Int32)))) ox (0 : Int32) ox' h1) (rest := []) [0, 1, 2, 3, 4, 5, 6, 7, 8, 9, 10, 11, 12, 13, 14, 15, 16, 17, 23] rfl rfl rfl (ws' := [(xa, .inr (7, [.ref qa, .ref sa, .ref pa, .ref da, .ref ka, .ref wa, .ref va, .ref ea, .ref ua])), (qa, .inr (4, [.ref qb, .int qn])), (qb, .inl (cB, 160, .inl qf)), (sa, .inr (4, [.ref sb, .int sn])), (sb, .inl (cB, 200, .inl sf)), (pa, .inr (4, [.ref pb, .int pn])), (pb, .inl (cB, 64, .inl pf)), (da, .inr (4, [.ref db, .int dn])), (db, .inl (cB, 160, .inl df)), (ha, .inr (2, [.ref pa, .ref qa])), (ka, .inr (3, [.ref pa, .ref qa, .ref ha, .ref ta, .int an, .int mt, .int co])), (ta, .inl (cI, 32, .inl tf)), (wa, .inr (6, [.ref qa, .ref sa])), (va, .inr (1, [.ref qa, .ref sa])), (hb, .inr (2, [.ref pa, .ref da])), (hc, .inr (2, [.ref pa, .ref da])), (ea, .inr (5, [.ref sa, .ref da, .ref hb, .int ra, .int rr])), (ua, .inr (0, [.ref sa, .ref da, .ref hc, .int zra, .int zrr, .int zrp])), (ma, .inr (8, [.int th, .ref mb, .ref mz, .int mc, .int cp, .ref mh, .int bg, .int en, .ref me, .int ou, .int mp, .int fa])), (mb, .inl (cI, 600, .inl mf)), (mz, .inl (cI, 3, .inl sz)), (mh, .inl (cI, 224, .inl hi)), (me, .inl (cI, 32, .inl tb)), (oa, .inl (cJ, 1, .inr (.inl ox')))]) (by simp only [setsW, List.set]) cl_L_69 rfl rfl ⟨Nat.le_of_ble_eq_true rfl, Nat.le_of_ble_eq_true rfl⟩ hf rfl (Nat.le_of_ble_eq_true rfl) zd_L_law_356 rfl ?_
  refine G_istore F zd_L_law_359 (by decide) (L' := [(5, .int (0 : Int32)), (0, .ref sc), (1, .ref xa), (2, .ref ma), (3, .ref oa), (4, .int i)]) rfl ?_
  refine G_aload_n F zd_L_law_361 rfl (j := 3) rfl ?_
  refine G_aload_n F zd_L_law_362 rfl (j := 1) rfl ?_
  refine G_iload F zd_L_law_363 (j := 5) rfl ?_
  refine G_iconst (v := (1 : Int32)) F zd_L_law_365 (by decide) ?_
  refine G_iadd F zd_L_law_366 ?_
  refine G_sld F S zd_L_law_367 g1 ?_
  refine G_calliV F (zk_M_size l D cB cI cJ ma mb mz mh me th mf sz mc cp hi bg en tb ou mp fa (xs (Int32.toNatClampNeg (i + (1 : Int32)))) rm (0 : Int32) h2) (rest := []) [18, 19, 20, 21, 22] rfl rfl rfl (ws' := [(xa, .inr (7, [.ref qa, .ref sa, .ref pa, .ref da, .ref ka, .ref wa, .ref va, .ref ea, .ref ua])), (qa, .inr (4, [.ref qb, .int qn])), (qb, .inl (cB, 160, .inl qf)), (sa, .inr (4, [.ref sb, .int sn])), (sb, .inl (cB, 200, .inl sf)), (pa, .inr (4, [.ref pb, .int pn])), (pb, .inl (cB, 64, .inl pf)), (da, .inr (4, [.ref db, .int dn])), (db, .inl (cB, 160, .inl df)), (ha, .inr (2, [.ref pa, .ref qa])), (ka, .inr (3, [.ref pa, .ref qa, .ref ha, .ref ta, .int an, .int mt, .int co])), (ta, .inl (cI, 32, .inl tf)), (wa, .inr (6, [.ref qa, .ref sa])), (va, .inr (1, [.ref qa, .ref sa])), (hb, .inr (2, [.ref pa, .ref da])), (hc, .inr (2, [.ref pa, .ref da])), (ea, .inr (5, [.ref sa, .ref da, .ref hb, .int ra, .int rr])), (ua, .inr (0, [.ref sa, .ref da, .ref hc, .int zra, .int zrr, .int zrp])), (ma, .inr (8, [.int (0 : Int32), .ref mb, .ref mz, .int mc, .int cp, .ref mh, .int bg, .int en, .ref me, .int ou, .int mp, .int fa])), (mb, .inl (cI, 600, .inl mf)), (mz, .inl (cI, 3, .inl sz)), (mh, .inl (cI, 224, .inl hi)), (me, .inl (cI, 32, .inl tb)), (oa, .inl (cJ, 1, .inr (.inl ox')))]) (by simp only [setsW, List.set]) (q0 := 18) rfl cv_L_71_M rfl rfl ⟨Nat.le_of_ble_eq_true rfl, Nat.le_of_ble_eq_true rfl⟩ hf rfl (Nat.le_of_ble_eq_true rfl) zd_L_law_368 rfl ?_
  refine G_istore F zd_L_law_371 (by decide) (L' := [(6, .int rm), (5, .int (0 : Int32)), (0, .ref sc), (1, .ref xa), (2, .ref ma), (3, .ref oa), (4, .int i)]) rfl ?_
  refine G_aload_n F zd_L_law_373 rfl (j := 4) rfl ?_
  refine G_calliV0 F (zk_M_thrown l D cB cI cJ ma mb mz mh me (0 : Int32) mf sz mc cp hi bg en tb ou mp fa (0 : Int32) rfl) (rest := []) [18, 19, 20, 21, 22] rfl rfl (q0 := 18) rfl cv_L_55_M rfl rfl ⟨Nat.le_of_ble_eq_true rfl, Nat.le_of_ble_eq_true rfl⟩ hf rfl (Nat.le_of_ble_eq_true rfl) zd_L_law_374 rfl ?_
  refine G_iload F zd_L_law_377 (j := 1) rfl ?_
  refine G_icmp_eq F zd_L_law_379 (tgt := 384) rfl (fun _ => ?_) (fun h0 => absurd rfl h0)
  refine G_iload F zd_L_law_384 (j := 1) rfl ?_
  refine G_if_ne F zd_L_law_386 (tgt := 401) rfl (fun h0 => absurd rfl h0) (fun _ => ?_)
  refine G_aload_n F zd_L_law_389 rfl (j := 5) rfl ?_
  refine G_iconst (v := (0 : Int32)) F zd_L_law_390 (by decide) ?_
  refine G_laload F zd_L_law_391 (q := 23) rfl (by decide) ?_
  refine G_iload F zd_L_law_392 (j := 0) rfl ?_
  refine G_i2l F zd_L_law_394 ?_
  refine G_lcmp F zd_L_law_395 ?_
  refine G_topi (y := (0 : Int32)) hx.symm ?_
  refine G_if_eq F zd_L_law_396 (tgt := 401) rfl (fun _ => ?_) (fun h0 => absurd rfl h0)
  refine G_goto F zd_L_law_401 (tgt := 652) rfl ?_
  exact G_lv [2, 3, 4, 5, 6] rfl kk

set_option maxHeartbeats 4000000 in
set_option maxRecDepth 100000 in
theorem zs_size_IA {k : GC} {l : Launch} (hl : l.stackTraces = false) {D : va_G} {cB cI cJ : ClassId} (F : GF k l room_1 zc_L_law 7 RL D cB cI cJ) (X : XF k) {sc Ls : Nat} {xs : Nat → Int32} (S : SX k sc Ls xs) {cells slots : Nat} (hf1 : cells + 1 ≤ room_1.cells ∧ slots + 6 ≤ room_1.slots) (xa : Nat) (qa : Nat) (qb : Nat) (sa : Nat) (sb : Nat) (pa : Nat) (pb : Nat) (da : Nat) (db : Nat) (ka : Nat) (ha : Nat) (ta : Nat) (wa : Nat) (va : Nat) (hb : Nat) (hc : Nat) (ea : Nat) (ua : Nat) (ma : Nat) (mb : Nat) (mz : Nat) (mh : Nat) (me : Nat) (oa : Nat) (qn : Int32) (qf : Nat → Int32) (sn : Int32) (sf : Nat → Int32) (pn : Int32) (pf : Nat → Int32) (dn : Int32) (df : Nat → Int32) (tf : Nat → Int32) (an : Int32) (mt : Int32) (co : Int32) (ra : Int32) (rr : Int32) (zra : Int32) (zrr : Int32) (zrp : Int32) (th : Int32) (mf : Nat → Int32) (sz : Nat → Int32) (mc : Int32) (cp : Int32) (hi : Nat → Int32) (bg : Int32) (en : Int32) (tb : Nat → Int32) (ou : Int32) (mp : Int32) (fa : Int32) (ox : Nat → Int64) (i : Int32) (g1 : ¬ ((i + (1 : Int32)) < 0 ∨ Ls ≤ Int32.toNatClampNeg (i + (1 : Int32)))) (rm : Int32) (h1 : zf_X_size_IA (xs (Int32.toNatClampNeg (i + (1 : Int32)))) = some ()) (h2 : zf_M_size sz (xs (Int32.toNatClampNeg (i + (1 : Int32)))) = some (rm, (1 : Int32))) (kk : G D 7 k (cells + 1) (slots + 6) 652 [(0, .ref sc), (1, .ref xa), (2, .ref ma), (3, .ref oa), (4, .int i)] [] [(xa, .inr (7, [.ref qa, .ref sa, .ref pa, .ref da, .ref ka, .ref wa, .ref va, .ref ea, .ref ua])), (qa, .inr (4, [.ref qb, .int qn])), (qb, .inl (cB, 160, .inl qf)), (sa, .inr (4, [.ref sb, .int sn])), (sb, .inl (cB, 200, .inl sf)), (pa, .inr (4, [.ref pb, .int pn])), (pb, .inl (cB, 64, .inl pf)), (da, .inr (4, [.ref db, .int dn])), (db, .inl (cB, 160, .inl df)), (ha, .inr (2, [.ref pa, .ref qa])), (ka, .inr (3, [.ref pa, .ref qa, .ref ha, .ref ta, .int an, .int mt, .int co])), (ta, .inl (cI, 32, .inl tf)), (wa, .inr (6, [.ref qa, .ref sa])), (va, .inr (1, [.ref qa, .ref sa])), (hb, .inr (2, [.ref pa, .ref da])), (hc, .inr (2, [.ref pa, .ref da])), (ea, .inr (5, [.ref sa, .ref da, .ref hb, .int ra, .int rr])), (ua, .inr (0, [.ref sa, .ref da, .ref hc, .int zra, .int zrr, .int zrp])), (ma, .inr (8, [.int (1 : Int32), .ref mb, .ref mz, .int mc, .int cp, .ref mh, .int bg, .int en, .ref me, .int ou, .int mp, .int fa])), (mb, .inl (cI, 600, .inl mf)), (mz, .inl (cI, 3, .inl sz)), (mh, .inl (cI, 224, .inl hi)), (me, .inl (cI, 32, .inl tb)), (oa, .inl (cJ, 1, .inr (.inl ox)))]) : G D 7 k cells slots 348 [(0, .ref sc), (1, .ref xa), (2, .ref ma), (3, .ref oa), (4, .int i)] [] [(xa, .inr (7, [.ref qa, .ref sa, .ref pa, .ref da, .ref ka, .ref wa, .ref va, .ref ea, .ref ua])), (qa, .inr (4, [.ref qb, .int qn])), (qb, .inl (cB, 160, .inl qf)), (sa, .inr (4, [.ref sb, .int sn])), (sb, .inl (cB, 200, .inl sf)), (pa, .inr (4, [.ref pb, .int pn])), (pb, .inl (cB, 64, .inl pf)), (da, .inr (4, [.ref db, .int dn])), (db, .inl (cB, 160, .inl df)), (ha, .inr (2, [.ref pa, .ref qa])), (ka, .inr (3, [.ref pa, .ref qa, .ref ha, .ref ta, .int an, .int mt, .int co])), (ta, .inl (cI, 32, .inl tf)), (wa, .inr (6, [.ref qa, .ref sa])), (va, .inr (1, [.ref qa, .ref sa])), (hb, .inr (2, [.ref pa, .ref da])), (hc, .inr (2, [.ref pa, .ref da])), (ea, .inr (5, [.ref sa, .ref da, .ref hb, .int ra, .int rr])), (ua, .inr (0, [.ref sa, .ref da, .ref hc, .int zra, .int zrr, .int zrp])), (ma, .inr (8, [.int th, .ref mb, .ref mz, .int mc, .int cp, .ref mh, .int bg, .int en, .ref me, .int ou, .int mp, .int fa])), (mb, .inl (cI, 600, .inl mf)), (mz, .inl (cI, 3, .inl sz)), (mh, .inl (cI, 224, .inl hi)), (me, .inl (cI, 32, .inl tb)), (oa, .inl (cJ, 1, .inr (.inl ox)))] := by
  refine G_aload_n F zd_L_law_348 rfl (j := 1) rfl ?_
  refine G_aload_n F zd_L_law_349 rfl (j := 0) rfl ?_
  refine G_iload F zd_L_law_350 (j := 4) rfl ?_
  refine G_iconst (v := (1 : Int32)) F zd_L_law_352 (by decide) ?_
  refine G_iadd F zd_L_law_353 ?_
  refine G_sld F S zd_L_law_354 g1 ?_
  refine G_aload_n F zd_L_law_355 rfl (j := 3) rfl ?_
  refine G_calliC F X (zx_L_size_IA l hl D cB cI cJ xa qa qb sa sb pa pb da db ka ha ta wa va hb hc ea ua oa qn qf sn sf pn pf dn df tf an mt co ra rr zra zrr zrp (xs (Int32.toNatClampNeg (i + (1 : Int32)))) ox h1) (rest := []) [0, 1, 2, 3, 4, 5, 6, 7, 8, 9, 10, 11, 12, 13, 14, 15, 16, 17, 23] rfl rfl cl_L_69 rfl rfl ⟨Nat.le_of_ble_eq_true rfl, Nat.le_of_ble_eq_true rfl⟩ hf1 rfl (Nat.le_of_ble_eq_true rfl) zd_L_law_356 rfl ?_
  refine G_istore F zd_L_law_359 (by decide) (L' := [(5, .int (1 : Int32)), (0, .ref sc), (1, .ref xa), (2, .ref ma), (3, .ref oa), (4, .int i)]) rfl ?_
  refine G_aload_n F zd_L_law_361 rfl (j := 3) rfl ?_
  refine G_aload_n F zd_L_law_362 rfl (j := 1) rfl ?_
  refine G_iload F zd_L_law_363 (j := 5) rfl ?_
  refine G_iconst (v := (1 : Int32)) F zd_L_law_365 (by decide) ?_
  refine G_iadd F zd_L_law_366 ?_
  refine G_sld F S zd_L_law_367 g1 ?_
  refine G_calliV F (zk_M_size l D cB cI cJ ma mb mz mh me th mf sz mc cp hi bg en tb ou mp fa (xs (Int32.toNatClampNeg (i + (1 : Int32)))) rm (1 : Int32) h2) (rest := []) [18, 19, 20, 21, 22] rfl rfl rfl (ws' := [(xa, .inr (7, [.ref qa, .ref sa, .ref pa, .ref da, .ref ka, .ref wa, .ref va, .ref ea, .ref ua])), (qa, .inr (4, [.ref qb, .int qn])), (qb, .inl (cB, 160, .inl qf)), (sa, .inr (4, [.ref sb, .int sn])), (sb, .inl (cB, 200, .inl sf)), (pa, .inr (4, [.ref pb, .int pn])), (pb, .inl (cB, 64, .inl pf)), (da, .inr (4, [.ref db, .int dn])), (db, .inl (cB, 160, .inl df)), (ha, .inr (2, [.ref pa, .ref qa])), (ka, .inr (3, [.ref pa, .ref qa, .ref ha, .ref ta, .int an, .int mt, .int co])), (ta, .inl (cI, 32, .inl tf)), (wa, .inr (6, [.ref qa, .ref sa])), (va, .inr (1, [.ref qa, .ref sa])), (hb, .inr (2, [.ref pa, .ref da])), (hc, .inr (2, [.ref pa, .ref da])), (ea, .inr (5, [.ref sa, .ref da, .ref hb, .int ra, .int rr])), (ua, .inr (0, [.ref sa, .ref da, .ref hc, .int zra, .int zrr, .int zrp])), (ma, .inr (8, [.int (1 : Int32), .ref mb, .ref mz, .int mc, .int cp, .ref mh, .int bg, .int en, .ref me, .int ou, .int mp, .int fa])), (mb, .inl (cI, 600, .inl mf)), (mz, .inl (cI, 3, .inl sz)), (mh, .inl (cI, 224, .inl hi)), (me, .inl (cI, 32, .inl tb)), (oa, .inl (cJ, 1, .inr (.inl ox)))]) (by simp only [setsW, List.set]) (q0 := 18) rfl cv_L_71_M rfl rfl ⟨Nat.le_of_ble_eq_true rfl, Nat.le_of_ble_eq_true rfl⟩ hf1 rfl (Nat.le_of_ble_eq_true rfl) zd_L_law_368 rfl ?_
  refine G_istore F zd_L_law_371 (by decide) (L' := [(6, .int rm), (5, .int (1 : Int32)), (0, .ref sc), (1, .ref xa), (2, .ref ma), (3, .ref oa), (4, .int i)]) rfl ?_
  refine G_aload_n F zd_L_law_373 rfl (j := 4) rfl ?_
  refine G_calliV0 F (zk_M_thrown l D cB cI cJ ma mb mz mh me (1 : Int32) mf sz mc cp hi bg en tb ou mp fa (1 : Int32) rfl) (rest := []) [18, 19, 20, 21, 22] rfl rfl (q0 := 18) rfl cv_L_55_M rfl rfl ⟨Nat.le_of_ble_eq_true rfl, Nat.le_of_ble_eq_true rfl⟩ hf1 rfl (Nat.le_of_ble_eq_true rfl) zd_L_law_374 rfl ?_
  refine G_iload F zd_L_law_377 (j := 1) rfl ?_
  refine G_icmp_eq F zd_L_law_379 (tgt := 384) rfl (fun _ => ?_) (fun h0 => absurd rfl h0)
  refine G_iload F zd_L_law_384 (j := 1) rfl ?_
  refine G_if_ne F zd_L_law_386 (tgt := 401) rfl (fun _ => ?_) (fun h0 => absurd h0 (by decide))
  refine G_goto F zd_L_law_401 (tgt := 652) rfl ?_
  exact G_lv [2, 3, 4, 5, 6] rfl kk

set_option maxHeartbeats 4000000 in
set_option maxRecDepth 100000 in
theorem zs_get_N {k : GC} {l : Launch} (hl : l.stackTraces = false) {D : va_G} {cB cI cJ : ClassId} (F : GF k l room_1 zc_L_law 7 RL D cB cI cJ) (X : XF k) {sc Ls : Nat} {xs : Nat → Int32} (S : SX k sc Ls xs) {cells slots : Nat} (hf : cells ≤ room_1.cells ∧ slots ≤ room_1.slots) (xa : Nat) (qa : Nat) (qb : Nat) (sa : Nat) (sb : Nat) (pa : Nat) (pb : Nat) (da : Nat) (db : Nat) (ka : Nat) (ha : Nat) (ta : Nat) (wa : Nat) (va : Nat) (hb : Nat) (hc : Nat) (ea : Nat) (ua : Nat) (ma : Nat) (mb : Nat) (mz : Nat) (mh : Nat) (me : Nat) (oa : Nat) (qn : Int32) (qf : Nat → Int32) (sn : Int32) (sf : Nat → Int32) (pn : Int32) (pf : Nat → Int32) (dn : Int32) (df : Nat → Int32) (tf : Nat → Int32) (an : Int32) (mt : Int32) (co : Int32) (ra : Int32) (rr : Int32) (zra : Int32) (zrr : Int32) (zrp : Int32) (th : Int32) (mf : Nat → Int32) (sz : Nat → Int32) (mc : Int32) (cp : Int32) (hi : Nat → Int32) (bg : Int32) (en : Int32) (tb : Nat → Int32) (ou : Int32) (mp : Int32) (fa : Int32) (ox : Nat → Int64) (i : Int32) (g1 : ¬ ((i + (1 : Int32)) < 0 ∨ Ls ≤ Int32.toNatClampNeg (i + (1 : Int32)))) (g2 : ¬ ((i + (2 : Int32)) < 0 ∨ Ls ≤ Int32.toNatClampNeg (i + (2 : Int32)))) (ox' : Nat → Int64) (rm : Int32) (h1 : zf_L_get qn qf sn sf pn pf (xs (Int32.toNatClampNeg (i + (1 : Int32)))) (xs (Int32.toNatClampNeg (i + (2 : Int32)))) ox = some ((0 : Int32), ox')) (h2 : zf_M_get mf sz (xs (Int32.toNatClampNeg (i + (1 : Int32)))) (xs (Int32.toNatClampNeg (i + (2 : Int32)))) = some (rm, (0 : Int32))) (hx : lg_cmp (ox' (Int32.toNatClampNeg (0 : Int32))) (rm.toInt64) = 0) (kk : G D 7 k cells slots 652 [(0, .ref sc), (1, .ref xa), (2, .ref ma), (3, .ref oa), (4, .int i)] [] [(xa, .inr (7, [.ref qa, .ref sa, .ref pa, .ref da, .ref ka, .ref wa, .ref va, .ref ea, .ref ua])), (qa, .inr (4, [.ref qb, .int qn])), (qb, .inl (cB, 160, .inl qf)), (sa, .inr (4, [.ref sb, .int sn])), (sb, .inl (cB, 200, .inl sf)), (pa, .inr (4, [.ref pb, .int pn])), (pb, .inl (cB, 64, .inl pf)), (da, .inr (4, [.ref db, .int dn])), (db, .inl (cB, 160, .inl df)), (ha, .inr (2, [.ref pa, .ref qa])), (ka, .inr (3, [.ref pa, .ref qa, .ref ha, .ref ta, .int an, .int mt, .int co])), (ta, .inl (cI, 32, .inl tf)), (wa, .inr (6, [.ref qa, .ref sa])), (va, .inr (1, [.ref qa, .ref sa])), (hb, .inr (2, [.ref pa, .ref da])), (hc, .inr (2, [.ref pa, .ref da])), (ea, .inr (5, [.ref sa, .ref da, .ref hb, .int ra, .int rr])), (ua, .inr (0, [.ref sa, .ref da, .ref hc, .int zra, .int zrr, .int zrp])), (ma, .inr (8, [.int (0 : Int32), .ref mb, .ref mz, .int mc, .int cp, .ref mh, .int bg, .int en, .ref me, .int ou, .int mp, .int fa])), (mb, .inl (cI, 600, .inl mf)), (mz, .inl (cI, 3, .inl sz)), (mh, .inl (cI, 224, .inl hi)), (me, .inl (cI, 32, .inl tb)), (oa, .inl (cJ, 1, .inr (.inl ox')))]) : G D 7 k cells slots 404 [(0, .ref sc), (1, .ref xa), (2, .ref ma), (3, .ref oa), (4, .int i)] [] [(xa, .inr (7, [.ref qa, .ref sa, .ref pa, .ref da, .ref ka, .ref wa, .ref va, .ref ea, .ref ua])), (qa, .inr (4, [.ref qb, .int qn])), (qb, .inl (cB, 160, .inl qf)), (sa, .inr (4, [.ref sb, .int sn])), (sb, .inl (cB, 200, .inl sf)), (pa, .inr (4, [.ref pb, .int pn])), (pb, .inl (cB, 64, .inl pf)), (da, .inr (4, [.ref db, .int dn])), (db, .inl (cB, 160, .inl df)), (ha, .inr (2, [.ref pa, .ref qa])), (ka, .inr (3, [.ref pa, .ref qa, .ref ha, .ref ta, .int an, .int mt, .int co])), (ta, .inl (cI, 32, .inl tf)), (wa, .inr (6, [.ref qa, .ref sa])), (va, .inr (1, [.ref qa, .ref sa])), (hb, .inr (2, [.ref pa, .ref da])), (hc, .inr (2, [.ref pa, .ref da])), (ea, .inr (5, [.ref sa, .ref da, .ref hb, .int ra, .int rr])), (ua, .inr (0, [.ref sa, .ref da, .ref hc, .int zra, .int zrr, .int zrp])), (ma, .inr (8, [.int th, .ref mb, .ref mz, .int mc, .int cp, .ref mh, .int bg, .int en, .ref me, .int ou, .int mp, .int fa])), (mb, .inl (cI, 600, .inl mf)), (mz, .inl (cI, 3, .inl sz)), (mh, .inl (cI, 224, .inl hi)), (me, .inl (cI, 32, .inl tb)), (oa, .inl (cJ, 1, .inr (.inl ox)))] := by
  refine G_aload_n F zd_L_law_404 rfl (j := 1) rfl ?_
  refine G_aload_n F zd_L_law_405 rfl (j := 0) rfl ?_
  refine G_iload F zd_L_law_406 (j := 4) rfl ?_
  refine G_iconst (v := (1 : Int32)) F zd_L_law_408 (by decide) ?_
  refine G_iadd F zd_L_law_409 ?_
  refine G_sld F S zd_L_law_410 g1 ?_
  refine G_aload_n F zd_L_law_411 rfl (j := 0) rfl ?_
  refine G_iload F zd_L_law_412 (j := 4) rfl ?_
  refine G_iconst (v := (2 : Int32)) F zd_L_law_414 (by decide) ?_
  refine G_iadd F zd_L_law_415 ?_
  refine G_sld F S zd_L_law_416 g2 ?_
  refine G_aload_n F zd_L_law_417 rfl (j := 3) rfl ?_
  refine G_calliW F (zk_L_get l D cB cI cJ xa qa qb sa sb pa pb da db ka ha ta wa va hb hc ea ua oa qn qf sn sf pn pf dn df tf an mt co ra rr zra zrr zrp (xs (Int32.toNatClampNeg (i + (1 : Int32)))) (xs (Int32.toNatClampNeg (i + (2 : Int32)))) ox (0 : Int32) ox' h1) (rest := []) [0, 1, 2, 3, 4, 5, 6, 7, 8, 9, 10, 11, 12, 13, 14, 15, 16, 17, 23] rfl rfl rfl (ws' := [(xa, .inr (7, [.ref qa, .ref sa, .ref pa, .ref da, .ref ka, .ref wa, .ref va, .ref ea, .ref ua])), (qa, .inr (4, [.ref qb, .int qn])), (qb, .inl (cB, 160, .inl qf)), (sa, .inr (4, [.ref sb, .int sn])), (sb, .inl (cB, 200, .inl sf)), (pa, .inr (4, [.ref pb, .int pn])), (pb, .inl (cB, 64, .inl pf)), (da, .inr (4, [.ref db, .int dn])), (db, .inl (cB, 160, .inl df)), (ha, .inr (2, [.ref pa, .ref qa])), (ka, .inr (3, [.ref pa, .ref qa, .ref ha, .ref ta, .int an, .int mt, .int co])), (ta, .inl (cI, 32, .inl tf)), (wa, .inr (6, [.ref qa, .ref sa])), (va, .inr (1, [.ref qa, .ref sa])), (hb, .inr (2, [.ref pa, .ref da])), (hc, .inr (2, [.ref pa, .ref da])), (ea, .inr (5, [.ref sa, .ref da, .ref hb, .int ra, .int rr])), (ua, .inr (0, [.ref sa, .ref da, .ref hc, .int zra, .int zrr, .int zrp])), (ma, .inr (8, [.int th, .ref mb, .ref mz, .int mc, .int cp, .ref mh, .int bg, .int en, .ref me, .int ou, .int mp, .int fa])), (mb, .inl (cI, 600, .inl mf)), (mz, .inl (cI, 3, .inl sz)), (mh, .inl (cI, 224, .inl hi)), (me, .inl (cI, 32, .inl tb)), (oa, .inl (cJ, 1, .inr (.inl ox')))]) (by simp only [setsW, List.set]) cl_L_72 rfl rfl ⟨Nat.le_of_ble_eq_true rfl, Nat.le_of_ble_eq_true rfl⟩ hf rfl (Nat.le_of_ble_eq_true rfl) zd_L_law_418 rfl ?_
  refine G_istore F zd_L_law_421 (by decide) (L' := [(5, .int (0 : Int32)), (0, .ref sc), (1, .ref xa), (2, .ref ma), (3, .ref oa), (4, .int i)]) rfl ?_
  refine G_aload_n F zd_L_law_423 rfl (j := 3) rfl ?_
  refine G_aload_n F zd_L_law_424 rfl (j := 1) rfl ?_
  refine G_iload F zd_L_law_425 (j := 5) rfl ?_
  refine G_iconst (v := (1 : Int32)) F zd_L_law_427 (by decide) ?_
  refine G_iadd F zd_L_law_428 ?_
  refine G_sld F S zd_L_law_429 g1 ?_
  refine G_aload_n F zd_L_law_430 rfl (j := 1) rfl ?_
  refine G_iload F zd_L_law_431 (j := 5) rfl ?_
  refine G_iconst (v := (2 : Int32)) F zd_L_law_433 (by decide) ?_
  refine G_iadd F zd_L_law_434 ?_
  refine G_sld F S zd_L_law_435 g2 ?_
  refine G_calliV F (zk_M_get l D cB cI cJ ma mb mz mh me th mf sz mc cp hi bg en tb ou mp fa (xs (Int32.toNatClampNeg (i + (1 : Int32)))) (xs (Int32.toNatClampNeg (i + (2 : Int32)))) rm (0 : Int32) h2) (rest := []) [18, 19, 20, 21, 22] rfl rfl rfl (ws' := [(xa, .inr (7, [.ref qa, .ref sa, .ref pa, .ref da, .ref ka, .ref wa, .ref va, .ref ea, .ref ua])), (qa, .inr (4, [.ref qb, .int qn])), (qb, .inl (cB, 160, .inl qf)), (sa, .inr (4, [.ref sb, .int sn])), (sb, .inl (cB, 200, .inl sf)), (pa, .inr (4, [.ref pb, .int pn])), (pb, .inl (cB, 64, .inl pf)), (da, .inr (4, [.ref db, .int dn])), (db, .inl (cB, 160, .inl df)), (ha, .inr (2, [.ref pa, .ref qa])), (ka, .inr (3, [.ref pa, .ref qa, .ref ha, .ref ta, .int an, .int mt, .int co])), (ta, .inl (cI, 32, .inl tf)), (wa, .inr (6, [.ref qa, .ref sa])), (va, .inr (1, [.ref qa, .ref sa])), (hb, .inr (2, [.ref pa, .ref da])), (hc, .inr (2, [.ref pa, .ref da])), (ea, .inr (5, [.ref sa, .ref da, .ref hb, .int ra, .int rr])), (ua, .inr (0, [.ref sa, .ref da, .ref hc, .int zra, .int zrr, .int zrp])), (ma, .inr (8, [.int (0 : Int32), .ref mb, .ref mz, .int mc, .int cp, .ref mh, .int bg, .int en, .ref me, .int ou, .int mp, .int fa])), (mb, .inl (cI, 600, .inl mf)), (mz, .inl (cI, 3, .inl sz)), (mh, .inl (cI, 224, .inl hi)), (me, .inl (cI, 32, .inl tb)), (oa, .inl (cJ, 1, .inr (.inl ox')))]) (by simp only [setsW, List.set]) (q0 := 18) rfl cv_L_75_M rfl rfl ⟨Nat.le_of_ble_eq_true rfl, Nat.le_of_ble_eq_true rfl⟩ hf rfl (Nat.le_of_ble_eq_true rfl) zd_L_law_436 rfl ?_
  refine G_istore F zd_L_law_439 (by decide) (L' := [(6, .int rm), (5, .int (0 : Int32)), (0, .ref sc), (1, .ref xa), (2, .ref ma), (3, .ref oa), (4, .int i)]) rfl ?_
  refine G_aload_n F zd_L_law_441 rfl (j := 4) rfl ?_
  refine G_calliV0 F (zk_M_thrown l D cB cI cJ ma mb mz mh me (0 : Int32) mf sz mc cp hi bg en tb ou mp fa (0 : Int32) rfl) (rest := []) [18, 19, 20, 21, 22] rfl rfl (q0 := 18) rfl cv_L_55_M rfl rfl ⟨Nat.le_of_ble_eq_true rfl, Nat.le_of_ble_eq_true rfl⟩ hf rfl (Nat.le_of_ble_eq_true rfl) zd_L_law_442 rfl ?_
  refine G_iload F zd_L_law_445 (j := 1) rfl ?_
  refine G_icmp_eq F zd_L_law_447 (tgt := 452) rfl (fun _ => ?_) (fun h0 => absurd rfl h0)
  refine G_iload F zd_L_law_452 (j := 1) rfl ?_
  refine G_if_ne F zd_L_law_454 (tgt := 469) rfl (fun h0 => absurd rfl h0) (fun _ => ?_)
  refine G_aload_n F zd_L_law_457 rfl (j := 5) rfl ?_
  refine G_iconst (v := (0 : Int32)) F zd_L_law_458 (by decide) ?_
  refine G_laload F zd_L_law_459 (q := 23) rfl (by decide) ?_
  refine G_iload F zd_L_law_460 (j := 0) rfl ?_
  refine G_i2l F zd_L_law_462 ?_
  refine G_lcmp F zd_L_law_463 ?_
  refine G_topi (y := (0 : Int32)) hx.symm ?_
  refine G_if_eq F zd_L_law_464 (tgt := 469) rfl (fun _ => ?_) (fun h0 => absurd rfl h0)
  refine G_goto F zd_L_law_469 (tgt := 652) rfl ?_
  exact G_lv [2, 3, 4, 5, 6] rfl kk

set_option maxHeartbeats 4000000 in
set_option maxRecDepth 100000 in
theorem zs_get_IA {k : GC} {l : Launch} (hl : l.stackTraces = false) {D : va_G} {cB cI cJ : ClassId} (F : GF k l room_1 zc_L_law 7 RL D cB cI cJ) (X : XF k) {sc Ls : Nat} {xs : Nat → Int32} (S : SX k sc Ls xs) {cells slots : Nat} (hf1 : cells + 1 ≤ room_1.cells ∧ slots + 6 ≤ room_1.slots) (xa : Nat) (qa : Nat) (qb : Nat) (sa : Nat) (sb : Nat) (pa : Nat) (pb : Nat) (da : Nat) (db : Nat) (ka : Nat) (ha : Nat) (ta : Nat) (wa : Nat) (va : Nat) (hb : Nat) (hc : Nat) (ea : Nat) (ua : Nat) (ma : Nat) (mb : Nat) (mz : Nat) (mh : Nat) (me : Nat) (oa : Nat) (qn : Int32) (qf : Nat → Int32) (sn : Int32) (sf : Nat → Int32) (pn : Int32) (pf : Nat → Int32) (dn : Int32) (df : Nat → Int32) (tf : Nat → Int32) (an : Int32) (mt : Int32) (co : Int32) (ra : Int32) (rr : Int32) (zra : Int32) (zrr : Int32) (zrp : Int32) (th : Int32) (mf : Nat → Int32) (sz : Nat → Int32) (mc : Int32) (cp : Int32) (hi : Nat → Int32) (bg : Int32) (en : Int32) (tb : Nat → Int32) (ou : Int32) (mp : Int32) (fa : Int32) (ox : Nat → Int64) (i : Int32) (g1 : ¬ ((i + (1 : Int32)) < 0 ∨ Ls ≤ Int32.toNatClampNeg (i + (1 : Int32)))) (g2 : ¬ ((i + (2 : Int32)) < 0 ∨ Ls ≤ Int32.toNatClampNeg (i + (2 : Int32)))) (rm : Int32) (h1 : zf_X_get_IA qn sn pn (xs (Int32.toNatClampNeg (i + (1 : Int32)))) (xs (Int32.toNatClampNeg (i + (2 : Int32)))) = some ()) (h2 : zf_M_get mf sz (xs (Int32.toNatClampNeg (i + (1 : Int32)))) (xs (Int32.toNatClampNeg (i + (2 : Int32)))) = some (rm, (1 : Int32))) (kk : G D 7 k (cells + 1) (slots + 6) 652 [(0, .ref sc), (1, .ref xa), (2, .ref ma), (3, .ref oa), (4, .int i)] [] [(xa, .inr (7, [.ref qa, .ref sa, .ref pa, .ref da, .ref ka, .ref wa, .ref va, .ref ea, .ref ua])), (qa, .inr (4, [.ref qb, .int qn])), (qb, .inl (cB, 160, .inl qf)), (sa, .inr (4, [.ref sb, .int sn])), (sb, .inl (cB, 200, .inl sf)), (pa, .inr (4, [.ref pb, .int pn])), (pb, .inl (cB, 64, .inl pf)), (da, .inr (4, [.ref db, .int dn])), (db, .inl (cB, 160, .inl df)), (ha, .inr (2, [.ref pa, .ref qa])), (ka, .inr (3, [.ref pa, .ref qa, .ref ha, .ref ta, .int an, .int mt, .int co])), (ta, .inl (cI, 32, .inl tf)), (wa, .inr (6, [.ref qa, .ref sa])), (va, .inr (1, [.ref qa, .ref sa])), (hb, .inr (2, [.ref pa, .ref da])), (hc, .inr (2, [.ref pa, .ref da])), (ea, .inr (5, [.ref sa, .ref da, .ref hb, .int ra, .int rr])), (ua, .inr (0, [.ref sa, .ref da, .ref hc, .int zra, .int zrr, .int zrp])), (ma, .inr (8, [.int (1 : Int32), .ref mb, .ref mz, .int mc, .int cp, .ref mh, .int bg, .int en, .ref me, .int ou, .int mp, .int fa])), (mb, .inl (cI, 600, .inl mf)), (mz, .inl (cI, 3, .inl sz)), (mh, .inl (cI, 224, .inl hi)), (me, .inl (cI, 32, .inl tb)), (oa, .inl (cJ, 1, .inr (.inl ox)))]) : G D 7 k cells slots 404 [(0, .ref sc), (1, .ref xa), (2, .ref ma), (3, .ref oa), (4, .int i)] [] [(xa, .inr (7, [.ref qa, .ref sa, .ref pa, .ref da, .ref ka, .ref wa, .ref va, .ref ea, .ref ua])), (qa, .inr (4, [.ref qb, .int qn])), (qb, .inl (cB, 160, .inl qf)), (sa, .inr (4, [.ref sb, .int sn])), (sb, .inl (cB, 200, .inl sf)), (pa, .inr (4, [.ref pb, .int pn])), (pb, .inl (cB, 64, .inl pf)), (da, .inr (4, [.ref db, .int dn])), (db, .inl (cB, 160, .inl df)), (ha, .inr (2, [.ref pa, .ref qa])), (ka, .inr (3, [.ref pa, .ref qa, .ref ha, .ref ta, .int an, .int mt, .int co])), (ta, .inl (cI, 32, .inl tf)), (wa, .inr (6, [.ref qa, .ref sa])), (va, .inr (1, [.ref qa, .ref sa])), (hb, .inr (2, [.ref pa, .ref da])), (hc, .inr (2, [.ref pa, .ref da])), (ea, .inr (5, [.ref sa, .ref da, .ref hb, .int ra, .int rr])), (ua, .inr (0, [.ref sa, .ref da, .ref hc, .int zra, .int zrr, .int zrp])), (ma, .inr (8, [.int th, .ref mb, .ref mz, .int mc, .int cp, .ref mh, .int bg, .int en, .ref me, .int ou, .int mp, .int fa])), (mb, .inl (cI, 600, .inl mf)), (mz, .inl (cI, 3, .inl sz)), (mh, .inl (cI, 224, .inl hi)), (me, .inl (cI, 32, .inl tb)), (oa, .inl (cJ, 1, .inr (.inl ox)))] := by
  refine G_aload_n F zd_L_law_404 rfl (j := 1) rfl ?_
  refine G_aload_n F zd_L_law_405 rfl (j := 0) rfl ?_
  refine G_iload F zd_L_law_406 (j := 4) rfl ?_
  refine G_iconst (v := (1 : Int32)) F zd_L_law_408 (by decide) ?_
  refine G_iadd F zd_L_law_409 ?_
  refine G_sld F S zd_L_law_410 g1 ?_
  refine G_aload_n F zd_L_law_411 rfl (j := 0) rfl ?_
  refine G_iload F zd_L_law_412 (j := 4) rfl ?_
  refine G_iconst (v := (2 : Int32)) F zd_L_law_414 (by decide) ?_
  refine G_iadd F zd_L_law_415 ?_
  refine G_sld F S zd_L_law_416 g2 ?_
  refine G_aload_n F zd_L_law_417 rfl (j := 3) rfl ?_
  refine G_calliC F X (zx_L_get_IA l hl D cB cI cJ xa qa qb sa sb pa pb da db ka ha ta wa va hb hc ea ua oa qn qf sn sf pn pf dn df tf an mt co ra rr zra zrr zrp (xs (Int32.toNatClampNeg (i + (1 : Int32)))) (xs (Int32.toNatClampNeg (i + (2 : Int32)))) ox h1) (rest := []) [0, 1, 2, 3, 4, 5, 6, 7, 8, 9, 10, 11, 12, 13, 14, 15, 16, 17, 23] rfl rfl cl_L_72 rfl rfl ⟨Nat.le_of_ble_eq_true rfl, Nat.le_of_ble_eq_true rfl⟩ hf1 rfl (Nat.le_of_ble_eq_true rfl) zd_L_law_418 rfl ?_
  refine G_istore F zd_L_law_421 (by decide) (L' := [(5, .int (1 : Int32)), (0, .ref sc), (1, .ref xa), (2, .ref ma), (3, .ref oa), (4, .int i)]) rfl ?_
  refine G_aload_n F zd_L_law_423 rfl (j := 3) rfl ?_
  refine G_aload_n F zd_L_law_424 rfl (j := 1) rfl ?_
  refine G_iload F zd_L_law_425 (j := 5) rfl ?_
  refine G_iconst (v := (1 : Int32)) F zd_L_law_427 (by decide) ?_
  refine G_iadd F zd_L_law_428 ?_
  refine G_sld F S zd_L_law_429 g1 ?_
  refine G_aload_n F zd_L_law_430 rfl (j := 1) rfl ?_
  refine G_iload F zd_L_law_431 (j := 5) rfl ?_
  refine G_iconst (v := (2 : Int32)) F zd_L_law_433 (by decide) ?_
  refine G_iadd F zd_L_law_434 ?_
  refine G_sld F S zd_L_law_435 g2 ?_
  refine G_calliV F (zk_M_get l D cB cI cJ ma mb mz mh me th mf sz mc cp hi bg en tb ou mp fa (xs (Int32.toNatClampNeg (i + (1 : Int32)))) (xs (Int32.toNatClampNeg (i + (2 : Int32)))) rm (1 : Int32) h2) (rest := []) [18, 19, 20, 21, 22] rfl rfl rfl (ws' := [(xa, .inr (7, [.ref qa, .ref sa, .ref pa, .ref da, .ref ka, .ref wa, .ref va, .ref ea, .ref ua])), (qa, .inr (4, [.ref qb, .int qn])), (qb, .inl (cB, 160, .inl qf)), (sa, .inr (4, [.ref sb, .int sn])), (sb, .inl (cB, 200, .inl sf)), (pa, .inr (4, [.ref pb, .int pn])), (pb, .inl (cB, 64, .inl pf)), (da, .inr (4, [.ref db, .int dn])), (db, .inl (cB, 160, .inl df)), (ha, .inr (2, [.ref pa, .ref qa])), (ka, .inr (3, [.ref pa, .ref qa, .ref ha, .ref ta, .int an, .int mt, .int co])), (ta, .inl (cI, 32, .inl tf)), (wa, .inr (6, [.ref qa, .ref sa])), (va, .inr (1, [.ref qa, .ref sa])), (hb, .inr (2, [.ref pa, .ref da])), (hc, .inr (2, [.ref pa, .ref da])), (ea, .inr (5, [.ref sa, .ref da, .ref hb, .int ra, .int rr])), (ua, .inr (0, [.ref sa, .ref da, .ref hc, .int zra, .int zrr, .int zrp])), (ma, .inr (8, [.int (1 : Int32), .ref mb, .ref mz, .int mc, .int cp, .ref mh, .int bg, .int en, .ref me, .int ou, .int mp, .int fa])), (mb, .inl (cI, 600, .inl mf)), (mz, .inl (cI, 3, .inl sz)), (mh, .inl (cI, 224, .inl hi)), (me, .inl (cI, 32, .inl tb)), (oa, .inl (cJ, 1, .inr (.inl ox)))]) (by simp only [setsW, List.set]) (q0 := 18) rfl cv_L_75_M rfl rfl ⟨Nat.le_of_ble_eq_true rfl, Nat.le_of_ble_eq_true rfl⟩ hf1 rfl (Nat.le_of_ble_eq_true rfl) zd_L_law_436 rfl ?_
  refine G_istore F zd_L_law_439 (by decide) (L' := [(6, .int rm), (5, .int (1 : Int32)), (0, .ref sc), (1, .ref xa), (2, .ref ma), (3, .ref oa), (4, .int i)]) rfl ?_
  refine G_aload_n F zd_L_law_441 rfl (j := 4) rfl ?_
  refine G_calliV0 F (zk_M_thrown l D cB cI cJ ma mb mz mh me (1 : Int32) mf sz mc cp hi bg en tb ou mp fa (1 : Int32) rfl) (rest := []) [18, 19, 20, 21, 22] rfl rfl (q0 := 18) rfl cv_L_55_M rfl rfl ⟨Nat.le_of_ble_eq_true rfl, Nat.le_of_ble_eq_true rfl⟩ hf1 rfl (Nat.le_of_ble_eq_true rfl) zd_L_law_442 rfl ?_
  refine G_iload F zd_L_law_445 (j := 1) rfl ?_
  refine G_icmp_eq F zd_L_law_447 (tgt := 452) rfl (fun _ => ?_) (fun h0 => absurd rfl h0)
  refine G_iload F zd_L_law_452 (j := 1) rfl ?_
  refine G_if_ne F zd_L_law_454 (tgt := 469) rfl (fun _ => ?_) (fun h0 => absurd h0 (by decide))
  refine G_goto F zd_L_law_469 (tgt := 652) rfl ?_
  exact G_lv [2, 3, 4, 5, 6] rfl kk

set_option maxHeartbeats 4000000 in
set_option maxRecDepth 100000 in
theorem zs_get_IS {k : GC} {l : Launch} (hl : l.stackTraces = false) {D : va_G} {cB cI cJ : ClassId} (F : GF k l room_1 zc_L_law 7 RL D cB cI cJ) (X : XF k) {sc Ls : Nat} {xs : Nat → Int32} (S : SX k sc Ls xs) {cells slots : Nat} (hf1 : cells + 1 ≤ room_1.cells ∧ slots + 6 ≤ room_1.slots) (xa : Nat) (qa : Nat) (qb : Nat) (sa : Nat) (sb : Nat) (pa : Nat) (pb : Nat) (da : Nat) (db : Nat) (ka : Nat) (ha : Nat) (ta : Nat) (wa : Nat) (va : Nat) (hb : Nat) (hc : Nat) (ea : Nat) (ua : Nat) (ma : Nat) (mb : Nat) (mz : Nat) (mh : Nat) (me : Nat) (oa : Nat) (qn : Int32) (qf : Nat → Int32) (sn : Int32) (sf : Nat → Int32) (pn : Int32) (pf : Nat → Int32) (dn : Int32) (df : Nat → Int32) (tf : Nat → Int32) (an : Int32) (mt : Int32) (co : Int32) (ra : Int32) (rr : Int32) (zra : Int32) (zrr : Int32) (zrp : Int32) (th : Int32) (mf : Nat → Int32) (sz : Nat → Int32) (mc : Int32) (cp : Int32) (hi : Nat → Int32) (bg : Int32) (en : Int32) (tb : Nat → Int32) (ou : Int32) (mp : Int32) (fa : Int32) (ox : Nat → Int64) (i : Int32) (g1 : ¬ ((i + (1 : Int32)) < 0 ∨ Ls ≤ Int32.toNatClampNeg (i + (1 : Int32)))) (g2 : ¬ ((i + (2 : Int32)) < 0 ∨ Ls ≤ Int32.toNatClampNeg (i + (2 : Int32)))) (rm : Int32) (h1 : zf_X_get_IS qn sn pn (xs (Int32.toNatClampNeg (i + (1 : Int32)))) (xs (Int32.toNatClampNeg (i + (2 : Int32)))) = some ()) (h2 : zf_M_get mf sz (xs (Int32.toNatClampNeg (i + (1 : Int32)))) (xs (Int32.toNatClampNeg (i + (2 : Int32)))) = some (rm, (2 : Int32))) (kk : G D 7 k (cells + 1) (slots + 6) 652 [(0, .ref sc), (1, .ref xa), (2, .ref ma), (3, .ref oa), (4, .int i)] [] [(xa, .inr (7, [.ref qa, .ref sa, .ref pa, .ref da, .ref ka, .ref wa, .ref va, .ref ea, .ref ua])), (qa, .inr (4, [.ref qb, .int qn])), (qb, .inl (cB, 160, .inl qf)), (sa, .inr (4, [.ref sb, .int sn])), (sb, .inl (cB, 200, .inl sf)), (pa, .inr (4, [.ref pb, .int pn])), (pb, .inl (cB, 64, .inl pf)), (da, .inr (4, [.ref db, .int dn])), (db, .inl (cB, 160, .inl df)), (ha, .inr (2, [.ref pa, .ref qa])), (ka, .inr (3, [.ref pa, .ref qa, .ref ha, .ref ta, .int an, .int mt, .int co])), (ta, .inl (cI, 32, .inl tf)), (wa, .inr (6, [.ref qa, .ref sa])), (va, .inr (1, [.ref qa, .ref sa])), (hb, .inr (2, [.ref pa, .ref da])), (hc, .inr (2, [.ref pa, .ref da])), (ea, .inr (5, [.ref sa, .ref da, .ref hb, .int ra, .int rr])), (ua, .inr (0, [.ref sa, .ref da, .ref hc, .int zra, .int zrr, .int zrp])), (ma, .inr (8, [.int (2 : Int32), .ref mb, .ref mz, .int mc, .int cp, .ref mh, .int bg, .int en, .ref me, .int ou, .int mp, .int fa])), (mb, .inl (cI, 600, .inl mf)), (mz, .inl (cI, 3, .inl sz)), (mh, .inl (cI, 224, .inl hi)), (me, .inl (cI, 32, .inl tb)), (oa, .inl (cJ, 1, .inr (.inl ox)))]) : G D 7 k cells slots 404 [(0, .ref sc), (1, .ref xa), (2, .ref ma), (3, .ref oa), (4, .int i)] [] [(xa, .inr (7, [.ref qa, .ref sa, .ref pa, .ref da, .ref ka, .ref wa, .ref va, .ref ea, .ref ua])), (qa, .inr (4, [.ref qb, .int qn])), (qb, .inl (cB, 160, .inl qf)), (sa, .inr (4, [.ref sb, .int sn])), (sb, .inl (cB, 200, .inl sf)), (pa, .inr (4, [.ref pb, .int pn])), (pb, .inl (cB, 64, .inl pf)), (da, .inr (4, [.ref db, .int dn])), (db, .inl (cB, 160, .inl df)), (ha, .inr (2, [.ref pa, .ref qa])), (ka, .inr (3, [.ref pa, .ref qa, .ref ha, .ref ta, .int an, .int mt, .int co])), (ta, .inl (cI, 32, .inl tf)), (wa, .inr (6, [.ref qa, .ref sa])), (va, .inr (1, [.ref qa, .ref sa])), (hb, .inr (2, [.ref pa, .ref da])), (hc, .inr (2, [.ref pa, .ref da])), (ea, .inr (5, [.ref sa, .ref da, .ref hb, .int ra, .int rr])), (ua, .inr (0, [.ref sa, .ref da, .ref hc, .int zra, .int zrr, .int zrp])), (ma, .inr (8, [.int th, .ref mb, .ref mz, .int mc, .int cp, .ref mh, .int bg, .int en, .ref me, .int ou, .int mp, .int fa])), (mb, .inl (cI, 600, .inl mf)), (mz, .inl (cI, 3, .inl sz)), (mh, .inl (cI, 224, .inl hi)), (me, .inl (cI, 32, .inl tb)), (oa, .inl (cJ, 1, .inr (.inl ox)))] := by
  refine G_aload_n F zd_L_law_404 rfl (j := 1) rfl ?_
  refine G_aload_n F zd_L_law_405 rfl (j := 0) rfl ?_
  refine G_iload F zd_L_law_406 (j := 4) rfl ?_
  refine G_iconst (v := (1 : Int32)) F zd_L_law_408 (by decide) ?_
  refine G_iadd F zd_L_law_409 ?_
  refine G_sld F S zd_L_law_410 g1 ?_
  refine G_aload_n F zd_L_law_411 rfl (j := 0) rfl ?_
  refine G_iload F zd_L_law_412 (j := 4) rfl ?_
  refine G_iconst (v := (2 : Int32)) F zd_L_law_414 (by decide) ?_
  refine G_iadd F zd_L_law_415 ?_
  refine G_sld F S zd_L_law_416 g2 ?_
  refine G_aload_n F zd_L_law_417 rfl (j := 3) rfl ?_
  refine G_calliC F X (zx_L_get_IS l hl D cB cI cJ xa qa qb sa sb pa pb da db ka ha ta wa va hb hc ea ua oa qn qf sn sf pn pf dn df tf an mt co ra rr zra zrr zrp (xs (Int32.toNatClampNeg (i + (1 : Int32)))) (xs (Int32.toNatClampNeg (i + (2 : Int32)))) ox h1) (rest := []) [0, 1, 2, 3, 4, 5, 6, 7, 8, 9, 10, 11, 12, 13, 14, 15, 16, 17, 23] rfl rfl cl_L_72 rfl rfl ⟨Nat.le_of_ble_eq_true rfl, Nat.le_of_ble_eq_true rfl⟩ hf1 rfl (Nat.le_of_ble_eq_true rfl) zd_L_law_418 rfl ?_
  refine G_istore F zd_L_law_421 (by decide) (L' := [(5, .int (2 : Int32)), (0, .ref sc), (1, .ref xa), (2, .ref ma), (3, .ref oa), (4, .int i)]) rfl ?_
  refine G_aload_n F zd_L_law_423 rfl (j := 3) rfl ?_
  refine G_aload_n F zd_L_law_424 rfl (j := 1) rfl ?_
  refine G_iload F zd_L_law_425 (j := 5) rfl ?_
  refine G_iconst (v := (1 : Int32)) F zd_L_law_427 (by decide) ?_
  refine G_iadd F zd_L_law_428 ?_
  refine G_sld F S zd_L_law_429 g1 ?_
  refine G_aload_n F zd_L_law_430 rfl (j := 1) rfl ?_
  refine G_iload F zd_L_law_431 (j := 5) rfl ?_
  refine G_iconst (v := (2 : Int32)) F zd_L_law_433 (by decide) ?_
  refine G_iadd F zd_L_law_434 ?_
  refine G_sld F S zd_L_law_435 g2 ?_
  refine G_calliV F (zk_M_get l D cB cI cJ ma mb mz mh me th mf sz mc cp hi bg en tb ou mp fa (xs (Int32.toNatClampNeg (i + (1 : Int32)))) (xs (Int32.toNatClampNeg (i + (2 : Int32)))) rm (2 : Int32) h2) (rest := []) [18, 19, 20, 21, 22] rfl rfl rfl (ws' := [(xa, .inr (7, [.ref qa, .ref sa, .ref pa, .ref da, .ref ka, .ref wa, .ref va, .ref ea, .ref ua])), (qa, .inr (4, [.ref qb, .int qn])), (qb, .inl (cB, 160, .inl qf)), (sa, .inr (4, [.ref sb, .int sn])), (sb, .inl (cB, 200, .inl sf)), (pa, .inr (4, [.ref pb, .int pn])), (pb, .inl (cB, 64, .inl pf)), (da, .inr (4, [.ref db, .int dn])), (db, .inl (cB, 160, .inl df)), (ha, .inr (2, [.ref pa, .ref qa])), (ka, .inr (3, [.ref pa, .ref qa, .ref ha, .ref ta, .int an, .int mt, .int co])), (ta, .inl (cI, 32, .inl tf)), (wa, .inr (6, [.ref qa, .ref sa])), (va, .inr (1, [.ref qa, .ref sa])), (hb, .inr (2, [.ref pa, .ref da])), (hc, .inr (2, [.ref pa, .ref da])), (ea, .inr (5, [.ref sa, .ref da, .ref hb, .int ra, .int rr])), (ua, .inr (0, [.ref sa, .ref da, .ref hc, .int zra, .int zrr, .int zrp])), (ma, .inr (8, [.int (2 : Int32), .ref mb, .ref mz, .int mc, .int cp, .ref mh, .int bg, .int en, .ref me, .int ou, .int mp, .int fa])), (mb, .inl (cI, 600, .inl mf)), (mz, .inl (cI, 3, .inl sz)), (mh, .inl (cI, 224, .inl hi)), (me, .inl (cI, 32, .inl tb)), (oa, .inl (cJ, 1, .inr (.inl ox)))]) (by simp only [setsW, List.set]) (q0 := 18) rfl cv_L_75_M rfl rfl ⟨Nat.le_of_ble_eq_true rfl, Nat.le_of_ble_eq_true rfl⟩ hf1 rfl (Nat.le_of_ble_eq_true rfl) zd_L_law_436 rfl ?_
  refine G_istore F zd_L_law_439 (by decide) (L' := [(6, .int rm), (5, .int (2 : Int32)), (0, .ref sc), (1, .ref xa), (2, .ref ma), (3, .ref oa), (4, .int i)]) rfl ?_
  refine G_aload_n F zd_L_law_441 rfl (j := 4) rfl ?_
  refine G_calliV0 F (zk_M_thrown l D cB cI cJ ma mb mz mh me (2 : Int32) mf sz mc cp hi bg en tb ou mp fa (2 : Int32) rfl) (rest := []) [18, 19, 20, 21, 22] rfl rfl (q0 := 18) rfl cv_L_55_M rfl rfl ⟨Nat.le_of_ble_eq_true rfl, Nat.le_of_ble_eq_true rfl⟩ hf1 rfl (Nat.le_of_ble_eq_true rfl) zd_L_law_442 rfl ?_
  refine G_iload F zd_L_law_445 (j := 1) rfl ?_
  refine G_icmp_eq F zd_L_law_447 (tgt := 452) rfl (fun _ => ?_) (fun h0 => absurd rfl h0)
  refine G_iload F zd_L_law_452 (j := 1) rfl ?_
  refine G_if_ne F zd_L_law_454 (tgt := 469) rfl (fun _ => ?_) (fun h0 => absurd h0 (by decide))
  refine G_goto F zd_L_law_469 (tgt := 652) rfl ?_
  exact G_lv [2, 3, 4, 5, 6] rfl kk

set_option maxHeartbeats 4000000 in
set_option maxRecDepth 100000 in
theorem zs_found_N {k : GC} {l : Launch} (hl : l.stackTraces = false) {D : va_G} {cB cI cJ : ClassId} (F : GF k l room_1 zc_L_law 7 RL D cB cI cJ) (X : XF k) {sc Ls : Nat} {xs : Nat → Int32} (S : SX k sc Ls xs) {cells slots : Nat} (hf : cells ≤ room_1.cells ∧ slots ≤ room_1.slots) (xa : Nat) (qa : Nat) (qb : Nat) (sa : Nat) (sb : Nat) (pa : Nat) (pb : Nat) (da : Nat) (db : Nat) (ka : Nat) (ha : Nat) (ta : Nat) (wa : Nat) (va : Nat) (hb : Nat) (hc : Nat) (ea : Nat) (ua : Nat) (ma : Nat) (mb : Nat) (mz : Nat) (mh : Nat) (me : Nat) (oa : Nat) (qn : Int32) (qf : Nat → Int32) (sn : Int32) (sf : Nat → Int32) (pn : Int32) (pf : Nat → Int32) (dn : Int32) (df : Nat → Int32) (tf : Nat → Int32) (an : Int32) (mt : Int32) (co : Int32) (ra : Int32) (rr : Int32) (zra : Int32) (zrr : Int32) (zrp : Int32) (th : Int32) (mf : Nat → Int32) (sz : Nat → Int32) (mc : Int32) (cp : Int32) (hi : Nat → Int32) (bg : Int32) (en : Int32) (tb : Nat → Int32) (ou : Int32) (mp : Int32) (fa : Int32) (ox : Nat → Int64) (i : Int32) (g1 : ¬ ((i + (1 : Int32)) < 0 ∨ Ls ≤ Int32.toNatClampNeg (i + (1 : Int32)))) (ox' : Nat → Int64) (rm : Int32) (h1 : zf_L_found mt co (xs (Int32.toNatClampNeg (i + (1 : Int32)))) ox = some ((0 : Int32), ox')) (h2 : zf_M_found mc cp (xs (Int32.toNatClampNeg (i + (1 : Int32)))) = some (rm, (0 : Int32))) (hx : lg_cmp (ox' (Int32.toNatClampNeg (0 : Int32))) (rm.toInt64) = 0) (kk : G D 7 k cells slots 652 [(0, .ref sc), (1, .ref xa), (2, .ref ma), (3, .ref oa), (4, .int i)] [] [(xa, .inr (7, [.ref qa, .ref sa, .ref pa, .ref da, .ref ka, .ref wa, .ref va, .ref ea, .ref ua])), (qa, .inr (4, [.ref qb, .int qn])), (qb, .inl (cB, 160, .inl qf)), (sa, .inr (4, [.ref sb, .int sn])), (sb, .inl (cB, 200, .inl sf)), (pa, .inr (4, [.ref pb, .int pn])), (pb, .inl (cB, 64, .inl pf)), (da, .inr (4, [.ref db, .int dn])), (db, .inl (cB, 160, .inl df)), (ha, .inr (2, [.ref pa, .ref qa])), (ka, .inr (3, [.ref pa, .ref qa, .ref ha, .ref ta, .int an, .int mt, .int co])), (ta, .inl (cI, 32, .inl tf)), (wa, .inr (6, [.ref qa, .ref sa])), (va, .inr (1, [.ref qa, .ref sa])), (hb, .inr (2, [.ref pa, .ref da])), (hc, .inr (2, [.ref pa, .ref da])), (ea, .inr (5, [.ref sa, .ref da, .ref hb, .int ra, .int rr])), (ua, .inr (0, [.ref sa, .ref da, .ref hc, .int zra, .int zrr, .int zrp])), (ma, .inr (8, [.int (0 : Int32), .ref mb, .ref mz, .int mc, .int cp, .ref mh, .int bg, .int en, .ref me, .int ou, .int mp, .int fa])), (mb, .inl (cI, 600, .inl mf)), (mz, .inl (cI, 3, .inl sz)), (mh, .inl (cI, 224, .inl hi)), (me, .inl (cI, 32, .inl tb)), (oa, .inl (cJ, 1, .inr (.inl ox')))]) : G D 7 k cells slots 472 [(0, .ref sc), (1, .ref xa), (2, .ref ma), (3, .ref oa), (4, .int i)] [] [(xa, .inr (7, [.ref qa, .ref sa, .ref pa, .ref da, .ref ka, .ref wa, .ref va, .ref ea, .ref ua])), (qa, .inr (4, [.ref qb, .int qn])), (qb, .inl (cB, 160, .inl qf)), (sa, .inr (4, [.ref sb, .int sn])), (sb, .inl (cB, 200, .inl sf)), (pa, .inr (4, [.ref pb, .int pn])), (pb, .inl (cB, 64, .inl pf)), (da, .inr (4, [.ref db, .int dn])), (db, .inl (cB, 160, .inl df)), (ha, .inr (2, [.ref pa, .ref qa])), (ka, .inr (3, [.ref pa, .ref qa, .ref ha, .ref ta, .int an, .int mt, .int co])), (ta, .inl (cI, 32, .inl tf)), (wa, .inr (6, [.ref qa, .ref sa])), (va, .inr (1, [.ref qa, .ref sa])), (hb, .inr (2, [.ref pa, .ref da])), (hc, .inr (2, [.ref pa, .ref da])), (ea, .inr (5, [.ref sa, .ref da, .ref hb, .int ra, .int rr])), (ua, .inr (0, [.ref sa, .ref da, .ref hc, .int zra, .int zrr, .int zrp])), (ma, .inr (8, [.int th, .ref mb, .ref mz, .int mc, .int cp, .ref mh, .int bg, .int en, .ref me, .int ou, .int mp, .int fa])), (mb, .inl (cI, 600, .inl mf)), (mz, .inl (cI, 3, .inl sz)), (mh, .inl (cI, 224, .inl hi)), (me, .inl (cI, 32, .inl tb)), (oa, .inl (cJ, 1, .inr (.inl ox)))] := by
  refine G_aload_n F zd_L_law_472 rfl (j := 1) rfl ?_
  refine G_aload_n F zd_L_law_473 rfl (j := 0) rfl ?_
  refine G_iload F zd_L_law_474 (j := 4) rfl ?_
  refine G_iconst (v := (1 : Int32)) F zd_L_law_476 (by decide) ?_
  refine G_iadd F zd_L_law_477 ?_
  refine G_sld F S zd_L_law_478 g1 ?_
  refine G_aload_n F zd_L_law_479 rfl (j := 3) rfl ?_
  refine G_calliW F (zk_L_found l D cB cI cJ xa qa qb sa sb pa pb da db ka ha ta wa va hb hc ea ua oa qn qf sn sf pn pf dn df tf an mt co ra rr zra zrr zrp (xs (Int32.toNatClampNeg (i + (1 : Int32)))) ox (0 : Int32) ox' h1) (rest := []) [0, 1, 2, 3, 4, 5, 6, 7, 8, 9, 10, 11, 12, 13, 14, 15, 16, 17, 23] rfl rfl rfl (ws' := [(xa, .inr (7, [.ref qa, .ref sa, .ref pa, .ref da, .ref ka, .ref wa, .ref va, .ref ea, .ref ua])), (qa, .inr (4, [.ref qb, .int qn])), (qb, .inl (cB, 160, .inl qf)), (sa, .inr (4, [.ref sb, .int sn])), (sb, .inl (cB, 200, .inl sf)), (pa, .inr (4, [.ref pb, .int pn])), (pb, .inl (cB, 64, .inl pf)), (da, .inr (4, [.ref db, .int dn])), (db, .inl (cB, 160, .inl df)), (ha, .inr (2, [.ref pa, .ref qa])), (ka, .inr (3, [.ref pa, .ref qa, .ref ha, .ref ta, .int an, .int mt, .int co])), (ta, .inl (cI, 32, .inl tf)), (wa, .inr (6, [.ref qa, .ref sa])), (va, .inr (1, [.ref qa, .ref sa])), (hb, .inr (2, [.ref pa, .ref da])), (hc, .inr (2, [.ref pa, .ref da])), (ea, .inr (5, [.ref sa, .ref da, .ref hb, .int ra, .int rr])), (ua, .inr (0, [.ref sa, .ref da, .ref hc, .int zra, .int zrr, .int zrp])), (ma, .inr (8, [.int th, .ref mb, .ref mz, .int mc, .int cp, .ref mh, .int bg, .int en, .ref me, .int ou, .int mp, .int fa])), (mb, .inl (cI, 600, .inl mf)), (mz, .inl (cI, 3, .inl sz)), (mh, .inl (cI, 224, .inl hi)), (me, .inl (cI, 32, .inl tb)), (oa, .inl (cJ, 1, .inr (.inl ox')))]) (by simp only [setsW, List.set]) cl_L_76 rfl rfl ⟨Nat.le_of_ble_eq_true rfl, Nat.le_of_ble_eq_true rfl⟩ hf rfl (Nat.le_of_ble_eq_true rfl) zd_L_law_480 rfl ?_
  refine G_istore F zd_L_law_483 (by decide) (L' := [(5, .int (0 : Int32)), (0, .ref sc), (1, .ref xa), (2, .ref ma), (3, .ref oa), (4, .int i)]) rfl ?_
  refine G_aload_n F zd_L_law_485 rfl (j := 3) rfl ?_
  refine G_aload_n F zd_L_law_486 rfl (j := 1) rfl ?_
  refine G_iload F zd_L_law_487 (j := 5) rfl ?_
  refine G_iconst (v := (1 : Int32)) F zd_L_law_489 (by decide) ?_
  refine G_iadd F zd_L_law_490 ?_
  refine G_sld F S zd_L_law_491 g1 ?_
  refine G_calliV F (zk_M_found l D cB cI cJ ma mb mz mh me th mf sz mc cp hi bg en tb ou mp fa (xs (Int32.toNatClampNeg (i + (1 : Int32)))) rm (0 : Int32) h2) (rest := []) [18, 19, 20, 21, 22] rfl rfl rfl (ws' := [(xa, .inr (7, [.ref qa, .ref sa, .ref pa, .ref da, .ref ka, .ref wa, .ref va, .ref ea, .ref ua])), (qa, .inr (4, [.ref qb, .int qn])), (qb, .inl (cB, 160, .inl qf)), (sa, .inr (4, [.ref sb, .int sn])), (sb, .inl (cB, 200, .inl sf)), (pa, .inr (4, [.ref pb, .int pn])), (pb, .inl (cB, 64, .inl pf)), (da, .inr (4, [.ref db, .int dn])), (db, .inl (cB, 160, .inl df)), (ha, .inr (2, [.ref pa, .ref qa])), (ka, .inr (3, [.ref pa, .ref qa, .ref ha, .ref ta, .int an, .int mt, .int co])), (ta, .inl (cI, 32, .inl tf)), (wa, .inr (6, [.ref qa, .ref sa])), (va, .inr (1, [.ref qa, .ref sa])), (hb, .inr (2, [.ref pa, .ref da])), (hc, .inr (2, [.ref pa, .ref da])), (ea, .inr (5, [.ref sa, .ref da, .ref hb, .int ra, .int rr])), (ua, .inr (0, [.ref sa, .ref da, .ref hc, .int zra, .int zrr, .int zrp])), (ma, .inr (8, [.int (0 : Int32), .ref mb, .ref mz, .int mc, .int cp, .ref mh, .int bg, .int en, .ref me, .int ou, .int mp, .int fa])), (mb, .inl (cI, 600, .inl mf)), (mz, .inl (cI, 3, .inl sz)), (mh, .inl (cI, 224, .inl hi)), (me, .inl (cI, 32, .inl tb)), (oa, .inl (cJ, 1, .inr (.inl ox')))]) (by simp only [setsW, List.set]) (q0 := 18) rfl cv_L_78_M rfl rfl ⟨Nat.le_of_ble_eq_true rfl, Nat.le_of_ble_eq_true rfl⟩ hf rfl (Nat.le_of_ble_eq_true rfl) zd_L_law_492 rfl ?_
  refine G_istore F zd_L_law_495 (by decide) (L' := [(6, .int rm), (5, .int (0 : Int32)), (0, .ref sc), (1, .ref xa), (2, .ref ma), (3, .ref oa), (4, .int i)]) rfl ?_
  refine G_aload_n F zd_L_law_497 rfl (j := 4) rfl ?_
  refine G_calliV0 F (zk_M_thrown l D cB cI cJ ma mb mz mh me (0 : Int32) mf sz mc cp hi bg en tb ou mp fa (0 : Int32) rfl) (rest := []) [18, 19, 20, 21, 22] rfl rfl (q0 := 18) rfl cv_L_55_M rfl rfl ⟨Nat.le_of_ble_eq_true rfl, Nat.le_of_ble_eq_true rfl⟩ hf rfl (Nat.le_of_ble_eq_true rfl) zd_L_law_498 rfl ?_
  refine G_iload F zd_L_law_501 (j := 1) rfl ?_
  refine G_icmp_eq F zd_L_law_503 (tgt := 508) rfl (fun _ => ?_) (fun h0 => absurd rfl h0)
  refine G_iload F zd_L_law_508 (j := 1) rfl ?_
  refine G_if_ne F zd_L_law_510 (tgt := 525) rfl (fun h0 => absurd rfl h0) (fun _ => ?_)
  refine G_aload_n F zd_L_law_513 rfl (j := 5) rfl ?_
  refine G_iconst (v := (0 : Int32)) F zd_L_law_514 (by decide) ?_
  refine G_laload F zd_L_law_515 (q := 23) rfl (by decide) ?_
  refine G_iload F zd_L_law_516 (j := 0) rfl ?_
  refine G_i2l F zd_L_law_518 ?_
  refine G_lcmp F zd_L_law_519 ?_
  refine G_topi (y := (0 : Int32)) hx.symm ?_
  refine G_if_eq F zd_L_law_520 (tgt := 525) rfl (fun _ => ?_) (fun h0 => absurd rfl h0)
  refine G_goto F zd_L_law_525 (tgt := 652) rfl ?_
  exact G_lv [2, 3, 4, 5, 6] rfl kk

set_option maxHeartbeats 4000000 in
set_option maxRecDepth 100000 in
theorem zs_found_IA {k : GC} {l : Launch} (hl : l.stackTraces = false) {D : va_G} {cB cI cJ : ClassId} (F : GF k l room_1 zc_L_law 7 RL D cB cI cJ) (X : XF k) {sc Ls : Nat} {xs : Nat → Int32} (S : SX k sc Ls xs) {cells slots : Nat} (hf1 : cells + 1 ≤ room_1.cells ∧ slots + 6 ≤ room_1.slots) (xa : Nat) (qa : Nat) (qb : Nat) (sa : Nat) (sb : Nat) (pa : Nat) (pb : Nat) (da : Nat) (db : Nat) (ka : Nat) (ha : Nat) (ta : Nat) (wa : Nat) (va : Nat) (hb : Nat) (hc : Nat) (ea : Nat) (ua : Nat) (ma : Nat) (mb : Nat) (mz : Nat) (mh : Nat) (me : Nat) (oa : Nat) (qn : Int32) (qf : Nat → Int32) (sn : Int32) (sf : Nat → Int32) (pn : Int32) (pf : Nat → Int32) (dn : Int32) (df : Nat → Int32) (tf : Nat → Int32) (an : Int32) (mt : Int32) (co : Int32) (ra : Int32) (rr : Int32) (zra : Int32) (zrr : Int32) (zrp : Int32) (th : Int32) (mf : Nat → Int32) (sz : Nat → Int32) (mc : Int32) (cp : Int32) (hi : Nat → Int32) (bg : Int32) (en : Int32) (tb : Nat → Int32) (ou : Int32) (mp : Int32) (fa : Int32) (ox : Nat → Int64) (i : Int32) (g1 : ¬ ((i + (1 : Int32)) < 0 ∨ Ls ≤ Int32.toNatClampNeg (i + (1 : Int32)))) (rm : Int32) (h1 : zf_X_found_IA (xs (Int32.toNatClampNeg (i + (1 : Int32)))) = some ()) (h2 : zf_M_found mc cp (xs (Int32.toNatClampNeg (i + (1 : Int32)))) = some (rm, (1 : Int32))) (kk : G D 7 k (cells + 1) (slots + 6) 652 [(0, .ref sc), (1, .ref xa), (2, .ref ma), (3, .ref oa), (4, .int i)] [] [(xa, .inr (7, [.ref qa, .ref sa, .ref pa, .ref da, .ref ka, .ref wa, .ref va, .ref ea, .ref ua])), (qa, .inr (4, [.ref qb, .int qn])), (qb, .inl (cB, 160, .inl qf)), (sa, .inr (4, [.ref sb, .int sn])), (sb, .inl (cB, 200, .inl sf)), (pa, .inr (4, [.ref pb, .int pn])), (pb, .inl (cB, 64, .inl pf)), (da, .inr (4, [.ref db, .int dn])), (db, .inl (cB, 160, .inl df)), (ha, .inr (2, [.ref pa, .ref qa])), (ka, .inr (3, [.ref pa, .ref qa, .ref ha, .ref ta, .int an, .int mt, .int co])), (ta, .inl (cI, 32, .inl tf)), (wa, .inr (6, [.ref qa, .ref sa])), (va, .inr (1, [.ref qa, .ref sa])), (hb, .inr (2, [.ref pa, .ref da])), (hc, .inr (2, [.ref pa, .ref da])), (ea, .inr (5, [.ref sa, .ref da, .ref hb, .int ra, .int rr])), (ua, .inr (0, [.ref sa, .ref da, .ref hc, .int zra, .int zrr, .int zrp])), (ma, .inr (8, [.int (1 : Int32), .ref mb, .ref mz, .int mc, .int cp, .ref mh, .int bg, .int en, .ref me, .int ou, .int mp, .int fa])), (mb, .inl (cI, 600, .inl mf)), (mz, .inl (cI, 3, .inl sz)), (mh, .inl (cI, 224, .inl hi)), (me, .inl (cI, 32, .inl tb)), (oa, .inl (cJ, 1, .inr (.inl ox)))]) : G D 7 k cells slots 472 [(0, .ref sc), (1, .ref xa), (2, .ref ma), (3, .ref oa), (4, .int i)] [] [(xa, .inr (7, [.ref qa, .ref sa, .ref pa, .ref da, .ref ka, .ref wa, .ref va, .ref ea, .ref ua])), (qa, .inr (4, [.ref qb, .int qn])), (qb, .inl (cB, 160, .inl qf)), (sa, .inr (4, [.ref sb, .int sn])), (sb, .inl (cB, 200, .inl sf)), (pa, .inr (4, [.ref pb, .int pn])), (pb, .inl (cB, 64, .inl pf)), (da, .inr (4, [.ref db, .int dn])), (db, .inl (cB, 160, .inl df)), (ha, .inr (2, [.ref pa, .ref qa])), (ka, .inr (3, [.ref pa, .ref qa, .ref ha, .ref ta, .int an, .int mt, .int co])), (ta, .inl (cI, 32, .inl tf)), (wa, .inr (6, [.ref qa, .ref sa])), (va, .inr (1, [.ref qa, .ref sa])), (hb, .inr (2, [.ref pa, .ref da])), (hc, .inr (2, [.ref pa, .ref da])), (ea, .inr (5, [.ref sa, .ref da, .ref hb, .int ra, .int rr])), (ua, .inr (0, [.ref sa, .ref da, .ref hc, .int zra, .int zrr, .int zrp])), (ma, .inr (8, [.int th, .ref mb, .ref mz, .int mc, .int cp, .ref mh, .int bg, .int en, .ref me, .int ou, .int mp, .int fa])), (mb, .inl (cI, 600, .inl mf)), (mz, .inl (cI, 3, .inl sz)), (mh, .inl (cI, 224, .inl hi)), (me, .inl (cI, 32, .inl tb)), (oa, .inl (cJ, 1, .inr (.inl ox)))] := by
  refine G_aload_n F zd_L_law_472 rfl (j := 1) rfl ?_
  refine G_aload_n F zd_L_law_473 rfl (j := 0) rfl ?_
  refine G_iload F zd_L_law_474 (j := 4) rfl ?_
  refine G_iconst (v := (1 : Int32)) F zd_L_law_476 (by decide) ?_
  refine G_iadd F zd_L_law_477 ?_
  refine G_sld F S zd_L_law_478 g1 ?_
  refine G_aload_n F zd_L_law_479 rfl (j := 3) rfl ?_
  refine G_calliC F X (zx_L_found_IA l hl D cB cI cJ xa qa qb sa sb pa pb da db ka ha ta wa va hb hc ea ua oa qn qf sn sf pn pf dn df tf an mt co ra rr zra zrr zrp (xs (Int32.toNatClampNeg (i + (1 : Int32)))) ox h1) (rest := []) [0, 1, 2, 3, 4, 5, 6, 7, 8, 9, 10, 11, 12, 13, 14, 15, 16, 17, 23] rfl rfl cl_L_76 rfl rfl ⟨Nat.le_of_ble_eq_true rfl, Nat.le_of_ble_eq_true rfl⟩ hf1 rfl (Nat.le_of_ble_eq_true rfl) zd_L_law_480 rfl ?_
  refine G_istore F zd_L_law_483 (by decide) (L' := [(5, .int (1 : Int32)), (0, .ref sc), (1, .ref xa), (2, .ref ma), (3, .ref oa), (4, .int i)]) rfl ?_
  refine G_aload_n F zd_L_law_485 rfl (j := 3) rfl ?_
  refine G_aload_n F zd_L_law_486 rfl (j := 1) rfl ?_
  refine G_iload F zd_L_law_487 (j := 5) rfl ?_
  refine G_iconst (v := (1 : Int32)) F zd_L_law_489 (by decide) ?_
  refine G_iadd F zd_L_law_490 ?_
  refine G_sld F S zd_L_law_491 g1 ?_
  refine G_calliV F (zk_M_found l D cB cI cJ ma mb mz mh me th mf sz mc cp hi bg en tb ou mp fa (xs (Int32.toNatClampNeg (i + (1 : Int32)))) rm (1 : Int32) h2) (rest := []) [18, 19, 20, 21, 22] rfl rfl rfl (ws' := [(xa, .inr (7, [.ref qa, .ref sa, .ref pa, .ref da, .ref ka, .ref wa, .ref va, .ref ea, .ref ua])), (qa, .inr (4, [.ref qb, .int qn])), (qb, .inl (cB, 160, .inl qf)), (sa, .inr (4, [.ref sb, .int sn])), (sb, .inl (cB, 200, .inl sf)), (pa, .inr (4, [.ref pb, .int pn])), (pb, .inl (cB, 64, .inl pf)), (da, .inr (4, [.ref db, .int dn])), (db, .inl (cB, 160, .inl df)), (ha, .inr (2, [.ref pa, .ref qa])), (ka, .inr (3, [.ref pa, .ref qa, .ref ha, .ref ta, .int an, .int mt, .int co])), (ta, .inl (cI, 32, .inl tf)), (wa, .inr (6, [.ref qa, .ref sa])), (va, .inr (1, [.ref qa, .ref sa])), (hb, .inr (2, [.ref pa, .ref da])), (hc, .inr (2, [.ref pa, .ref da])), (ea, .inr (5, [.ref sa, .ref da, .ref hb, .int ra, .int rr])), (ua, .inr (0, [.ref sa, .ref da, .ref hc, .int zra, .int zrr, .int zrp])), (ma, .inr (8, [.int (1 : Int32), .ref mb, .ref mz, .int mc, .int cp, .ref mh, .int bg, .int en, .ref me, .int ou, .int mp, .int fa])), (mb, .inl (cI, 600, .inl mf)), (mz, .inl (cI, 3, .inl sz)), (mh, .inl (cI, 224, .inl hi)), (me, .inl (cI, 32, .inl tb)), (oa, .inl (cJ, 1, .inr (.inl ox)))]) (by simp only [setsW, List.set]) (q0 := 18) rfl cv_L_78_M rfl rfl ⟨Nat.le_of_ble_eq_true rfl, Nat.le_of_ble_eq_true rfl⟩ hf1 rfl (Nat.le_of_ble_eq_true rfl) zd_L_law_492 rfl ?_
  refine G_istore F zd_L_law_495 (by decide) (L' := [(6, .int rm), (5, .int (1 : Int32)), (0, .ref sc), (1, .ref xa), (2, .ref ma), (3, .ref oa), (4, .int i)]) rfl ?_
  refine G_aload_n F zd_L_law_497 rfl (j := 4) rfl ?_
  refine G_calliV0 F (zk_M_thrown l D cB cI cJ ma mb mz mh me (1 : Int32) mf sz mc cp hi bg en tb ou mp fa (1 : Int32) rfl) (rest := []) [18, 19, 20, 21, 22] rfl rfl (q0 := 18) rfl cv_L_55_M rfl rfl ⟨Nat.le_of_ble_eq_true rfl, Nat.le_of_ble_eq_true rfl⟩ hf1 rfl (Nat.le_of_ble_eq_true rfl) zd_L_law_498 rfl ?_
  refine G_iload F zd_L_law_501 (j := 1) rfl ?_
  refine G_icmp_eq F zd_L_law_503 (tgt := 508) rfl (fun _ => ?_) (fun h0 => absurd rfl h0)
  refine G_iload F zd_L_law_508 (j := 1) rfl ?_
  refine G_if_ne F zd_L_law_510 (tgt := 525) rfl (fun _ => ?_) (fun h0 => absurd h0 (by decide))
  refine G_goto F zd_L_law_525 (tgt := 652) rfl ?_
  exact G_lv [2, 3, 4, 5, 6] rfl kk

set_option maxHeartbeats 4000000 in
set_option maxRecDepth 100000 in
theorem zs_crc_N {k : GC} {l : Launch} (hl : l.stackTraces = false) {D : va_G} {cB cI cJ : ClassId} (F : GF k l room_1 zc_L_law 7 RL D cB cI cJ) (X : XF k) {sc Ls : Nat} {xs : Nat → Int32} (S : SX k sc Ls xs) {cells slots : Nat} (hf : cells ≤ room_1.cells ∧ slots ≤ room_1.slots) (xa : Nat) (qa : Nat) (qb : Nat) (sa : Nat) (sb : Nat) (pa : Nat) (pb : Nat) (da : Nat) (db : Nat) (ka : Nat) (ha : Nat) (ta : Nat) (wa : Nat) (va : Nat) (hb : Nat) (hc : Nat) (ea : Nat) (ua : Nat) (ma : Nat) (mb : Nat) (mz : Nat) (mh : Nat) (me : Nat) (oa : Nat) (qn : Int32) (qf : Nat → Int32) (sn : Int32) (sf : Nat → Int32) (pn : Int32) (pf : Nat → Int32) (dn : Int32) (df : Nat → Int32) (tf : Nat → Int32) (an : Int32) (mt : Int32) (co : Int32) (ra : Int32) (rr : Int32) (zra : Int32) (zrr : Int32) (zrp : Int32) (th : Int32) (mf : Nat → Int32) (sz : Nat → Int32) (mc : Int32) (cp : Int32) (hi : Nat → Int32) (bg : Int32) (en : Int32) (tb : Nat → Int32) (ou : Int32) (mp : Int32) (fa : Int32) (ox : Nat → Int64) (i : Int32) (g1 : ¬ ((i + (1 : Int32)) < 0 ∨ Ls ≤ Int32.toNatClampNeg (i + (1 : Int32)))) (ox' : Nat → Int64) (rm : Int32) (h1 : zf_L_crc qn qf sn sf pn pf (xs (Int32.toNatClampNeg (i + (1 : Int32)))) ox = some ((0 : Int32), ox')) (h2 : zf_M_crc mf sz (xs (Int32.toNatClampNeg (i + (1 : Int32)))) = some (rm, (0 : Int32))) (hx : lg_cmp (ox' (Int32.toNatClampNeg (0 : Int32))) (rm.toInt64) = 0) (kk : G D 7 k cells slots 652 [(0, .ref sc), (1, .ref xa), (2, .ref ma), (3, .ref oa), (4, .int i)] [] [(xa, .inr (7, [.ref qa, .ref sa, .ref pa, .ref da, .ref ka, .ref wa, .ref va, .ref ea, .ref ua])), (qa, .inr (4, [.ref qb, .int qn])), (qb, .inl (cB, 160, .inl qf)), (sa, .inr (4, [.ref sb, .int sn])), (sb, .inl (cB, 200, .inl sf)), (pa, .inr (4, [.ref pb, .int pn])), (pb, .inl (cB, 64, .inl pf)), (da, .inr (4, [.ref db, .int dn])), (db, .inl (cB, 160, .inl df)), (ha, .inr (2, [.ref pa, .ref qa])), (ka, .inr (3, [.ref pa, .ref qa, .ref ha, .ref ta, .int an, .int mt, .int co])), (ta, .inl (cI, 32, .inl tf)), (wa, .inr (6, [.ref qa, .ref sa])), (va, .inr (1, [.ref qa, .ref sa])), (hb, .inr (2, [.ref pa, .ref da])), (hc, .inr (2, [.ref pa, .ref da])), (ea, .inr (5, [.ref sa, .ref da, .ref hb, .int ra, .int rr])), (ua, .inr (0, [.ref sa, .ref da, .ref hc, .int zra, .int zrr, .int zrp])), (ma, .inr (8, [.int (0 : Int32), .ref mb, .ref mz, .int mc, .int cp, .ref mh, .int bg, .int en, .ref me, .int ou, .int mp, .int fa])), (mb, .inl (cI, 600, .inl mf)), (mz, .inl (cI, 3, .inl sz)), (mh, .inl (cI, 224, .inl hi)), (me, .inl (cI, 32, .inl tb)), (oa, .inl (cJ, 1, .inr (.inl ox')))]) : G D 7 k cells slots 528 [(0, .ref sc), (1, .ref xa), (2, .ref ma), (3, .ref oa), (4, .int i)] [] [(xa, .inr (7, [.ref qa, .ref sa, .ref pa, .ref da, .ref ka, .ref wa, .ref va, .ref ea, .ref ua])), (qa, .inr (4, [.ref qb, .int qn])), (qb, .inl (cB, 160, .inl qf)), (sa, .inr (4, [.ref sb, .int sn])), (sb, .inl (cB, 200, .inl sf)), (pa, .inr (4, [.ref pb, .int pn])), (pb, .inl (cB, 64, .inl pf)), (da, .inr (4, [.ref db, .int dn])), (db, .inl (cB, 160, .inl df)), (ha, .inr (2, [.ref pa, .ref qa])), (ka, .inr (3, [.ref pa, .ref qa, .ref ha, .ref ta, .int an, .int mt, .int co])), (ta, .inl (cI, 32, .inl tf)), (wa, .inr (6, [.ref qa, .ref sa])), (va, .inr (1, [.ref qa, .ref sa])), (hb, .inr (2, [.ref pa, .ref da])), (hc, .inr (2, [.ref pa, .ref da])), (ea, .inr (5, [.ref sa, .ref da, .ref hb, .int ra, .int rr])), (ua, .inr (0, [.ref sa, .ref da, .ref hc, .int zra, .int zrr, .int zrp])), (ma, .inr (8, [.int th, .ref mb, .ref mz, .int mc, .int cp, .ref mh, .int bg, .int en, .ref me, .int ou, .int mp, .int fa])), (mb, .inl (cI, 600, .inl mf)), (mz, .inl (cI, 3, .inl sz)), (mh, .inl (cI, 224, .inl hi)), (me, .inl (cI, 32, .inl tb)), (oa, .inl (cJ, 1, .inr (.inl ox)))] := by
  refine G_aload_n F zd_L_law_528 rfl (j := 1) rfl ?_
  refine G_aload_n F zd_L_law_529 rfl (j := 0) rfl ?_
  refine G_iload F zd_L_law_530 (j := 4) rfl ?_
  refine G_iconst (v := (1 : Int32)) F zd_L_law_532 (by decide) ?_
  refine G_iadd F zd_L_law_533 ?_
  refine G_sld F S zd_L_law_534 g1 ?_
  refine G_aload_n F zd_L_law_535 rfl (j := 3) rfl ?_
  refine G_calliW F (zk_L_crc l D cB cI cJ xa qa qb sa sb pa pb da db ka ha ta wa va hb hc ea ua oa qn qf sn sf pn pf dn df tf an mt co ra rr zra zrr zrp (xs (Int32.toNatClampNeg (i + (1 : Int32)))) ox (0 : Int32) ox' h1) (rest := []) [0, 1, 2, 3, 4, 5, 6, 7, 8, 9, 10, 11, 12, 13, 14, 15, 16, 17, 23] rfl rfl rfl (ws' := [(xa, .inr (7, [.ref qa, .ref sa, .ref pa, .ref da, .ref ka, .ref wa, .ref va, .ref ea, .ref ua])), (qa, .inr (4, [.ref qb, .int qn])), (qb, .inl (cB, 160, .inl qf)), (sa, .inr (4, [.ref sb, .int sn])), (sb, .inl (cB, 200, .inl sf)), (pa, .inr (4, [.ref pb, .int pn])), (pb, .inl (cB, 64, .inl pf)), (da, .inr (4, [.ref db, .int dn])), (db, .inl (cB, 160, .inl df)), (ha, .inr (2, [.ref pa, .ref qa])), (ka, .inr (3, [.ref pa, .ref qa, .ref ha, .ref ta, .int an, .int mt, .int co])), (ta, .inl (cI, 32, .inl tf)), (wa, .inr (6, [.ref qa, .ref sa])), (va, .inr (1, [.ref qa, .ref sa])), (hb, .inr (2, [.ref pa, .ref da])), (hc, .inr (2, [.ref pa, .ref da])), (ea, .inr (5, [.ref sa, .ref da, .ref hb, .int ra, .int rr])), (ua, .inr (0, [.ref sa, .ref da, .ref hc, .int zra, .int zrr, .int zrp])), (ma, .inr (8, [.int th, .ref mb, .ref mz, .int mc, .int cp, .ref mh, .int bg, .int en, .ref me, .int ou, .int mp, .int fa])), (mb, .inl (cI, 600, .inl mf)), (mz, .inl (cI, 3, .inl sz)), (mh, .inl (cI, 224, .inl hi)), (me, .inl (cI, 32, .inl tb)), (oa, .inl (cJ, 1, .inr (.inl ox')))]) (by simp only [setsW, List.set]) cl_L_79 rfl rfl ⟨Nat.le_of_ble_eq_true rfl, Nat.le_of_ble_eq_true rfl⟩ hf rfl (Nat.le_of_ble_eq_true rfl) zd_L_law_536 rfl ?_
  refine G_istore F zd_L_law_539 (by decide) (L' := [(5, .int (0 : Int32)), (0, .ref sc), (1, .ref xa), (2, .ref ma), (3, .ref oa), (4, .int i)]) rfl ?_
  refine G_aload_n F zd_L_law_541 rfl (j := 3) rfl ?_
  refine G_aload_n F zd_L_law_542 rfl (j := 1) rfl ?_
  refine G_iload F zd_L_law_543 (j := 5) rfl ?_
  refine G_iconst (v := (1 : Int32)) F zd_L_law_545 (by decide) ?_
  refine G_iadd F zd_L_law_546 ?_
  refine G_sld F S zd_L_law_547 g1 ?_
  refine G_calliV F (zk_M_crc l D cB cI cJ ma mb mz mh me th mf sz mc cp hi bg en tb ou mp fa (xs (Int32.toNatClampNeg (i + (1 : Int32)))) rm (0 : Int32) h2) (rest := []) [18, 19, 20, 21, 22] rfl rfl rfl (ws' := [(xa, .inr (7, [.ref qa, .ref sa, .ref pa, .ref da, .ref ka, .ref wa, .ref va, .ref ea, .ref ua])), (qa, .inr (4, [.ref qb, .int qn])), (qb, .inl (cB, 160, .inl qf)), (sa, .inr (4, [.ref sb, .int sn])), (sb, .inl (cB, 200, .inl sf)), (pa, .inr (4, [.ref pb, .int pn])), (pb, .inl (cB, 64, .inl pf)), (da, .inr (4, [.ref db, .int dn])), (db, .inl (cB, 160, .inl df)), (ha, .inr (2, [.ref pa, .ref qa])), (ka, .inr (3, [.ref pa, .ref qa, .ref ha, .ref ta, .int an, .int mt, .int co])), (ta, .inl (cI, 32, .inl tf)), (wa, .inr (6, [.ref qa, .ref sa])), (va, .inr (1, [.ref qa, .ref sa])), (hb, .inr (2, [.ref pa, .ref da])), (hc, .inr (2, [.ref pa, .ref da])), (ea, .inr (5, [.ref sa, .ref da, .ref hb, .int ra, .int rr])), (ua, .inr (0, [.ref sa, .ref da, .ref hc, .int zra, .int zrr, .int zrp])), (ma, .inr (8, [.int (0 : Int32), .ref mb, .ref mz, .int mc, .int cp, .ref mh, .int bg, .int en, .ref me, .int ou, .int mp, .int fa])), (mb, .inl (cI, 600, .inl mf)), (mz, .inl (cI, 3, .inl sz)), (mh, .inl (cI, 224, .inl hi)), (me, .inl (cI, 32, .inl tb)), (oa, .inl (cJ, 1, .inr (.inl ox')))]) (by simp only [setsW, List.set]) (q0 := 18) rfl cv_L_81_M rfl rfl ⟨Nat.le_of_ble_eq_true rfl, Nat.le_of_ble_eq_true rfl⟩ hf rfl (Nat.le_of_ble_eq_true rfl) zd_L_law_548 rfl ?_
  refine G_istore F zd_L_law_551 (by decide) (L' := [(6, .int rm), (5, .int (0 : Int32)), (0, .ref sc), (1, .ref xa), (2, .ref ma), (3, .ref oa), (4, .int i)]) rfl ?_
  refine G_aload_n F zd_L_law_553 rfl (j := 4) rfl ?_
  refine G_calliV0 F (zk_M_thrown l D cB cI cJ ma mb mz mh me (0 : Int32) mf sz mc cp hi bg en tb ou mp fa (0 : Int32) rfl) (rest := []) [18, 19, 20, 21, 22] rfl rfl (q0 := 18) rfl cv_L_55_M rfl rfl ⟨Nat.le_of_ble_eq_true rfl, Nat.le_of_ble_eq_true rfl⟩ hf rfl (Nat.le_of_ble_eq_true rfl) zd_L_law_554 rfl ?_
  refine G_iload F zd_L_law_557 (j := 1) rfl ?_
  refine G_icmp_eq F zd_L_law_559 (tgt := 564) rfl (fun _ => ?_) (fun h0 => absurd rfl h0)
  refine G_iload F zd_L_law_564 (j := 1) rfl ?_
  refine G_if_ne F zd_L_law_566 (tgt := 581) rfl (fun h0 => absurd rfl h0) (fun _ => ?_)
  refine G_aload_n F zd_L_law_569 rfl (j := 5) rfl ?_
  refine G_iconst (v := (0 : Int32)) F zd_L_law_570 (by decide) ?_
  refine G_laload F zd_L_law_571 (q := 23) rfl (by decide) ?_
  refine G_iload F zd_L_law_572 (j := 0) rfl ?_
  refine G_i2l F zd_L_law_574 ?_
  refine G_lcmp F zd_L_law_575 ?_
  refine G_topi (y := (0 : Int32)) hx.symm ?_
  refine G_if_eq F zd_L_law_576 (tgt := 581) rfl (fun _ => ?_) (fun h0 => absurd rfl h0)
  refine G_goto F zd_L_law_581 (tgt := 652) rfl ?_
  exact G_lv [2, 3, 4, 5, 6] rfl kk

set_option maxHeartbeats 4000000 in
set_option maxRecDepth 100000 in
theorem zs_crc_IA {k : GC} {l : Launch} (hl : l.stackTraces = false) {D : va_G} {cB cI cJ : ClassId} (F : GF k l room_1 zc_L_law 7 RL D cB cI cJ) (X : XF k) {sc Ls : Nat} {xs : Nat → Int32} (S : SX k sc Ls xs) {cells slots : Nat} (hf1 : cells + 1 ≤ room_1.cells ∧ slots + 6 ≤ room_1.slots) (xa : Nat) (qa : Nat) (qb : Nat) (sa : Nat) (sb : Nat) (pa : Nat) (pb : Nat) (da : Nat) (db : Nat) (ka : Nat) (ha : Nat) (ta : Nat) (wa : Nat) (va : Nat) (hb : Nat) (hc : Nat) (ea : Nat) (ua : Nat) (ma : Nat) (mb : Nat) (mz : Nat) (mh : Nat) (me : Nat) (oa : Nat) (qn : Int32) (qf : Nat → Int32) (sn : Int32) (sf : Nat → Int32) (pn : Int32) (pf : Nat → Int32) (dn : Int32) (df : Nat → Int32) (tf : Nat → Int32) (an : Int32) (mt : Int32) (co : Int32) (ra : Int32) (rr : Int32) (zra : Int32) (zrr : Int32) (zrp : Int32) (th : Int32) (mf : Nat → Int32) (sz : Nat → Int32) (mc : Int32) (cp : Int32) (hi : Nat → Int32) (bg : Int32) (en : Int32) (tb : Nat → Int32) (ou : Int32) (mp : Int32) (fa : Int32) (ox : Nat → Int64) (i : Int32) (g1 : ¬ ((i + (1 : Int32)) < 0 ∨ Ls ≤ Int32.toNatClampNeg (i + (1 : Int32)))) (rm : Int32) (h1 : zf_X_crc_IA (xs (Int32.toNatClampNeg (i + (1 : Int32)))) = some ()) (h2 : zf_M_crc mf sz (xs (Int32.toNatClampNeg (i + (1 : Int32)))) = some (rm, (1 : Int32))) (kk : G D 7 k (cells + 1) (slots + 6) 652 [(0, .ref sc), (1, .ref xa), (2, .ref ma), (3, .ref oa), (4, .int i)] [] [(xa, .inr (7, [.ref qa, .ref sa, .ref pa, .ref da, .ref ka, .ref wa, .ref va, .ref ea, .ref ua])), (qa, .inr (4, [.ref qb, .int qn])), (qb, .inl (cB, 160, .inl qf)), (sa, .inr (4, [.ref sb, .int sn])), (sb, .inl (cB, 200, .inl sf)), (pa, .inr (4, [.ref pb, .int pn])), (pb, .inl (cB, 64, .inl pf)), (da, .inr (4, [.ref db, .int dn])), (db, .inl (cB, 160, .inl df)), (ha, .inr (2, [.ref pa, .ref qa])), (ka, .inr (3, [.ref pa, .ref qa, .ref ha, .ref ta, .int an, .int mt, .int co])), (ta, .inl (cI, 32, .inl tf)), (wa, .inr (6, [.ref qa, .ref sa])), (va, .inr (1, [.ref qa, .ref sa])), (hb, .inr (2, [.ref pa, .ref da])), (hc, .inr (2, [.ref pa, .ref da])), (ea, .inr (5, [.ref sa, .ref da, .ref hb, .int ra, .int rr])), (ua, .inr (0, [.ref sa, .ref da, .ref hc, .int zra, .int zrr, .int zrp])), (ma, .inr (8, [.int (1 : Int32), .ref mb, .ref mz, .int mc, .int cp, .ref mh, .int bg, .int en, .ref me, .int ou, .int mp, .int fa])), (mb, .inl (cI, 600, .inl mf)), (mz, .inl (cI, 3, .inl sz)), (mh, .inl (cI, 224, .inl hi)), (me, .inl (cI, 32, .inl tb)), (oa, .inl (cJ, 1, .inr (.inl ox)))]) : G D 7 k cells slots 528 [(0, .ref sc), (1, .ref xa), (2, .ref ma), (3, .ref oa), (4, .int i)] [] [(xa, .inr (7, [.ref qa, .ref sa, .ref pa, .ref da, .ref ka, .ref wa, .ref va, .ref ea, .ref ua])), (qa, .inr (4, [.ref qb, .int qn])), (qb, .inl (cB, 160, .inl qf)), (sa, .inr (4, [.ref sb, .int sn])), (sb, .inl (cB, 200, .inl sf)), (pa, .inr (4, [.ref pb, .int pn])), (pb, .inl (cB, 64, .inl pf)), (da, .inr (4, [.ref db, .int dn])), (db, .inl (cB, 160, .inl df)), (ha, .inr (2, [.ref pa, .ref qa])), (ka, .inr (3, [.ref pa, .ref qa, .ref ha, .ref ta, .int an, .int mt, .int co])), (ta, .inl (cI, 32, .inl tf)), (wa, .inr (6, [.ref qa, .ref sa])), (va, .inr (1, [.ref qa, .ref sa])), (hb, .inr (2, [.ref pa, .ref da])), (hc, .inr (2, [.ref pa, .ref da])), (ea, .inr (5, [.ref sa, .ref da, .ref hb, .int ra, .int rr])), (ua, .inr (0, [.ref sa, .ref da, .ref hc, .int zra, .int zrr, .int zrp])), (ma, .inr (8, [.int th, .ref mb, .ref mz, .int mc, .int cp, .ref mh, .int bg, .int en, .ref me, .int ou, .int mp, .int fa])), (mb, .inl (cI, 600, .inl mf)), (mz, .inl (cI, 3, .inl sz)), (mh, .inl (cI, 224, .inl hi)), (me, .inl (cI, 32, .inl tb)), (oa, .inl (cJ, 1, .inr (.inl ox)))] := by
  refine G_aload_n F zd_L_law_528 rfl (j := 1) rfl ?_
  refine G_aload_n F zd_L_law_529 rfl (j := 0) rfl ?_
  refine G_iload F zd_L_law_530 (j := 4) rfl ?_
  refine G_iconst (v := (1 : Int32)) F zd_L_law_532 (by decide) ?_
  refine G_iadd F zd_L_law_533 ?_
  refine G_sld F S zd_L_law_534 g1 ?_
  refine G_aload_n F zd_L_law_535 rfl (j := 3) rfl ?_
  refine G_calliC F X (zx_L_crc_IA l hl D cB cI cJ xa qa qb sa sb pa pb da db ka ha ta wa va hb hc ea ua oa qn qf sn sf pn pf dn df tf an mt co ra rr zra zrr zrp (xs (Int32.toNatClampNeg (i + (1 : Int32)))) ox h1) (rest := []) [0, 1, 2, 3, 4, 5, 6, 7, 8, 9, 10, 11, 12, 13, 14, 15, 16, 17, 23] rfl rfl cl_L_79 rfl rfl ⟨Nat.le_of_ble_eq_true rfl, Nat.le_of_ble_eq_true rfl⟩ hf1 rfl (Nat.le_of_ble_eq_true rfl) zd_L_law_536 rfl ?_
  refine G_istore F zd_L_law_539 (by decide) (L' := [(5, .int (1 : Int32)), (0, .ref sc), (1, .ref xa), (2, .ref ma), (3, .ref oa), (4, .int i)]) rfl ?_
  refine G_aload_n F zd_L_law_541 rfl (j := 3) rfl ?_
  refine G_aload_n F zd_L_law_542 rfl (j := 1) rfl ?_
  refine G_iload F zd_L_law_543 (j := 5) rfl ?_
  refine G_iconst (v := (1 : Int32)) F zd_L_law_545 (by decide) ?_
  refine G_iadd F zd_L_law_546 ?_
  refine G_sld F S zd_L_law_547 g1 ?_
  refine G_calliV F (zk_M_crc l D cB cI cJ ma mb mz mh me th mf sz mc cp hi bg en tb ou mp fa (xs (Int32.toNatClampNeg (i + (1 : Int32)))) rm (1 : Int32) h2) (rest := []) [18, 19, 20, 21, 22] rfl rfl rfl (ws' := [(xa, .inr (7, [.ref qa, .ref sa, .ref pa, .ref da, .ref ka, .ref wa, .ref va, .ref ea, .ref ua])), (qa, .inr (4, [.ref qb, .int qn])), (qb, .inl (cB, 160, .inl qf)), (sa, .inr (4, [.ref sb, .int sn])), (sb, .inl (cB, 200, .inl sf)), (pa, .inr (4, [.ref pb, .int pn])), (pb, .inl (cB, 64, .inl pf)), (da, .inr (4, [.ref db, .int dn])), (db, .inl (cB, 160, .inl df)), (ha, .inr (2, [.ref pa, .ref qa])), (ka, .inr (3, [.ref pa, .ref qa, .ref ha, .ref ta, .int an, .int mt, .int co])), (ta, .inl (cI, 32, .inl tf)), (wa, .inr (6, [.ref qa, .ref sa])), (va, .inr (1, [.ref qa, .ref sa])), (hb, .inr (2, [.ref pa, .ref da])), (hc, .inr (2, [.ref pa, .ref da])), (ea, .inr (5, [.ref sa, .ref da, .ref hb, .int ra, .int rr])), (ua, .inr (0, [.ref sa, .ref da, .ref hc, .int zra, .int zrr, .int zrp])), (ma, .inr (8, [.int (1 : Int32), .ref mb, .ref mz, .int mc, .int cp, .ref mh, .int bg, .int en, .ref me, .int ou, .int mp, .int fa])), (mb, .inl (cI, 600, .inl mf)), (mz, .inl (cI, 3, .inl sz)), (mh, .inl (cI, 224, .inl hi)), (me, .inl (cI, 32, .inl tb)), (oa, .inl (cJ, 1, .inr (.inl ox)))]) (by simp only [setsW, List.set]) (q0 := 18) rfl cv_L_81_M rfl rfl ⟨Nat.le_of_ble_eq_true rfl, Nat.le_of_ble_eq_true rfl⟩ hf1 rfl (Nat.le_of_ble_eq_true rfl) zd_L_law_548 rfl ?_
  refine G_istore F zd_L_law_551 (by decide) (L' := [(6, .int rm), (5, .int (1 : Int32)), (0, .ref sc), (1, .ref xa), (2, .ref ma), (3, .ref oa), (4, .int i)]) rfl ?_
  refine G_aload_n F zd_L_law_553 rfl (j := 4) rfl ?_
  refine G_calliV0 F (zk_M_thrown l D cB cI cJ ma mb mz mh me (1 : Int32) mf sz mc cp hi bg en tb ou mp fa (1 : Int32) rfl) (rest := []) [18, 19, 20, 21, 22] rfl rfl (q0 := 18) rfl cv_L_55_M rfl rfl ⟨Nat.le_of_ble_eq_true rfl, Nat.le_of_ble_eq_true rfl⟩ hf1 rfl (Nat.le_of_ble_eq_true rfl) zd_L_law_554 rfl ?_
  refine G_iload F zd_L_law_557 (j := 1) rfl ?_
  refine G_icmp_eq F zd_L_law_559 (tgt := 564) rfl (fun _ => ?_) (fun h0 => absurd rfl h0)
  refine G_iload F zd_L_law_564 (j := 1) rfl ?_
  refine G_if_ne F zd_L_law_566 (tgt := 581) rfl (fun _ => ?_) (fun h0 => absurd h0 (by decide))
  refine G_goto F zd_L_law_581 (tgt := 652) rfl ?_
  exact G_lv [2, 3, 4, 5, 6] rfl kk

set_option maxHeartbeats 4000000 in
set_option maxRecDepth 100000 in
theorem zs_hash_N {k : GC} {l : Launch} (hl : l.stackTraces = false) {D : va_G} {cB cI cJ : ClassId} (F : GF k l room_1 zc_L_law 7 RL D cB cI cJ) (X : XF k) {sc Ls : Nat} {xs : Nat → Int32} (S : SX k sc Ls xs) {cells slots : Nat} (hf : cells ≤ room_1.cells ∧ slots ≤ room_1.slots) (xa : Nat) (qa : Nat) (qb : Nat) (sa : Nat) (sb : Nat) (pa : Nat) (pb : Nat) (da : Nat) (db : Nat) (ka : Nat) (ha : Nat) (ta : Nat) (wa : Nat) (va : Nat) (hb : Nat) (hc : Nat) (ea : Nat) (ua : Nat) (ma : Nat) (mb : Nat) (mz : Nat) (mh : Nat) (me : Nat) (oa : Nat) (qn : Int32) (qf : Nat → Int32) (sn : Int32) (sf : Nat → Int32) (pn : Int32) (pf : Nat → Int32) (dn : Int32) (df : Nat → Int32) (tf : Nat → Int32) (an : Int32) (mt : Int32) (co : Int32) (ra : Int32) (rr : Int32) (zra : Int32) (zrr : Int32) (zrp : Int32) (th : Int32) (mf : Nat → Int32) (sz : Nat → Int32) (mc : Int32) (cp : Int32) (hi : Nat → Int32) (bg : Int32) (en : Int32) (tb : Nat → Int32) (ou : Int32) (mp : Int32) (fa : Int32) (ox : Nat → Int64) (i : Int32) (g1 : ¬ ((i + (1 : Int32)) < 0 ∨ Ls ≤ Int32.toNatClampNeg (i + (1 : Int32)))) (g2 : ¬ ((i + (2 : Int32)) < 0 ∨ Ls ≤ Int32.toNatClampNeg (i + (2 : Int32)))) (ox' : Nat → Int64) (rm : Int32) (h1 : zf_L_hash qn qf sn sf pn pf (xs (Int32.toNatClampNeg (i + (1 : Int32)))) (xs (Int32.toNatClampNeg (i + (2 : Int32)))) ox = some ((0 : Int32), ox')) (h2 : zf_M_hash mf sz (xs (Int32.toNatClampNeg (i + (1 : Int32)))) (xs (Int32.toNatClampNeg (i + (2 : Int32)))) = some (rm, (0 : Int32))) (hx : lg_cmp (ox' (Int32.toNatClampNeg (0 : Int32))) (rm.toInt64) = 0) (kk : G D 7 k cells slots 652 [(0, .ref sc), (1, .ref xa), (2, .ref ma), (3, .ref oa), (4, .int i)] [] [(xa, .inr (7, [.ref qa, .ref sa, .ref pa, .ref da, .ref ka, .ref wa, .ref va, .ref ea, .ref ua])), (qa, .inr (4, [.ref qb, .int qn])), (qb, .inl (cB, 160, .inl qf)), (sa, .inr (4, [.ref sb, .int sn])), (sb, .inl (cB, 200, .inl sf)), (pa, .inr (4, [.ref pb, .int pn])), (pb, .inl (cB, 64, .inl pf)), (da, .inr (4, [.ref db, .int dn])), (db, .inl (cB, 160, .inl df)), (ha, .inr (2, [.ref pa, .ref qa])), (ka, .inr (3, [.ref pa, .ref qa, .ref ha, .ref ta, .int an, .int mt, .int co])), (ta, .inl (cI, 32, .inl tf)), (wa, .inr (6, [.ref qa, .ref sa])), (va, .inr (1, [.ref qa, .ref sa])), (hb, .inr (2, [.ref pa, .ref da])), (hc, .inr (2, [.ref pa, .ref da])), (ea, .inr (5, [.ref sa, .ref da, .ref hb, .int ra, .int rr])), (ua, .inr (0, [.ref sa, .ref da, .ref hc, .int zra, .int zrr, .int zrp])), (ma, .inr (8, [.int (0 : Int32), .ref mb, .ref mz, .int mc, .int cp, .ref mh, .int bg, .int en, .ref me, .int ou, .int mp, .int fa])), (mb, .inl (cI, 600, .inl mf)), (mz, .inl (cI, 3, .inl sz)), (mh, .inl (cI, 224, .inl hi)), (me, .inl (cI, 32, .inl tb)), (oa, .inl (cJ, 1, .inr (.inl ox')))]) : G D 7 k cells slots 584 [(0, .ref sc), (1, .ref xa), (2, .ref ma), (3, .ref oa), (4, .int i)] [] [(xa, .inr (7, [.ref qa, .ref sa, .ref pa, .ref da, .ref ka, .ref wa, .ref va, .ref ea, .ref ua])), (qa, .inr (4, [.ref qb, .int qn])), (qb, .inl (cB, 160, .inl qf)), (sa, .inr (4, [.ref sb, .int sn])), (sb, .inl (cB, 200, .inl sf)), (pa, .inr (4, [.ref pb, .int pn])), (pb, .inl (cB, 64, .inl pf)), (da, .inr (4, [.ref db, .int dn])), (db, .inl (cB, 160, .inl df)), (ha, .inr (2, [.ref pa, .ref qa])), (ka, .inr (3, [.ref pa, .ref qa, .ref ha, .ref ta, .int an, .int mt, .int co])), (ta, .inl (cI, 32, .inl tf)), (wa, .inr (6, [.ref qa, .ref sa])), (va, .inr (1, [.ref qa, .ref sa])), (hb, .inr (2, [.ref pa, .ref da])), (hc, .inr (2, [.ref pa, .ref da])), (ea, .inr (5, [.ref sa, .ref da, .ref hb, .int ra, .int rr])), (ua, .inr (0, [.ref sa, .ref da, .ref hc, .int zra, .int zrr, .int zrp])), (ma, .inr (8, [.int th, .ref mb, .ref mz, .int mc, .int cp, .ref mh, .int bg, .int en, .ref me, .int ou, .int mp, .int fa])), (mb, .inl (cI, 600, .inl mf)), (mz, .inl (cI, 3, .inl sz)), (mh, .inl (cI, 224, .inl hi)), (me, .inl (cI, 32, .inl tb)), (oa, .inl (cJ, 1, .inr (.inl ox)))] := by
  refine G_aload_n F zd_L_law_584 rfl (j := 1) rfl ?_
  refine G_aload_n F zd_L_law_585 rfl (j := 0) rfl ?_
  refine G_iload F zd_L_law_586 (j := 4) rfl ?_
  refine G_iconst (v := (1 : Int32)) F zd_L_law_588 (by decide) ?_
  refine G_iadd F zd_L_law_589 ?_
  refine G_sld F S zd_L_law_590 g1 ?_
  refine G_aload_n F zd_L_law_591 rfl (j := 0) rfl ?_
  refine G_iload F zd_L_law_592 (j := 4) rfl ?_
  refine G_iconst (v := (2 : Int32)) F zd_L_law_594 (by decide) ?_
  refine G_iadd F zd_L_law_595 ?_
  refine G_sld F S zd_L_law_596 g2 ?_
  refine G_aload_n F zd_L_law_597 rfl (j := 3) rfl ?_
  refine G_calliW F (zk_L_hash l D cB cI cJ xa qa qb sa sb pa pb da db ka ha ta wa va hb hc ea ua oa qn qf sn sf pn pf dn df tf an mt co ra rr zra zrr zrp (xs (Int32.toNatClampNeg (i + (1 : Int32)))) (xs (Int32.toNatClampNeg (i + (2 : Int32)))) ox (0 : Int32) ox' h1) (rest := []) [0, 1, 2, 3, 4, 5, 6, 7, 8, 9, 10, 11, 12, 13, 14, 15, 16, 17, 23] rfl rfl rfl (ws' := [(xa, .inr (7, [.ref qa, .ref sa, .ref pa, .ref da, .ref ka, .ref wa, .ref va, .ref ea, .ref ua])), (qa, .inr (4, [.ref qb, .int qn])), (qb, .inl (cB, 160, .inl qf)), (sa, .inr (4, [.ref sb, .int sn])), (sb, .inl (cB, 200, .inl sf)), (pa, .inr (4, [.ref pb, .int pn])), (pb, .inl (cB, 64, .inl pf)), (da, .inr (4, [.ref db, .int dn])), (db, .inl (cB, 160, .inl df)), (ha, .inr (2, [.ref pa, .ref qa])), (ka, .inr (3, [.ref pa, .ref qa, .ref ha, .ref ta, .int an, .int mt, .int co])), (ta, .inl (cI, 32, .inl tf)), (wa, .inr (6, [.ref qa, .ref sa])), (va, .inr (1, [.ref qa, .ref sa])), (hb, .inr (2, [.ref pa, .ref da])), (hc, .inr (2, [.ref pa, .ref da])), (ea, .inr (5, [.ref sa, .ref da, .ref hb, .int ra, .int rr])), (ua, .inr (0, [.ref sa, .ref da, .ref hc, .int zra, .int zrr, .int zrp])), (ma, .inr (8, [.int th, .ref mb, .ref mz, .int mc, .int cp, .ref mh, .int bg, .int en, .ref me, .int ou, .int mp, .int fa])), (mb, .inl (cI, 600, .inl mf)), (mz, .inl (cI, 3, .inl sz)), (mh, .inl (cI, 224, .inl hi)), (me, .inl (cI, 32, .inl tb)), (oa, .inl (cJ, 1, .inr (.inl ox')))]) (by simp only [setsW, List.set]) cl_L_82 rfl rfl ⟨Nat.le_of_ble_eq_true rfl, Nat.le_of_ble_eq_true rfl⟩ hf rfl (Nat.le_of_ble_eq_true rfl) zd_L_law_598 rfl ?_
  refine G_istore F zd_L_law_601 (by decide) (L' := [(5, .int (0 : Int32)), (0, .ref sc), (1, .ref xa), (2, .ref ma), (3, .ref oa), (4, .int i)]) rfl ?_
  refine G_aload_n F zd_L_law_603 rfl (j := 3) rfl ?_
  refine G_aload_n F zd_L_law_604 rfl (j := 1) rfl ?_
  refine G_iload F zd_L_law_605 (j := 5) rfl ?_
  refine G_iconst (v := (1 : Int32)) F zd_L_law_607 (by decide) ?_
  refine G_iadd F zd_L_law_608 ?_
  refine G_sld F S zd_L_law_609 g1 ?_
  refine G_aload_n F zd_L_law_610 rfl (j := 1) rfl ?_
  refine G_iload F zd_L_law_611 (j := 5) rfl ?_
  refine G_iconst (v := (2 : Int32)) F zd_L_law_613 (by decide) ?_
  refine G_iadd F zd_L_law_614 ?_
  refine G_sld F S zd_L_law_615 g2 ?_
  refine G_calliV F (zk_M_hash l D cB cI cJ ma mb mz mh me th mf sz mc cp hi bg en tb ou mp fa (xs (Int32.toNatClampNeg (i + (1 : Int32)))) (xs (Int32.toNatClampNeg (i + (2 : Int32)))) rm (0 : Int32) h2) (rest := []) [18, 19, 20, 21, 22] rfl rfl rfl (ws' := [(xa, .inr (7, [.ref qa, .ref sa, .ref pa, .ref da, .ref ka, .ref wa, .ref va, .ref ea, .ref ua])), (qa, .inr (4, [.ref qb, .int qn])), (qb, .inl (cB, 160, .inl qf)), (sa, .inr (4, [.ref sb, .int sn])), (sb, .inl (cB, 200, .inl sf)), (pa, .inr (4, [.ref pb, .int pn])), (pb, .inl (cB, 64, .inl pf)), (da, .inr (4, [.ref db, .int dn])), (db, .inl (cB, 160, .inl df)), (ha, .inr (2, [.ref pa, .ref qa])), (ka, .inr (3, [.ref pa, .ref qa, .ref ha, .ref ta, .int an, .int mt, .int co])), (ta, .inl (cI, 32, .inl tf)), (wa, .inr (6, [.ref qa, .ref sa])), (va, .inr (1, [.ref qa, .ref sa])), (hb, .inr (2, [.ref pa, .ref da])), (hc, .inr (2, [.ref pa, .ref da])), (ea, .inr (5, [.ref sa, .ref da, .ref hb, .int ra, .int rr])), (ua, .inr (0, [.ref sa, .ref da, .ref hc, .int zra, .int zrr, .int zrp])), (ma, .inr (8, [.int (0 : Int32), .ref mb, .ref mz, .int mc, .int cp, .ref mh, .int bg, .int en, .ref me, .int ou, .int mp, .int fa])), (mb, .inl (cI, 600, .inl mf)), (mz, .inl (cI, 3, .inl sz)), (mh, .inl (cI, 224, .inl hi)), (me, .inl (cI, 32, .inl tb)), (oa, .inl (cJ, 1, .inr (.inl ox')))]) (by simp only [setsW, List.set]) (q0 := 18) rfl cv_L_84_M rfl rfl ⟨Nat.le_of_ble_eq_true rfl, Nat.le_of_ble_eq_true rfl⟩ hf rfl (Nat.le_of_ble_eq_true rfl) zd_L_law_616 rfl ?_
  refine G_istore F zd_L_law_619 (by decide) (L' := [(6, .int rm), (5, .int (0 : Int32)), (0, .ref sc), (1, .ref xa), (2, .ref ma), (3, .ref oa), (4, .int i)]) rfl ?_
  refine G_aload_n F zd_L_law_621 rfl (j := 4) rfl ?_
  refine G_calliV0 F (zk_M_thrown l D cB cI cJ ma mb mz mh me (0 : Int32) mf sz mc cp hi bg en tb ou mp fa (0 : Int32) rfl) (rest := []) [18, 19, 20, 21, 22] rfl rfl (q0 := 18) rfl cv_L_55_M rfl rfl ⟨Nat.le_of_ble_eq_true rfl, Nat.le_of_ble_eq_true rfl⟩ hf rfl (Nat.le_of_ble_eq_true rfl) zd_L_law_622 rfl ?_
  refine G_iload F zd_L_law_625 (j := 1) rfl ?_
  refine G_icmp_eq F zd_L_law_627 (tgt := 632) rfl (fun _ => ?_) (fun h0 => absurd rfl h0)
  refine G_iload F zd_L_law_632 (j := 1) rfl ?_
  refine G_if_ne F zd_L_law_634 (tgt := 649) rfl (fun h0 => absurd rfl h0) (fun _ => ?_)
  refine G_aload_n F zd_L_law_637 rfl (j := 5) rfl ?_
  refine G_iconst (v := (0 : Int32)) F zd_L_law_638 (by decide) ?_
  refine G_laload F zd_L_law_639 (q := 23) rfl (by decide) ?_
  refine G_iload F zd_L_law_640 (j := 0) rfl ?_
  refine G_i2l F zd_L_law_642 ?_
  refine G_lcmp F zd_L_law_643 ?_
  refine G_topi (y := (0 : Int32)) hx.symm ?_
  refine G_if_eq F zd_L_law_644 (tgt := 649) rfl (fun _ => ?_) (fun h0 => absurd rfl h0)
  refine G_goto F zd_L_law_649 (tgt := 652) rfl ?_
  exact G_lv [2, 3, 4, 5, 6] rfl kk

set_option maxHeartbeats 4000000 in
set_option maxRecDepth 100000 in
theorem zs_hash_IA {k : GC} {l : Launch} (hl : l.stackTraces = false) {D : va_G} {cB cI cJ : ClassId} (F : GF k l room_1 zc_L_law 7 RL D cB cI cJ) (X : XF k) {sc Ls : Nat} {xs : Nat → Int32} (S : SX k sc Ls xs) {cells slots : Nat} (hf1 : cells + 1 ≤ room_1.cells ∧ slots + 6 ≤ room_1.slots) (xa : Nat) (qa : Nat) (qb : Nat) (sa : Nat) (sb : Nat) (pa : Nat) (pb : Nat) (da : Nat) (db : Nat) (ka : Nat) (ha : Nat) (ta : Nat) (wa : Nat) (va : Nat) (hb : Nat) (hc : Nat) (ea : Nat) (ua : Nat) (ma : Nat) (mb : Nat) (mz : Nat) (mh : Nat) (me : Nat) (oa : Nat) (qn : Int32) (qf : Nat → Int32) (sn : Int32) (sf : Nat → Int32) (pn : Int32) (pf : Nat → Int32) (dn : Int32) (df : Nat → Int32) (tf : Nat → Int32) (an : Int32) (mt : Int32) (co : Int32) (ra : Int32) (rr : Int32) (zra : Int32) (zrr : Int32) (zrp : Int32) (th : Int32) (mf : Nat → Int32) (sz : Nat → Int32) (mc : Int32) (cp : Int32) (hi : Nat → Int32) (bg : Int32) (en : Int32) (tb : Nat → Int32) (ou : Int32) (mp : Int32) (fa : Int32) (ox : Nat → Int64) (i : Int32) (g1 : ¬ ((i + (1 : Int32)) < 0 ∨ Ls ≤ Int32.toNatClampNeg (i + (1 : Int32)))) (g2 : ¬ ((i + (2 : Int32)) < 0 ∨ Ls ≤ Int32.toNatClampNeg (i + (2 : Int32)))) (rm : Int32) (h1 : zf_X_hash_IA (xs (Int32.toNatClampNeg (i + (1 : Int32)))) = some ()) (h2 : zf_M_hash mf sz (xs (Int32.toNatClampNeg (i + (1 : Int32)))) (xs (Int32.toNatClampNeg (i + (2 : Int32)))) = some (rm, (1 : Int32))) (kk : G D 7 k (cells + 1) (slots + 6) 652 [(0, .ref sc), (1, .ref xa), (2, .ref ma), (3, .ref oa), (4, .int i)] [] [(xa, .inr (7, [.ref qa, .ref sa, .ref pa, .ref da, .ref ka, .ref wa, .ref va, .ref ea, .ref ua])), (qa, .inr (4, [.ref qb, .int qn])), (qb, .inl (cB, 160, .inl qf)), (sa, .inr (4, [.ref sb, .int sn])), (sb, .inl (cB, 200, .inl sf)), (pa, .inr (4, [.ref pb, .int pn])), (pb, .inl (cB, 64, .inl pf)), (da, .inr (4, [.ref db, .int dn])), (db, .inl (cB, 160, .inl df)), (ha, .inr (2, [.ref pa, .ref qa])), (ka, .inr (3, [.ref pa, .ref qa, .ref ha, .ref ta, .int an, .int mt, .int co])), (ta, .inl (cI, 32, .inl tf)), (wa, .inr (6, [.ref qa, .ref sa])), (va, .inr (1, [.ref qa, .ref sa])), (hb, .inr (2, [.ref pa, .ref da])), (hc, .inr (2, [.ref pa, .ref da])), (ea, .inr (5, [.ref sa, .ref da, .ref hb, .int ra, .int rr])), (ua, .inr (0, [.ref sa, .ref da, .ref hc, .int zra, .int zrr, .int zrp])), (ma, .inr (8, [.int (1 : Int32), .ref mb, .ref mz, .int mc, .int cp, .ref mh, .int bg, .int en, .ref me, .int ou, .int mp, .int fa])), (mb, .inl (cI, 600, .inl mf)), (mz, .inl (cI, 3, .inl sz)), (mh, .inl (cI, 224, .inl hi)), (me, .inl (cI, 32, .inl tb)), (oa, .inl (cJ, 1, .inr (.inl ox)))]) : G D 7 k cells slots 584 [(0, .ref sc), (1, .ref xa), (2, .ref ma), (3, .ref oa), (4, .int i)] [] [(xa, .inr (7, [.ref qa, .ref sa, .ref pa, .ref da, .ref ka, .ref wa, .ref va, .ref ea, .ref ua])), (qa, .inr (4, [.ref qb, .int qn])), (qb, .inl (cB, 160, .inl qf)), (sa, .inr (4, [.ref sb, .int sn])), (sb, .inl (cB, 200, .inl sf)), (pa, .inr (4, [.ref pb, .int pn])), (pb, .inl (cB, 64, .inl pf)), (da, .inr (4, [.ref db, .int dn])), (db, .inl (cB, 160, .inl df)), (ha, .inr (2, [.ref pa, .ref qa])), (ka, .inr (3, [.ref pa, .ref qa, .ref ha, .ref ta, .int an, .int mt, .int co])), (ta, .inl (cI, 32, .inl tf)), (wa, .inr (6, [.ref qa, .ref sa])), (va, .inr (1, [.ref qa, .ref sa])), (hb, .inr (2, [.ref pa, .ref da])), (hc, .inr (2, [.ref pa, .ref da])), (ea, .inr (5, [.ref sa, .ref da, .ref hb, .int ra, .int rr])), (ua, .inr (0, [.ref sa, .ref da, .ref hc, .int zra, .int zrr, .int zrp])), (ma, .inr (8, [.int th, .ref mb, .ref mz, .int mc, .int cp, .ref mh, .int bg, .int en, .ref me, .int ou, .int mp, .int fa])), (mb, .inl (cI, 600, .inl mf)), (mz, .inl (cI, 3, .inl sz)), (mh, .inl (cI, 224, .inl hi)), (me, .inl (cI, 32, .inl tb)), (oa, .inl (cJ, 1, .inr (.inl ox)))] := by
  refine G_aload_n F zd_L_law_584 rfl (j := 1) rfl ?_
  refine G_aload_n F zd_L_law_585 rfl (j := 0) rfl ?_
  refine G_iload F zd_L_law_586 (j := 4) rfl ?_
  refine G_iconst (v := (1 : Int32)) F zd_L_law_588 (by decide) ?_
  refine G_iadd F zd_L_law_589 ?_
  refine G_sld F S zd_L_law_590 g1 ?_
  refine G_aload_n F zd_L_law_591 rfl (j := 0) rfl ?_
  refine G_iload F zd_L_law_592 (j := 4) rfl ?_
  refine G_iconst (v := (2 : Int32)) F zd_L_law_594 (by decide) ?_
  refine G_iadd F zd_L_law_595 ?_
  refine G_sld F S zd_L_law_596 g2 ?_
  refine G_aload_n F zd_L_law_597 rfl (j := 3) rfl ?_
  refine G_calliC F X (zx_L_hash_IA l hl D cB cI cJ xa qa qb sa sb pa pb da db ka ha ta wa va hb hc ea ua oa qn qf sn sf pn pf dn df tf an mt co ra rr zra zrr zrp (xs (Int32.toNatClampNeg (i + (1 : Int32)))) (xs (Int32.toNatClampNeg (i + (2 : Int32)))) ox h1) (rest := []) [0, 1, 2, 3, 4, 5, 6, 7, 8, 9, 10, 11, 12, 13, 14, 15, 16, 17, 23] rfl rfl cl_L_82 rfl rfl ⟨Nat.le_of_ble_eq_true rfl, Nat.le_of_ble_eq_true rfl⟩ hf1 rfl (Nat.le_of_ble_eq_true rfl) zd_L_law_598 rfl ?_
  refine G_istore F zd_L_law_601 (by decide) (L' := [(5, .int (1 : Int32)), (0, .ref sc), (1, .ref xa), (2, .ref ma), (3, .ref oa), (4, .int i)]) rfl ?_
  refine G_aload_n F zd_L_law_603 rfl (j := 3) rfl ?_
  refine G_aload_n F zd_L_law_604 rfl (j := 1) rfl ?_
  refine G_iload F zd_L_law_605 (j := 5) rfl ?_
  refine G_iconst (v := (1 : Int32)) F zd_L_law_607 (by decide) ?_
  refine G_iadd F zd_L_law_608 ?_
  refine G_sld F S zd_L_law_609 g1 ?_
  refine G_aload_n F zd_L_law_610 rfl (j := 1) rfl ?_
  refine G_iload F zd_L_law_611 (j := 5) rfl ?_
  refine G_iconst (v := (2 : Int32)) F zd_L_law_613 (by decide) ?_
  refine G_iadd F zd_L_law_614 ?_
  refine G_sld F S zd_L_law_615 g2 ?_
  refine G_calliV F (zk_M_hash l D cB cI cJ ma mb mz mh me th mf sz mc cp hi bg en tb ou mp fa (xs (Int32.toNatClampNeg (i + (1 : Int32)))) (xs (Int32.toNatClampNeg (i + (2 : Int32)))) rm (1 : Int32) h2) (rest := []) [18, 19, 20, 21, 22] rfl rfl rfl (ws' := [(xa, .inr (7, [.ref qa, .ref sa, .ref pa, .ref da, .ref ka, .ref wa, .ref va, .ref ea, .ref ua])), (qa, .inr (4, [.ref qb, .int qn])), (qb, .inl (cB, 160, .inl qf)), (sa, .inr (4, [.ref sb, .int sn])), (sb, .inl (cB, 200, .inl sf)), (pa, .inr (4, [.ref pb, .int pn])), (pb, .inl (cB, 64, .inl pf)), (da, .inr (4, [.ref db, .int dn])), (db, .inl (cB, 160, .inl df)), (ha, .inr (2, [.ref pa, .ref qa])), (ka, .inr (3, [.ref pa, .ref qa, .ref ha, .ref ta, .int an, .int mt, .int co])), (ta, .inl (cI, 32, .inl tf)), (wa, .inr (6, [.ref qa, .ref sa])), (va, .inr (1, [.ref qa, .ref sa])), (hb, .inr (2, [.ref pa, .ref da])), (hc, .inr (2, [.ref pa, .ref da])), (ea, .inr (5, [.ref sa, .ref da, .ref hb, .int ra, .int rr])), (ua, .inr (0, [.ref sa, .ref da, .ref hc, .int zra, .int zrr, .int zrp])), (ma, .inr (8, [.int (1 : Int32), .ref mb, .ref mz, .int mc, .int cp, .ref mh, .int bg, .int en, .ref me, .int ou, .int mp, .int fa])), (mb, .inl (cI, 600, .inl mf)), (mz, .inl (cI, 3, .inl sz)), (mh, .inl (cI, 224, .inl hi)), (me, .inl (cI, 32, .inl tb)), (oa, .inl (cJ, 1, .inr (.inl ox)))]) (by simp only [setsW, List.set]) (q0 := 18) rfl cv_L_84_M rfl rfl ⟨Nat.le_of_ble_eq_true rfl, Nat.le_of_ble_eq_true rfl⟩ hf1 rfl (Nat.le_of_ble_eq_true rfl) zd_L_law_616 rfl ?_
  refine G_istore F zd_L_law_619 (by decide) (L' := [(6, .int rm), (5, .int (1 : Int32)), (0, .ref sc), (1, .ref xa), (2, .ref ma), (3, .ref oa), (4, .int i)]) rfl ?_
  refine G_aload_n F zd_L_law_621 rfl (j := 4) rfl ?_
  refine G_calliV0 F (zk_M_thrown l D cB cI cJ ma mb mz mh me (1 : Int32) mf sz mc cp hi bg en tb ou mp fa (1 : Int32) rfl) (rest := []) [18, 19, 20, 21, 22] rfl rfl (q0 := 18) rfl cv_L_55_M rfl rfl ⟨Nat.le_of_ble_eq_true rfl, Nat.le_of_ble_eq_true rfl⟩ hf1 rfl (Nat.le_of_ble_eq_true rfl) zd_L_law_622 rfl ?_
  refine G_iload F zd_L_law_625 (j := 1) rfl ?_
  refine G_icmp_eq F zd_L_law_627 (tgt := 632) rfl (fun _ => ?_) (fun h0 => absurd rfl h0)
  refine G_iload F zd_L_law_632 (j := 1) rfl ?_
  refine G_if_ne F zd_L_law_634 (tgt := 649) rfl (fun _ => ?_) (fun h0 => absurd h0 (by decide))
  refine G_goto F zd_L_law_649 (tgt := 652) rfl ?_
  exact G_lv [2, 3, 4, 5, 6] rfl kk

