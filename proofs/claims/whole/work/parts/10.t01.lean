theorem d_Fi_find_0 : decode c0_Fi_find 0 = .ok (.iload_n 1, 1) := by decide +kernel
theorem d_Fi_find_1 : decode c0_Fi_find 1 = .ok (.tableswitch 556 0 13 #[71, 76, 117, 137, 148, 157, 239, 302, 349, 398, 409, 420, 490, 547], 71) := by decide +kernel
theorem d_Fi_find_72 : decode c0_Fi_find 72 = .ok (.aload_n 0, 1) := by decide +kernel
theorem d_Fi_find_73 : decode c0_Fi_find 73 = .ok (.invokevirtual 51, 3) := by decide +kernel
theorem d_Fi_find_76 : decode c0_Fi_find 76 = .ok (.ireturn, 1) := by decide +kernel
theorem d_Fi_find_77 : decode c0_Fi_find 77 = .ok (.aload_n 0, 1) := by decide +kernel
theorem d_Fi_find_78 : decode c0_Fi_find 78 = .ok (.aload_n 0, 1) := by decide +kernel
theorem d_Fi_find_79 : decode c0_Fi_find 79 = .ok (.getfield 9, 3) := by decide +kernel
theorem d_Fi_find_82 : decode c0_Fi_find 82 = .ok (.iload_n 2, 1) := by decide +kernel
theorem d_Fi_find_83 : decode c0_Fi_find 83 = .ok (.iaload, 1) := by decide +kernel
theorem d_Fi_find_84 : decode c0_Fi_find 84 = .ok (.aload_n 0, 1) := by decide +kernel
theorem d_Fi_find_85 : decode c0_Fi_find 85 = .ok (.getfield 9, 3) := by decide +kernel
theorem d_Fi_find_88 : decode c0_Fi_find 88 = .ok (.iload_n 3, 1) := by decide +kernel
theorem d_Fi_find_89 : decode c0_Fi_find 89 = .ok (.iaload, 1) := by decide +kernel
theorem d_Fi_find_90 : decode c0_Fi_find 90 = .ok (.iadd, 1) := by decide +kernel
theorem d_Fi_find_91 : decode c0_Fi_find 91 = .ok (.i2l, 1) := by decide +kernel
theorem d_Fi_find_92 : decode c0_Fi_find 92 = .ok (.ldc2_w 55, 3) := by decide +kernel
theorem d_Fi_find_95 : decode c0_Fi_find 95 = .ok (.lmul, 1) := by decide +kernel
theorem d_Fi_find_96 : decode c0_Fi_find 96 = .ok (.aload_n 0, 1) := by decide +kernel
theorem d_Fi_find_97 : decode c0_Fi_find 97 = .ok (.getfield 15, 3) := by decide +kernel
theorem d_Fi_find_100 : decode c0_Fi_find 100 = .ok (.iload_n 2, 1) := by decide +kernel
theorem d_Fi_find_101 : decode c0_Fi_find 101 = .ok (.iaload, 1) := by decide +kernel
theorem d_Fi_find_102 : decode c0_Fi_find 102 = .ok (.aload_n 0, 1) := by decide +kernel
theorem d_Fi_find_103 : decode c0_Fi_find 103 = .ok (.getfield 15, 3) := by decide +kernel
theorem d_Fi_find_106 : decode c0_Fi_find 106 = .ok (.iload_n 3, 1) := by decide +kernel
theorem d_Fi_find_107 : decode c0_Fi_find 107 = .ok (.iaload, 1) := by decide +kernel
theorem d_Fi_find_108 : decode c0_Fi_find 108 = .ok (.iadd, 1) := by decide +kernel
theorem d_Fi_find_109 : decode c0_Fi_find 109 = .ok (.i2l, 1) := by decide +kernel
theorem d_Fi_find_110 : decode c0_Fi_find 110 = .ok (.ldc2_w 55, 3) := by decide +kernel
theorem d_Fi_find_113 : decode c0_Fi_find 113 = .ok (.lmul, 1) := by decide +kernel
theorem d_Fi_find_114 : decode c0_Fi_find 114 = .ok (.invokevirtual 57, 3) := by decide +kernel
theorem d_Fi_find_117 : decode c0_Fi_find 117 = .ok (.ireturn, 1) := by decide +kernel
theorem d_Fi_find_118 : decode c0_Fi_find 118 = .ok (.aload_n 0, 1) := by decide +kernel
theorem d_Fi_find_119 : decode c0_Fi_find 119 = .ok (.aload_n 0, 1) := by decide +kernel
theorem d_Fi_find_120 : decode c0_Fi_find 120 = .ok (.getfield 9, 3) := by decide +kernel
theorem d_Fi_find_123 : decode c0_Fi_find 123 = .ok (.iload_n 2, 1) := by decide +kernel
theorem d_Fi_find_124 : decode c0_Fi_find 124 = .ok (.iaload, 1) := by decide +kernel
theorem d_Fi_find_125 : decode c0_Fi_find 125 = .ok (.aload_n 0, 1) := by decide +kernel
theorem d_Fi_find_126 : decode c0_Fi_find 126 = .ok (.getfield 15, 3) := by decide +kernel
theorem d_Fi_find_129 : decode c0_Fi_find 129 = .ok (.iload_n 2, 1) := by decide +kernel
theorem d_Fi_find_130 : decode c0_Fi_find 130 = .ok (.iaload, 1) := by decide +kernel
theorem d_Fi_find_131 : decode c0_Fi_find 131 = .ok (.iload_n 3, 1) := by decide +kernel
theorem d_Fi_find_132 : decode c0_Fi_find 132 = .ok (.iload 4, 2) := by decide +kernel
theorem d_Fi_find_134 : decode c0_Fi_find 134 = .ok (.invokevirtual 61, 3) := by decide +kernel
theorem d_Fi_find_137 : decode c0_Fi_find 137 = .ok (.ireturn, 1) := by decide +kernel
theorem d_Fi_find_138 : decode c0_Fi_find 138 = .ok (.aload_n 0, 1) := by decide +kernel
theorem d_Fi_find_139 : decode c0_Fi_find 139 = .ok (.iload_n 2, 1) := by decide +kernel
theorem d_Fi_find_140 : decode c0_Fi_find 140 = .ok (.iload_n 3, 1) := by decide +kernel
theorem d_Fi_find_141 : decode c0_Fi_find 141 = .ok (.iload 4, 2) := by decide +kernel
theorem d_Fi_find_143 : decode c0_Fi_find 143 = .ok (.iload 5, 2) := by decide +kernel
theorem d_Fi_find_145 : decode c0_Fi_find 145 = .ok (.invokevirtual 65, 3) := by decide +kernel
theorem d_Fi_find_148 : decode c0_Fi_find 148 = .ok (.ireturn, 1) := by decide +kernel
theorem d_Fi_find_149 : decode c0_Fi_find 149 = .ok (.aload_n 0, 1) := by decide +kernel
theorem d_Fi_find_150 : decode c0_Fi_find 150 = .ok (.iload_n 2, 1) := by decide +kernel
theorem d_Fi_find_151 : decode c0_Fi_find 151 = .ok (.iload_n 3, 1) := by decide +kernel
theorem d_Fi_find_152 : decode c0_Fi_find 152 = .ok (.iload 4, 2) := by decide +kernel
theorem d_Fi_find_154 : decode c0_Fi_find 154 = .ok (.invokevirtual 68, 3) := by decide +kernel
theorem d_Fi_find_157 : decode c0_Fi_find 157 = .ok (.ireturn, 1) := by decide +kernel
theorem d_Fi_find_158 : decode c0_Fi_find 158 = .ok (.aload_n 0, 1) := by decide +kernel
theorem d_Fi_find_159 : decode c0_Fi_find 159 = .ok (.iload_n 2, 1) := by decide +kernel
theorem d_Fi_find_160 : decode c0_Fi_find 160 = .ok (.iload_n 3, 1) := by decide +kernel
theorem d_Fi_find_161 : decode c0_Fi_find 161 = .ok (.iload 4, 2) := by decide +kernel
theorem d_Fi_find_163 : decode c0_Fi_find 163 = .ok (.invokevirtual 68, 3) := by decide +kernel
theorem d_Fi_find_166 : decode c0_Fi_find 166 = .ok (.ifCond .eq 72, 3) := by decide +kernel
theorem d_Fi_find_169 : decode c0_Fi_find 169 = .ok (.aload_n 0, 1) := by decide +kernel
theorem d_Fi_find_170 : decode c0_Fi_find 170 = .ok (.aload_n 0, 1) := by decide +kernel
theorem d_Fi_find_171 : decode c0_Fi_find 171 = .ok (.getfield 9, 3) := by decide +kernel
theorem d_Fi_find_174 : decode c0_Fi_find 174 = .ok (.iload_n 2, 1) := by decide +kernel
theorem d_Fi_find_175 : decode c0_Fi_find 175 = .ok (.iaload, 1) := by decide +kernel
theorem d_Fi_find_176 : decode c0_Fi_find 176 = .ok (.aload_n 0, 1) := by decide +kernel
theorem d_Fi_find_177 : decode c0_Fi_find 177 = .ok (.getfield 9, 3) := by decide +kernel
theorem d_Fi_find_180 : decode c0_Fi_find 180 = .ok (.iload_n 3, 1) := by decide +kernel
theorem d_Fi_find_181 : decode c0_Fi_find 181 = .ok (.iaload, 1) := by decide +kernel
theorem d_Fi_find_182 : decode c0_Fi_find 182 = .ok (.iadd, 1) := by decide +kernel
theorem d_Fi_find_183 : decode c0_Fi_find 183 = .ok (.aload_n 0, 1) := by decide +kernel
theorem d_Fi_find_184 : decode c0_Fi_find 184 = .ok (.getfield 9, 3) := by decide +kernel
theorem d_Fi_find_187 : decode c0_Fi_find 187 = .ok (.iload 4, 2) := by decide +kernel
theorem d_Fi_find_189 : decode c0_Fi_find 189 = .ok (.iaload, 1) := by decide +kernel
theorem d_Fi_find_190 : decode c0_Fi_find 190 = .ok (.iadd, 1) := by decide +kernel
theorem d_Fi_find_191 : decode c0_Fi_find 191 = .ok (.iconst 2, 1) := by decide +kernel
theorem d_Fi_find_192 : decode c0_Fi_find 192 = .ok (.aload_n 0, 1) := by decide +kernel
theorem d_Fi_find_193 : decode c0_Fi_find 193 = .ok (.getfield 45, 3) := by decide +kernel
theorem d_Fi_find_196 : decode c0_Fi_find 196 = .ok (.imul, 1) := by decide +kernel
theorem d_Fi_find_197 : decode c0_Fi_find 197 = .ok (.isub, 1) := by decide +kernel
theorem d_Fi_find_198 : decode c0_Fi_find 198 = .ok (.i2l, 1) := by decide +kernel
theorem d_Fi_find_199 : decode c0_Fi_find 199 = .ok (.aload_n 0, 1) := by decide +kernel
theorem d_Fi_find_200 : decode c0_Fi_find 200 = .ok (.getfield 15, 3) := by decide +kernel
theorem d_Fi_find_203 : decode c0_Fi_find 203 = .ok (.iload_n 2, 1) := by decide +kernel
theorem d_Fi_find_204 : decode c0_Fi_find 204 = .ok (.iaload, 1) := by decide +kernel
theorem d_Fi_find_205 : decode c0_Fi_find 205 = .ok (.aload_n 0, 1) := by decide +kernel
theorem d_Fi_find_206 : decode c0_Fi_find 206 = .ok (.getfield 15, 3) := by decide +kernel
theorem d_Fi_find_209 : decode c0_Fi_find 209 = .ok (.iload_n 3, 1) := by decide +kernel
theorem d_Fi_find_210 : decode c0_Fi_find 210 = .ok (.iaload, 1) := by decide +kernel
theorem d_Fi_find_211 : decode c0_Fi_find 211 = .ok (.iadd, 1) := by decide +kernel
theorem d_Fi_find_212 : decode c0_Fi_find 212 = .ok (.aload_n 0, 1) := by decide +kernel
theorem d_Fi_find_213 : decode c0_Fi_find 213 = .ok (.getfield 15, 3) := by decide +kernel
theorem d_Fi_find_216 : decode c0_Fi_find 216 = .ok (.iload 4, 2) := by decide +kernel
theorem d_Fi_find_218 : decode c0_Fi_find 218 = .ok (.iaload, 1) := by decide +kernel
theorem d_Fi_find_219 : decode c0_Fi_find 219 = .ok (.iadd, 1) := by decide +kernel
theorem d_Fi_find_220 : decode c0_Fi_find 220 = .ok (.iconst 2, 1) := by decide +kernel
theorem d_Fi_find_221 : decode c0_Fi_find 221 = .ok (.aload_n 0, 1) := by decide +kernel
theorem d_Fi_find_222 : decode c0_Fi_find 222 = .ok (.getfield 48, 3) := by decide +kernel
theorem d_Fi_find_225 : decode c0_Fi_find 225 = .ok (.imul, 1) := by decide +kernel
theorem d_Fi_find_226 : decode c0_Fi_find 226 = .ok (.isub, 1) := by decide +kernel
theorem d_Fi_find_227 : decode c0_Fi_find 227 = .ok (.i2l, 1) := by decide +kernel
theorem d_Fi_find_228 : decode c0_Fi_find 228 = .ok (.invokevirtual 57, 3) := by decide +kernel
theorem d_Fi_find_231 : decode c0_Fi_find 231 = .ok (.ifCond .eq 7, 3) := by decide +kernel
theorem d_Fi_find_234 : decode c0_Fi_find 234 = .ok (.iconst 1, 1) := by decide +kernel
theorem d_Fi_find_235 : decode c0_Fi_find 235 = .ok (.goto 4, 3) := by decide +kernel
theorem d_Fi_find_238 : decode c0_Fi_find 238 = .ok (.iconst 0, 1) := by decide +kernel
theorem d_Fi_find_239 : decode c0_Fi_find 239 = .ok (.ireturn, 1) := by decide +kernel
theorem d_Fi_find_240 : decode c0_Fi_find 240 = .ok (.aload_n 0, 1) := by decide +kernel
theorem d_Fi_find_241 : decode c0_Fi_find 241 = .ok (.aload_n 0, 1) := by decide +kernel
theorem d_Fi_find_242 : decode c0_Fi_find 242 = .ok (.getfield 9, 3) := by decide +kernel
theorem d_Fi_find_245 : decode c0_Fi_find 245 = .ok (.iload_n 2, 1) := by decide +kernel
theorem d_Fi_find_246 : decode c0_Fi_find 246 = .ok (.iaload, 1) := by decide +kernel
theorem d_Fi_find_247 : decode c0_Fi_find 247 = .ok (.aload_n 0, 1) := by decide +kernel
theorem d_Fi_find_248 : decode c0_Fi_find 248 = .ok (.getfield 15, 3) := by decide +kernel
theorem d_Fi_find_251 : decode c0_Fi_find 251 = .ok (.iload_n 2, 1) := by decide +kernel
theorem d_Fi_find_252 : decode c0_Fi_find 252 = .ok (.iaload, 1) := by decide +kernel
theorem d_Fi_find_253 : decode c0_Fi_find 253 = .ok (.iload_n 3, 1) := by decide +kernel
theorem d_Fi_find_254 : decode c0_Fi_find 254 = .ok (.iload 4, 2) := by decide +kernel
theorem d_Fi_find_256 : decode c0_Fi_find 256 = .ok (.invokevirtual 61, 3) := by decide +kernel
theorem d_Fi_find_259 : decode c0_Fi_find 259 = .ok (.ifCond .eq 42, 3) := by decide +kernel
theorem d_Fi_find_262 : decode c0_Fi_find 262 = .ok (.aload_n 0, 1) := by decide +kernel
theorem d_Fi_find_263 : decode c0_Fi_find 263 = .ok (.iconst 2, 1) := by decide +kernel
theorem d_Fi_find_264 : decode c0_Fi_find 264 = .ok (.aload_n 0, 1) := by decide +kernel
theorem d_Fi_find_265 : decode c0_Fi_find 265 = .ok (.getfield 45, 3) := by decide +kernel
theorem d_Fi_find_268 : decode c0_Fi_find 268 = .ok (.imul, 1) := by decide +kernel
theorem d_Fi_find_269 : decode c0_Fi_find 269 = .ok (.aload_n 0, 1) := by decide +kernel
theorem d_Fi_find_270 : decode c0_Fi_find 270 = .ok (.getfield 9, 3) := by decide +kernel
theorem d_Fi_find_273 : decode c0_Fi_find 273 = .ok (.iload_n 2, 1) := by decide +kernel
theorem d_Fi_find_274 : decode c0_Fi_find 274 = .ok (.iaload, 1) := by decide +kernel
theorem d_Fi_find_275 : decode c0_Fi_find 275 = .ok (.isub, 1) := by decide +kernel
theorem d_Fi_find_276 : decode c0_Fi_find 276 = .ok (.i2l, 1) := by decide +kernel
theorem d_Fi_find_277 : decode c0_Fi_find 277 = .ok (.iconst 2, 1) := by decide +kernel
theorem d_Fi_find_278 : decode c0_Fi_find 278 = .ok (.aload_n 0, 1) := by decide +kernel
theorem d_Fi_find_279 : decode c0_Fi_find 279 = .ok (.getfield 48, 3) := by decide +kernel
theorem d_Fi_find_282 : decode c0_Fi_find 282 = .ok (.imul, 1) := by decide +kernel
theorem d_Fi_find_283 : decode c0_Fi_find 283 = .ok (.aload_n 0, 1) := by decide +kernel
theorem d_Fi_find_284 : decode c0_Fi_find 284 = .ok (.getfield 15, 3) := by decide +kernel
theorem d_Fi_find_287 : decode c0_Fi_find 287 = .ok (.iload_n 2, 1) := by decide +kernel
theorem d_Fi_find_288 : decode c0_Fi_find 288 = .ok (.iaload, 1) := by decide +kernel
theorem d_Fi_find_289 : decode c0_Fi_find 289 = .ok (.isub, 1) := by decide +kernel
theorem d_Fi_find_290 : decode c0_Fi_find 290 = .ok (.i2l, 1) := by decide +kernel
theorem d_Fi_find_291 : decode c0_Fi_find 291 = .ok (.invokevirtual 57, 3) := by decide +kernel
theorem d_Fi_find_294 : decode c0_Fi_find 294 = .ok (.ifCond .eq 7, 3) := by decide +kernel
theorem d_Fi_find_297 : decode c0_Fi_find 297 = .ok (.iconst 1, 1) := by decide +kernel
theorem d_Fi_find_298 : decode c0_Fi_find 298 = .ok (.goto 4, 3) := by decide +kernel
theorem d_Fi_find_301 : decode c0_Fi_find 301 = .ok (.iconst 0, 1) := by decide +kernel
theorem d_Fi_find_302 : decode c0_Fi_find 302 = .ok (.ireturn, 1) := by decide +kernel
theorem d_Fi_find_303 : decode c0_Fi_find 303 = .ok (.aload_n 0, 1) := by decide +kernel
theorem d_Fi_find_304 : decode c0_Fi_find 304 = .ok (.aload_n 0, 1) := by decide +kernel
theorem d_Fi_find_305 : decode c0_Fi_find 305 = .ok (.getfield 9, 3) := by decide +kernel
theorem d_Fi_find_308 : decode c0_Fi_find 308 = .ok (.iload_n 3, 1) := by decide +kernel
theorem d_Fi_find_309 : decode c0_Fi_find 309 = .ok (.iaload, 1) := by decide +kernel
theorem d_Fi_find_310 : decode c0_Fi_find 310 = .ok (.aload_n 0, 1) := by decide +kernel
theorem d_Fi_find_311 : decode c0_Fi_find 311 = .ok (.getfield 15, 3) := by decide +kernel
theorem d_Fi_find_314 : decode c0_Fi_find 314 = .ok (.iload_n 2, 1) := by decide +kernel
theorem d_Fi_find_315 : decode c0_Fi_find 315 = .ok (.iaload, 1) := by decide +kernel
theorem d_Fi_find_316 : decode c0_Fi_find 316 = .ok (.aload_n 0, 1) := by decide +kernel
theorem d_Fi_find_317 : decode c0_Fi_find 317 = .ok (.getfield 15, 3) := by decide +kernel
theorem d_Fi_find_320 : decode c0_Fi_find 320 = .ok (.iload_n 3, 1) := by decide +kernel
theorem d_Fi_find_321 : decode c0_Fi_find 321 = .ok (.iaload, 1) := by decide +kernel
theorem d_Fi_find_322 : decode c0_Fi_find 322 = .ok (.isub, 1) := by decide +kernel
theorem d_Fi_find_323 : decode c0_Fi_find 323 = .ok (.isub, 1) := by decide +kernel
theorem d_Fi_find_324 : decode c0_Fi_find 324 = .ok (.i2l, 1) := by decide +kernel
theorem d_Fi_find_325 : decode c0_Fi_find 325 = .ok (.aload_n 0, 1) := by decide +kernel
theorem d_Fi_find_326 : decode c0_Fi_find 326 = .ok (.getfield 15, 3) := by decide +kernel
theorem d_Fi_find_329 : decode c0_Fi_find 329 = .ok (.iload_n 3, 1) := by decide +kernel
theorem d_Fi_find_330 : decode c0_Fi_find 330 = .ok (.iaload, 1) := by decide +kernel
theorem d_Fi_find_331 : decode c0_Fi_find 331 = .ok (.aload_n 0, 1) := by decide +kernel
theorem d_Fi_find_332 : decode c0_Fi_find 332 = .ok (.getfield 9, 3) := by decide +kernel
theorem d_Fi_find_335 : decode c0_Fi_find 335 = .ok (.iload_n 2, 1) := by decide +kernel
theorem d_Fi_find_336 : decode c0_Fi_find 336 = .ok (.iaload, 1) := by decide +kernel
theorem d_Fi_find_337 : decode c0_Fi_find 337 = .ok (.aload_n 0, 1) := by decide +kernel
theorem d_Fi_find_338 : decode c0_Fi_find 338 = .ok (.getfield 9, 3) := by decide +kernel
theorem d_Fi_find_341 : decode c0_Fi_find 341 = .ok (.iload_n 3, 1) := by decide +kernel
theorem d_Fi_find_342 : decode c0_Fi_find 342 = .ok (.iaload, 1) := by decide +kernel
theorem d_Fi_find_343 : decode c0_Fi_find 343 = .ok (.isub, 1) := by decide +kernel
theorem d_Fi_find_344 : decode c0_Fi_find 344 = .ok (.iadd, 1) := by decide +kernel
theorem d_Fi_find_345 : decode c0_Fi_find 345 = .ok (.i2l, 1) := by decide +kernel
theorem d_Fi_find_346 : decode c0_Fi_find 346 = .ok (.invokevirtual 57, 3) := by decide +kernel
theorem d_Fi_find_349 : decode c0_Fi_find 349 = .ok (.ireturn, 1) := by decide +kernel
theorem d_Fi_find_350 : decode c0_Fi_find 350 = .ok (.aload_n 0, 1) := by decide +kernel
theorem d_Fi_find_351 : decode c0_Fi_find 351 = .ok (.aload_n 0, 1) := by decide +kernel
theorem d_Fi_find_352 : decode c0_Fi_find 352 = .ok (.getfield 9, 3) := by decide +kernel
theorem d_Fi_find_355 : decode c0_Fi_find 355 = .ok (.iload_n 2, 1) := by decide +kernel
theorem d_Fi_find_356 : decode c0_Fi_find 356 = .ok (.iaload, 1) := by decide +kernel
theorem d_Fi_find_357 : decode c0_Fi_find 357 = .ok (.aload_n 0, 1) := by decide +kernel
theorem d_Fi_find_358 : decode c0_Fi_find 358 = .ok (.getfield 9, 3) := by decide +kernel
theorem d_Fi_find_361 : decode c0_Fi_find 361 = .ok (.iload 4, 2) := by decide +kernel
theorem d_Fi_find_363 : decode c0_Fi_find 363 = .ok (.iaload, 1) := by decide +kernel
theorem d_Fi_find_364 : decode c0_Fi_find 364 = .ok (.iadd, 1) := by decide +kernel
theorem d_Fi_find_365 : decode c0_Fi_find 365 = .ok (.aload_n 0, 1) := by decide +kernel
theorem d_Fi_find_366 : decode c0_Fi_find 366 = .ok (.getfield 9, 3) := by decide +kernel
theorem d_Fi_find_369 : decode c0_Fi_find 369 = .ok (.iload_n 3, 1) := by decide +kernel
theorem d_Fi_find_370 : decode c0_Fi_find 370 = .ok (.iaload, 1) := by decide +kernel
theorem d_Fi_find_371 : decode c0_Fi_find 371 = .ok (.isub, 1) := by decide +kernel
theorem d_Fi_find_372 : decode c0_Fi_find 372 = .ok (.i2l, 1) := by decide +kernel
theorem d_Fi_find_373 : decode c0_Fi_find 373 = .ok (.aload_n 0, 1) := by decide +kernel
theorem d_Fi_find_374 : decode c0_Fi_find 374 = .ok (.getfield 15, 3) := by decide +kernel
theorem d_Fi_find_377 : decode c0_Fi_find 377 = .ok (.iload_n 2, 1) := by decide +kernel
theorem d_Fi_find_378 : decode c0_Fi_find 378 = .ok (.iaload, 1) := by decide +kernel
theorem d_Fi_find_379 : decode c0_Fi_find 379 = .ok (.aload_n 0, 1) := by decide +kernel
theorem d_Fi_find_380 : decode c0_Fi_find 380 = .ok (.getfield 15, 3) := by decide +kernel
theorem d_Fi_find_383 : decode c0_Fi_find 383 = .ok (.iload 4, 2) := by decide +kernel
theorem d_Fi_find_385 : decode c0_Fi_find 385 = .ok (.iaload, 1) := by decide +kernel
theorem d_Fi_find_386 : decode c0_Fi_find 386 = .ok (.iadd, 1) := by decide +kernel
theorem d_Fi_find_387 : decode c0_Fi_find 387 = .ok (.aload_n 0, 1) := by decide +kernel
theorem d_Fi_find_388 : decode c0_Fi_find 388 = .ok (.getfield 15, 3) := by decide +kernel
theorem d_Fi_find_391 : decode c0_Fi_find 391 = .ok (.iload_n 3, 1) := by decide +kernel
theorem d_Fi_find_392 : decode c0_Fi_find 392 = .ok (.iaload, 1) := by decide +kernel
theorem d_Fi_find_393 : decode c0_Fi_find 393 = .ok (.isub, 1) := by decide +kernel
theorem d_Fi_find_394 : decode c0_Fi_find 394 = .ok (.i2l, 1) := by decide +kernel
theorem d_Fi_find_395 : decode c0_Fi_find 395 = .ok (.invokevirtual 57, 3) := by decide +kernel
theorem d_Fi_find_398 : decode c0_Fi_find 398 = .ok (.ireturn, 1) := by decide +kernel
theorem d_Fi_find_399 : decode c0_Fi_find 399 = .ok (.aload_n 0, 1) := by decide +kernel
theorem d_Fi_find_400 : decode c0_Fi_find 400 = .ok (.iload_n 2, 1) := by decide +kernel
theorem d_Fi_find_401 : decode c0_Fi_find 401 = .ok (.iload_n 3, 1) := by decide +kernel
theorem d_Fi_find_402 : decode c0_Fi_find 402 = .ok (.aload_n 0, 1) := by decide +kernel
theorem d_Fi_find_403 : decode c0_Fi_find 403 = .ok (.invokevirtual 72, 3) := by decide +kernel
theorem d_Fi_find_406 : decode c0_Fi_find 406 = .ok (.invokevirtual 76, 3) := by decide +kernel
theorem d_Fi_find_409 : decode c0_Fi_find 409 = .ok (.ireturn, 1) := by decide +kernel
theorem d_Fi_find_410 : decode c0_Fi_find 410 = .ok (.aload_n 0, 1) := by decide +kernel
theorem d_Fi_find_411 : decode c0_Fi_find 411 = .ok (.iload_n 2, 1) := by decide +kernel
theorem d_Fi_find_412 : decode c0_Fi_find 412 = .ok (.iload_n 3, 1) := by decide +kernel
theorem d_Fi_find_413 : decode c0_Fi_find 413 = .ok (.aload_n 0, 1) := by decide +kernel
theorem d_Fi_find_414 : decode c0_Fi_find 414 = .ok (.invokevirtual 72, 3) := by decide +kernel
theorem d_Fi_find_417 : decode c0_Fi_find 417 = .ok (.invokevirtual 80, 3) := by decide +kernel
theorem d_Fi_find_420 : decode c0_Fi_find 420 = .ok (.ireturn, 1) := by decide +kernel
theorem d_Fi_find_421 : decode c0_Fi_find 421 = .ok (.aload_n 0, 1) := by decide +kernel
theorem d_Fi_find_422 : decode c0_Fi_find 422 = .ok (.iload_n 2, 1) := by decide +kernel
theorem d_Fi_find_423 : decode c0_Fi_find 423 = .ok (.iload 4, 2) := by decide +kernel
theorem d_Fi_find_425 : decode c0_Fi_find 425 = .ok (.iload 5, 2) := by decide +kernel
theorem d_Fi_find_427 : decode c0_Fi_find 427 = .ok (.invokevirtual 68, 3) := by decide +kernel
theorem d_Fi_find_430 : decode c0_Fi_find 430 = .ok (.ifCond .eq 59, 3) := by decide +kernel
theorem d_Fi_find_433 : decode c0_Fi_find 433 = .ok (.aload_n 0, 1) := by decide +kernel
theorem d_Fi_find_434 : decode c0_Fi_find 434 = .ok (.aload_n 0, 1) := by decide +kernel
theorem d_Fi_find_435 : decode c0_Fi_find 435 = .ok (.getfield 45, 3) := by decide +kernel
theorem d_Fi_find_438 : decode c0_Fi_find 438 = .ok (.aload_n 0, 1) := by decide +kernel
theorem d_Fi_find_439 : decode c0_Fi_find 439 = .ok (.getfield 48, 3) := by decide +kernel
theorem d_Fi_find_442 : decode c0_Fi_find 442 = .ok (.iload_n 2, 1) := by decide +kernel
theorem d_Fi_find_443 : decode c0_Fi_find 443 = .ok (.iload_n 3, 1) := by decide +kernel
theorem d_Fi_find_444 : decode c0_Fi_find 444 = .ok (.invokevirtual 61, 3) := by decide +kernel
theorem d_Fi_find_447 : decode c0_Fi_find 447 = .ok (.ifCond .eq 42, 3) := by decide +kernel
theorem d_Fi_find_450 : decode c0_Fi_find 450 = .ok (.aload_n 0, 1) := by decide +kernel
theorem d_Fi_find_451 : decode c0_Fi_find 451 = .ok (.iconst 2, 1) := by decide +kernel
theorem d_Fi_find_452 : decode c0_Fi_find 452 = .ok (.aload_n 0, 1) := by decide +kernel
theorem d_Fi_find_453 : decode c0_Fi_find 453 = .ok (.getfield 45, 3) := by decide +kernel
theorem d_Fi_find_456 : decode c0_Fi_find 456 = .ok (.imul, 1) := by decide +kernel
theorem d_Fi_find_457 : decode c0_Fi_find 457 = .ok (.aload_n 0, 1) := by decide +kernel
theorem d_Fi_find_458 : decode c0_Fi_find 458 = .ok (.getfield 9, 3) := by decide +kernel
theorem d_Fi_find_461 : decode c0_Fi_find 461 = .ok (.iload_n 2, 1) := by decide +kernel
theorem d_Fi_find_462 : decode c0_Fi_find 462 = .ok (.iaload, 1) := by decide +kernel
theorem d_Fi_find_463 : decode c0_Fi_find 463 = .ok (.isub, 1) := by decide +kernel
theorem d_Fi_find_464 : decode c0_Fi_find 464 = .ok (.i2l, 1) := by decide +kernel
theorem d_Fi_find_465 : decode c0_Fi_find 465 = .ok (.iconst 2, 1) := by decide +kernel
theorem d_Fi_find_466 : decode c0_Fi_find 466 = .ok (.aload_n 0, 1) := by decide +kernel
theorem d_Fi_find_467 : decode c0_Fi_find 467 = .ok (.getfield 48, 3) := by decide +kernel
theorem d_Fi_find_470 : decode c0_Fi_find 470 = .ok (.imul, 1) := by decide +kernel
theorem d_Fi_find_471 : decode c0_Fi_find 471 = .ok (.aload_n 0, 1) := by decide +kernel
theorem d_Fi_find_472 : decode c0_Fi_find 472 = .ok (.getfield 15, 3) := by decide +kernel
theorem d_Fi_find_475 : decode c0_Fi_find 475 = .ok (.iload_n 2, 1) := by decide +kernel
theorem d_Fi_find_476 : decode c0_Fi_find 476 = .ok (.iaload, 1) := by decide +kernel
theorem d_Fi_find_477 : decode c0_Fi_find 477 = .ok (.isub, 1) := by decide +kernel
theorem d_Fi_find_478 : decode c0_Fi_find 478 = .ok (.i2l, 1) := by decide +kernel
theorem d_Fi_find_479 : decode c0_Fi_find 479 = .ok (.invokevirtual 57, 3) := by decide +kernel
theorem d_Fi_find_482 : decode c0_Fi_find 482 = .ok (.ifCond .eq 7, 3) := by decide +kernel
theorem d_Fi_find_485 : decode c0_Fi_find 485 = .ok (.iconst 1, 1) := by decide +kernel
theorem d_Fi_find_486 : decode c0_Fi_find 486 = .ok (.goto 4, 3) := by decide +kernel
theorem d_Fi_find_489 : decode c0_Fi_find 489 = .ok (.iconst 0, 1) := by decide +kernel
theorem d_Fi_find_490 : decode c0_Fi_find 490 = .ok (.ireturn, 1) := by decide +kernel
theorem d_Fi_find_491 : decode c0_Fi_find 491 = .ok (.aload_n 0, 1) := by decide +kernel
theorem d_Fi_find_492 : decode c0_Fi_find 492 = .ok (.aload_n 0, 1) := by decide +kernel
theorem d_Fi_find_493 : decode c0_Fi_find 493 = .ok (.getfield 9, 3) := by decide +kernel
theorem d_Fi_find_496 : decode c0_Fi_find 496 = .ok (.iload_n 2, 1) := by decide +kernel
theorem d_Fi_find_497 : decode c0_Fi_find 497 = .ok (.iaload, 1) := by decide +kernel
theorem d_Fi_find_498 : decode c0_Fi_find 498 = .ok (.aload_n 0, 1) := by decide +kernel
theorem d_Fi_find_499 : decode c0_Fi_find 499 = .ok (.getfield 9, 3) := by decide +kernel
theorem d_Fi_find_502 : decode c0_Fi_find 502 = .ok (.iload_n 3, 1) := by decide +kernel
theorem d_Fi_find_503 : decode c0_Fi_find 503 = .ok (.iaload, 1) := by decide +kernel
theorem d_Fi_find_504 : decode c0_Fi_find 504 = .ok (.iadd, 1) := by decide +kernel
theorem d_Fi_find_505 : decode c0_Fi_find 505 = .ok (.aload_n 0, 1) := by decide +kernel
theorem d_Fi_find_506 : decode c0_Fi_find 506 = .ok (.getfield 9, 3) := by decide +kernel
theorem d_Fi_find_509 : decode c0_Fi_find 509 = .ok (.iload 4, 2) := by decide +kernel
theorem d_Fi_find_511 : decode c0_Fi_find 511 = .ok (.iaload, 1) := by decide +kernel
theorem d_Fi_find_512 : decode c0_Fi_find 512 = .ok (.iadd, 1) := by decide +kernel
theorem d_Fi_find_513 : decode c0_Fi_find 513 = .ok (.i2l, 1) := by decide +kernel
theorem d_Fi_find_514 : decode c0_Fi_find 514 = .ok (.ldc2_w 83, 3) := by decide +kernel
theorem d_Fi_find_517 : decode c0_Fi_find 517 = .ok (.lmul, 1) := by decide +kernel
theorem d_Fi_find_518 : decode c0_Fi_find 518 = .ok (.aload_n 0, 1) := by decide +kernel
theorem d_Fi_find_519 : decode c0_Fi_find 519 = .ok (.getfield 15, 3) := by decide +kernel
theorem d_Fi_find_522 : decode c0_Fi_find 522 = .ok (.iload_n 2, 1) := by decide +kernel
theorem d_Fi_find_523 : decode c0_Fi_find 523 = .ok (.iaload, 1) := by decide +kernel
theorem d_Fi_find_524 : decode c0_Fi_find 524 = .ok (.aload_n 0, 1) := by decide +kernel
theorem d_Fi_find_525 : decode c0_Fi_find 525 = .ok (.getfield 15, 3) := by decide +kernel
theorem d_Fi_find_528 : decode c0_Fi_find 528 = .ok (.iload_n 3, 1) := by decide +kernel
theorem d_Fi_find_529 : decode c0_Fi_find 529 = .ok (.iaload, 1) := by decide +kernel
theorem d_Fi_find_530 : decode c0_Fi_find 530 = .ok (.iadd, 1) := by decide +kernel
theorem d_Fi_find_531 : decode c0_Fi_find 531 = .ok (.aload_n 0, 1) := by decide +kernel
theorem d_Fi_find_532 : decode c0_Fi_find 532 = .ok (.getfield 15, 3) := by decide +kernel
theorem d_Fi_find_535 : decode c0_Fi_find 535 = .ok (.iload 4, 2) := by decide +kernel
theorem d_Fi_find_537 : decode c0_Fi_find 537 = .ok (.iaload, 1) := by decide +kernel
theorem d_Fi_find_538 : decode c0_Fi_find 538 = .ok (.iadd, 1) := by decide +kernel
theorem d_Fi_find_539 : decode c0_Fi_find 539 = .ok (.i2l, 1) := by decide +kernel
theorem d_Fi_find_540 : decode c0_Fi_find 540 = .ok (.ldc2_w 83, 3) := by decide +kernel
theorem d_Fi_find_543 : decode c0_Fi_find 543 = .ok (.lmul, 1) := by decide +kernel
theorem d_Fi_find_544 : decode c0_Fi_find 544 = .ok (.invokevirtual 57, 3) := by decide +kernel
theorem d_Fi_find_547 : decode c0_Fi_find 547 = .ok (.ireturn, 1) := by decide +kernel
theorem d_Fi_find_548 : decode c0_Fi_find 548 = .ok (.aload_n 0, 1) := by decide +kernel
theorem d_Fi_find_549 : decode c0_Fi_find 549 = .ok (.iload_n 2, 1) := by decide +kernel
theorem d_Fi_find_550 : decode c0_Fi_find 550 = .ok (.iload_n 3, 1) := by decide +kernel
theorem d_Fi_find_551 : decode c0_Fi_find 551 = .ok (.iload 4, 2) := by decide +kernel
theorem d_Fi_find_553 : decode c0_Fi_find 553 = .ok (.invokevirtual 85, 3) := by decide +kernel
theorem d_Fi_find_556 : decode c0_Fi_find 556 = .ok (.ireturn, 1) := by decide +kernel
theorem d_Fi_find_557 : decode c0_Fi_find 557 = .ok (.iconst 0, 1) := by decide +kernel
theorem d_Fi_find_558 : decode c0_Fi_find 558 = .ok (.ireturn, 1) := by decide +kernel
def f_Fi_find (K : Nat → ClassId) (N : Nat) (o : Nat) (a1 : Int32) (a2 : Int32) (a3 : Int32) (a4 : Int32) (a5 : Int32) (h0 : fh_H) : Option (Int32 × fh_H) :=
  if a1 = 0 then ((fg_o h0 (some o) 4).bind fun o1 => (f_Fi_findFree K N o1 h0).bind fun r2 => fz r2.1 r2.2) else (if a1 = 1 then ((fg_a h0 (some o) 4 0).bind fun x3 => (fa_i (K 0) h0 x3 a2).bind fun x4 => (fg_a h0 (some o) 4 0).bind fun x5 => (fa_i (K 0) h0 x5 a3).bind fun x6 => (fg_a h0 (some o) 4 1).bind fun x7 => (fa_i (K 0) h0 x7 a2).bind fun x8 => (fg_a h0 (some o) 4 1).bind fun x9 => (fa_i (K 0) h0 x9 a3).bind fun x10 => (fg_o h0 (some o) 4).bind fun o11 => (f_Fi_found K N o11 (((x4 + x6).toInt64) * 500002) (((x8 + x10).toInt64) * 500002) h0).bind fun r12 => fz r12.1 r12.2) else (if a1 = 2 then ((fg_a h0 (some o) 4 0).bind fun x13 => (fa_i (K 0) h0 x13 a2).bind fun x14 => (fg_a h0 (some o) 4 1).bind fun x15 => (fa_i (K 0) h0 x15 a2).bind fun x16 => (fg_o h0 (some o) 4).bind fun o17 => (f_Fi_findFoot K N o17 x14 x16 a3 a4 h0).bind fun r18 => fz r18.1 r18.2) else (if a1 = 3 then ((fg_o h0 (some o) 4).bind fun o19 => (f_Fi_findMeet K N o19 a2 a3 a4 a5 h0).bind fun r20 => fz r20.1 r20.2) else (if a1 = 4 then ((fg_o h0 (some o) 4).bind fun o21 => (f_Fi_findCentre K N o21 a2 a3 a4 h0).bind fun r22 => fz r22.1 r22.2) else (if a1 = 5 then ((fg_o h0 (some o) 4).bind fun o23 => (f_Fi_findCentre K N o23 a2 a3 a4 h0).bind fun r24 => if r24.1 = 0 then (some (0, r24.2)) else ((fg_a r24.2 (some o) 4 0).bind fun x25 => (fa_i (K 0) r24.2 x25 a2).bind fun x26 => (fg_a r24.2 (some o) 4 0).bind fun x27 => (fa_i (K 0) r24.2 x27 a3).bind fun x28 => (fg_a r24.2 (some o) 4 0).bind fun x29 => (fa_i (K 0) r24.2 x29 a4).bind fun x30 => (fg_i r24.2 (some o) 4 5).bind fun x31 => (fg_a r24.2 (some o) 4 1).bind fun x32 => (fa_i (K 0) r24.2 x32 a2).bind fun x33 => (fg_a r24.2 (some o) 4 1).bind fun x34 => (fa_i (K 0) r24.2 x34 a3).bind fun x35 => (fg_a r24.2 (some o) 4 1).bind fun x36 => (fa_i (K 0) r24.2 x36 a4).bind fun x37 => (fg_i r24.2 (some o) 4 6).bind fun x38 => (fg_o r24.2 (some o) 4).bind fun o39 => (f_Fi_found K N o39 ((((x26 + x28) + x30) - (2 * x31)).toInt64) ((((x33 + x35) + x37) - (2 * x38)).toInt64) r24.2).bind fun r40 => if r40.1 = 0 then (some (0, r40.2)) else (some (1, r40.2)))) else (if a1 = 6 then ((fg_a h0 (some o) 4 0).bind fun x41 => (fa_i (K 0) h0 x41 a2).bind fun x42 => (fg_a h0 (some o) 4 1).bind fun x43 => (fa_i (K 0) h0 x43 a2).bind fun x44 => (fg_o h0 (some o) 4).bind fun o45 => (f_Fi_findFoot K N o45 x42 x44 a3 a4 h0).bind fun r46 => if r46.1 = 0 then (some (0, r46.2)) else ((fg_i r46.2 (some o) 4 5).bind fun x47 => (fg_a r46.2 (some o) 4 0).bind fun x48 => (fa_i (K 0) r46.2 x48 a2).bind fun x49 => (fg_i r46.2 (some o) 4 6).bind fun x50 => (fg_a r46.2 (some o) 4 1).bind fun x51 => (fa_i (K 0) r46.2 x51 a2).bind fun x52 => (fg_o r46.2 (some o) 4).bind fun o53 => (f_Fi_found K N o53 (((2 * x47) - x49).toInt64) (((2 * x50) - x52).toInt64) r46.2).bind fun r54 => if r54.1 = 0 then (some (0, r54.2)) else (some (1, r54.2)))) else (if a1 = 7 then ((fg_a h0 (some o) 4 0).bind fun x55 => (fa_i (K 0) h0 x55 a3).bind fun x56 => (fg_a h0 (some o) 4 1).bind fun x57 => (fa_i (K 0) h0 x57 a2).bind fun x58 => (fg_a h0 (some o) 4 1).bind fun x59 => (fa_i (K 0) h0 x59 a3).bind fun x60 => (fg_a h0 (some o) 4 1).bind fun x61 => (fa_i (K 0) h0 x61 a3).bind fun x62 => (fg_a h0 (some o) 4 0).bind fun x63 => (fa_i (K 0) h0 x63 a2).bind fun x64 => (fg_a h0 (some o) 4 0).bind fun x65 => (fa_i (K 0) h0 x65 a3).bind fun x66 => (fg_o h0 (some o) 4).bind fun o67 => (f_Fi_found K N o67 ((x56 - (x58 - x60)).toInt64) ((x62 + (x64 - x66)).toInt64) h0).bind fun r68 => fz r68.1 r68.2) else (if a1 = 8 then ((fg_a h0 (some o) 4 0).bind fun x69 => (fa_i (K 0) h0 x69 a2).bind fun x70 => (fg_a h0 (some o) 4 0).bind fun x71 => (fa_i (K 0) h0 x71 a4).bind fun x72 => (fg_a h0 (some o) 4 0).bind fun x73 => (fa_i (K 0) h0 x73 a3).bind fun x74 => (fg_a h0 (some o) 4 1).bind fun x75 => (fa_i (K 0) h0 x75 a2).bind fun x76 => (fg_a h0 (some o) 4 1).bind fun x77 => (fa_i (K 0) h0 x77 a4).bind fun x78 => (fg_a h0 (some o) 4 1).bind fun x79 => (fa_i (K 0) h0 x79 a3).bind fun x80 => (fg_o h0 (some o) 4).bind fun o81 => (f_Fi_found K N o81 (((x70 + x72) - x74).toInt64) (((x76 + x78) - x80).toInt64) h0).bind fun r82 => fz r82.1 r82.2) else (if a1 = 9 then ((fg_o h0 (some o) 4).bind fun o83 => (f_Fi_nextNumber K N o83 h0).bind fun r84 => (fg_o r84.2 (some o) 4).bind fun o85 => (f_Fi_findAlong K N o85 a2 a3 r84.1 r84.2).bind fun r86 => fz r86.1 r86.2) else (if a1 = 10 then ((fg_o h0 (some o) 4).bind fun o87 => (f_Fi_nextNumber K N o87 h0).bind fun r88 => (fg_o r88.2 (some o) 4).bind fun o89 => (f_Fi_findOnCircle K N o89 a2 a3 r88.1 r88.2).bind fun r90 => fz r90.1 r90.2) else (if a1 = 11 then ((fg_o h0 (some o) 4).bind fun o91 => (f_Fi_findCentre K N o91 a2 a4 a5 h0).bind fun r92 => if r92.1 = 0 then (some (0, r92.2)) else ((fg_i r92.2 (some o) 4 5).bind fun x93 => (fg_i r92.2 (some o) 4 6).bind fun x94 => (fg_o r92.2 (some o) 4).bind fun o95 => (f_Fi_findFoot K N o95 x93 x94 a2 a3 r92.2).bind fun r96 => if r96.1 = 0 then (some (0, r96.2)) else ((fg_i r96.2 (some o) 4 5).bind fun x97 => (fg_a r96.2 (some o) 4 0).bind fun x98 => (fa_i (K 0) r96.2 x98 a2).bind fun x99 => (fg_i r96.2 (some o) 4 6).bind fun x100 => (fg_a r96.2 (some o) 4 1).bind fun x101 => (fa_i (K 0) r96.2 x101 a2).bind fun x102 => (fg_o r96.2 (some o) 4).bind fun o103 => (f_Fi_found K N o103 (((2 * x97) - x99).toInt64) (((2 * x100) - x102).toInt64) r96.2).bind fun r104 => if r104.1 = 0 then (some (0, r104.2)) else (some (1, r104.2))))) else (if a1 = 12 then ((fg_a h0 (some o) 4 0).bind fun x105 => (fa_i (K 0) h0 x105 a2).bind fun x106 => (fg_a h0 (some o) 4 0).bind fun x107 => (fa_i (K 0) h0 x107 a3).bind fun x108 => (fg_a h0 (some o) 4 0).bind fun x109 => (fa_i (K 0) h0 x109 a4).bind fun x110 => (fg_a h0 (some o) 4 1).bind fun x111 => (fa_i (K 0) h0 x111 a2).bind fun x112 => (fg_a h0 (some o) 4 1).bind fun x113 => (fa_i (K 0) h0 x113 a3).bind fun x114 => (fg_a h0 (some o) 4 1).bind fun x115 => (fa_i (K 0) h0 x115 a4).bind fun x116 => (fg_o h0 (some o) 4).bind fun o117 => (f_Fi_found K N o117 ((((x106 + x108) + x110).toInt64) * 666669) ((((x112 + x114) + x116).toInt64) * 666669) h0).bind fun r118 => fz r118.1 r118.2) else (if a1 = 13 then ((fg_o h0 (some o) 4).bind fun o119 => (f_Fi_findTurnedOut K N o119 a2 a3 a4 h0).bind fun r120 => fz r120.1 r120.2) else (some (0, h0)))))))))))))))
set_option maxHeartbeats 4000000 in
set_option maxRecDepth 100000 in
theorem c_Fi_find {l : Launch} {D : va_G} {K : Nat → ClassId} {t : Nat → Nat} {N : Nat} {o : Nat} {a1 : Int32} {a2 : Int32} {a3 : Int32} {a4 : Int32} {a5 : Int32} {h0 : fh_H} {res : Int32 × fh_H} (hf : f_Fi_find K N o a1 a2 a3 a4 a5 h0 = some res) : fC l D K t y_Fi_find c0_Fi_find 6 (some .boolean) rm_Fi_find [.ref o, .int a1, .int a2, .int a3, .int a4, .int a5] h0 (some (.int res.1)) res.2 := by
  refine fh_body (by decide) (Nat.le_of_ble_eq_true rfl) ?_
  intro p e s m below meth c A ls S hr hk hnm hE hAe hI hl
  obtain ⟨hx, hb, hml, hown, hts⟩ := id S
  have hl : lv_has ls 6 [(0, va_rf (some o)), (1, .int a1), (2, .int a2), (3, .int a3), (4, .int a4), (5, .int a5)] := hl
  unfold f_Fi_find at hf
  refine lv_iload_n hx hb d_Fi_find_0 rfl (lv_at hl 1 rfl) ?_
  by_cases c_1_0 : a1 = 0
  · replace hf := fh_t c_1_0 hf
    refine lv_tableIn (tgt := 72) hx hb d_Fi_find_1 (by rw [c_1_0]; decide) (by rw [c_1_0]; decide) (off := 71) (by rw [c_1_0]; decide) (by decide) ?_
    refine fh_aload_n S d_Fi_find_72 rfl (lv_at hl 0 rfl) ?_
    obtain ⟨o1, e_o1, hf⟩ := fh_b hf
    obtain ⟨r2, e_r2, hf⟩ := fh_b hf
    refine fh_callV (As := []) (rest := []) S fT_good hE hI e_o1 rfl (c_Fi_findFree e_r2) fy_Fi_findFree fst_Fi_findFree k_28 ⟨rfl, rfl⟩ ⟨Nat.le_of_ble_eq_true rfl, Nat.le_of_ble_eq_true rfl⟩ ⟨Nat.zero_le _, Nat.zero_le _⟩ rfl hl.1 rfl (Nat.le_of_ble_eq_true rfl) d_Fi_find_73 (fun H locs hI => ?_)
    obtain ⟨hz, rfl⟩ := fz_s hf
    exact fh_iret S hr hk (fh_nb hz) hAe hI d_Fi_find_76
  replace hf := fh_f c_1_0 hf
  by_cases c_1_1 : a1 = 1
  · replace hf := fh_t c_1_1 hf
    refine lv_tableIn (tgt := 77) hx hb d_Fi_find_1 (by rw [c_1_1]; decide) (by rw [c_1_1]; decide) (off := 76) (by rw [c_1_1]; decide) (by decide) ?_
    refine fh_aload_n S d_Fi_find_77 rfl (lv_at hl 0 rfl) ?_
    refine fh_aload_n S d_Fi_find_78 rfl (lv_at hl 0 rfl) ?_
    obtain ⟨x3, e_x3, hf⟩ := fh_b hf
    refine fh_geta S hE.1 hI e_x3 (hc := rfl) (hin := in_4) (by decide) (hts _ k_15) d_Fi_find_79 ?_
    refine lv_iload_n hx hb d_Fi_find_82 rfl (lv_at hl 2 rfl) ?_
    obtain ⟨x4, e_x4, hf⟩ := fh_b hf
    refine fh_iald S hE.1 hI 0 rfl e_x4 d_Fi_find_83 ?_
    refine fh_aload_n S d_Fi_find_84 rfl (lv_at hl 0 rfl) ?_
    obtain ⟨x5, e_x5, hf⟩ := fh_b hf
    refine fh_geta S hE.1 hI e_x5 (hc := rfl) (hin := in_4) (by decide) (hts _ k_15) d_Fi_find_85 ?_
    refine lv_iload_n hx hb d_Fi_find_88 rfl (lv_at hl 3 rfl) ?_
    obtain ⟨x6, e_x6, hf⟩ := fh_b hf
    refine fh_iald S hE.1 hI 0 rfl e_x6 d_Fi_find_89 ?_
    refine lv_iadd hx hb d_Fi_find_90 ?_
    refine lv_i2l hx hb d_Fi_find_91 rfl ?_
    refine lv_ldc2 hx hb hown (hts _ k_29) d_Fi_find_92 ?_
    refine lv_lmul hx hb d_Fi_find_95 ?_
    refine fh_aload_n S d_Fi_find_96 rfl (lv_at hl 0 rfl) ?_
    obtain ⟨x7, e_x7, hf⟩ := fh_b hf
    refine fh_geta S hE.1 hI e_x7 (hc := rfl) (hin := in_4) (by decide) (hts _ k_16) d_Fi_find_97 ?_
    refine lv_iload_n hx hb d_Fi_find_100 rfl (lv_at hl 2 rfl) ?_
    obtain ⟨x8, e_x8, hf⟩ := fh_b hf
    refine fh_iald S hE.1 hI 0 rfl e_x8 d_Fi_find_101 ?_
    refine fh_aload_n S d_Fi_find_102 rfl (lv_at hl 0 rfl) ?_
    obtain ⟨x9, e_x9, hf⟩ := fh_b hf
    refine fh_geta S hE.1 hI e_x9 (hc := rfl) (hin := in_4) (by decide) (hts _ k_16) d_Fi_find_103 ?_
    refine lv_iload_n hx hb d_Fi_find_106 rfl (lv_at hl 3 rfl) ?_
    obtain ⟨x10, e_x10, hf⟩ := fh_b hf
    refine fh_iald S hE.1 hI 0 rfl e_x10 d_Fi_find_107 ?_
    refine lv_iadd hx hb d_Fi_find_108 ?_
    refine lv_i2l hx hb d_Fi_find_109 rfl ?_
    refine lv_ldc2 hx hb hown (hts _ k_29) d_Fi_find_110 ?_
    refine lv_lmul hx hb d_Fi_find_113 ?_
    obtain ⟨o11, e_o11, hf⟩ := fh_b hf
    obtain ⟨r12, e_r12, hf⟩ := fh_b hf
    refine fh_callV (As := [.long (((x4 + x6).toInt64) * 500002), .long (((x8 + x10).toInt64) * 500002)]) (rest := []) S fT_good hE hI e_o11 rfl (c_Fi_found e_r12) fy_Fi_found fst_Fi_found k_14 ⟨rfl, rfl⟩ ⟨Nat.le_of_ble_eq_true rfl, Nat.le_of_ble_eq_true rfl⟩ ⟨Nat.zero_le _, Nat.zero_le _⟩ rfl hl.1 rfl (Nat.le_of_ble_eq_true rfl) d_Fi_find_114 (fun H locs hI => ?_)
    obtain ⟨hz, rfl⟩ := fz_s hf
    exact fh_iret S hr hk (fh_nb hz) hAe hI d_Fi_find_117
  replace hf := fh_f c_1_1 hf
  by_cases c_1_2 : a1 = 2
  · replace hf := fh_t c_1_2 hf
    refine lv_tableIn (tgt := 118) hx hb d_Fi_find_1 (by rw [c_1_2]; decide) (by rw [c_1_2]; decide) (off := 117) (by rw [c_1_2]; decide) (by decide) ?_
    refine fh_aload_n S d_Fi_find_118 rfl (lv_at hl 0 rfl) ?_
    refine fh_aload_n S d_Fi_find_119 rfl (lv_at hl 0 rfl) ?_
    obtain ⟨x13, e_x13, hf⟩ := fh_b hf
    refine fh_geta S hE.1 hI e_x13 (hc := rfl) (hin := in_4) (by decide) (hts _ k_15) d_Fi_find_120 ?_
    refine lv_iload_n hx hb d_Fi_find_123 rfl (lv_at hl 2 rfl) ?_
    obtain ⟨x14, e_x14, hf⟩ := fh_b hf
    refine fh_iald S hE.1 hI 0 rfl e_x14 d_Fi_find_124 ?_
    refine fh_aload_n S d_Fi_find_125 rfl (lv_at hl 0 rfl) ?_
    obtain ⟨x15, e_x15, hf⟩ := fh_b hf
    refine fh_geta S hE.1 hI e_x15 (hc := rfl) (hin := in_4) (by decide) (hts _ k_16) d_Fi_find_126 ?_
    refine lv_iload_n hx hb d_Fi_find_129 rfl (lv_at hl 2 rfl) ?_
    obtain ⟨x16, e_x16, hf⟩ := fh_b hf
    refine fh_iald S hE.1 hI 0 rfl e_x16 d_Fi_find_130 ?_
    refine lv_iload_n hx hb d_Fi_find_131 rfl (lv_at hl 3 rfl) ?_
    refine lv_iload hx hb d_Fi_find_132 (lv_at hl 4 rfl) ?_
    obtain ⟨o17, e_o17, hf⟩ := fh_b hf
    obtain ⟨r18, e_r18, hf⟩ := fh_b hf
    refine fh_callV (As := [.int x14, .int x16, .int a3, .int a4]) (rest := []) S fT_good hE hI e_o17 rfl (c_Fi_findFoot e_r18) fy_Fi_findFoot fst_Fi_findFoot k_25 ⟨rfl, rfl⟩ ⟨Nat.le_of_ble_eq_true rfl, Nat.le_of_ble_eq_true rfl⟩ ⟨Nat.zero_le _, Nat.zero_le _⟩ rfl hl.1 rfl (Nat.le_of_ble_eq_true rfl) d_Fi_find_134 (fun H locs hI => ?_)
    obtain ⟨hz, rfl⟩ := fz_s hf
    exact fh_iret S hr hk (fh_nb hz) hAe hI d_Fi_find_137
  replace hf := fh_f c_1_2 hf
  by_cases c_1_3 : a1 = 3
  · replace hf := fh_t c_1_3 hf
    refine lv_tableIn (tgt := 138) hx hb d_Fi_find_1 (by rw [c_1_3]; decide) (by rw [c_1_3]; decide) (off := 137) (by rw [c_1_3]; decide) (by decide) ?_
    refine fh_aload_n S d_Fi_find_138 rfl (lv_at hl 0 rfl) ?_
    refine lv_iload_n hx hb d_Fi_find_139 rfl (lv_at hl 2 rfl) ?_
    refine lv_iload_n hx hb d_Fi_find_140 rfl (lv_at hl 3 rfl) ?_
    refine lv_iload hx hb d_Fi_find_141 (lv_at hl 4 rfl) ?_
    refine lv_iload hx hb d_Fi_find_143 (lv_at hl 5 rfl) ?_
    obtain ⟨o19, e_o19, hf⟩ := fh_b hf
    obtain ⟨r20, e_r20, hf⟩ := fh_b hf
    refine fh_callV (As := [.int a2, .int a3, .int a4, .int a5]) (rest := []) S fT_good hE hI e_o19 rfl (c_Fi_findMeet e_r20) fy_Fi_findMeet fst_Fi_findMeet k_27 ⟨rfl, rfl⟩ ⟨Nat.le_of_ble_eq_true rfl, Nat.le_of_ble_eq_true rfl⟩ ⟨Nat.zero_le _, Nat.zero_le _⟩ rfl hl.1 rfl (Nat.le_of_ble_eq_true rfl) d_Fi_find_145 (fun H locs hI => ?_)
    obtain ⟨hz, rfl⟩ := fz_s hf
    exact fh_iret S hr hk (fh_nb hz) hAe hI d_Fi_find_148
  replace hf := fh_f c_1_3 hf
  by_cases c_1_4 : a1 = 4
  · replace hf := fh_t c_1_4 hf
    refine lv_tableIn (tgt := 149) hx hb d_Fi_find_1 (by rw [c_1_4]; decide) (by rw [c_1_4]; decide) (off := 148) (by rw [c_1_4]; decide) (by decide) ?_
    refine fh_aload_n S d_Fi_find_149 rfl (lv_at hl 0 rfl) ?_
    refine lv_iload_n hx hb d_Fi_find_150 rfl (lv_at hl 2 rfl) ?_
    refine lv_iload_n hx hb d_Fi_find_151 rfl (lv_at hl 3 rfl) ?_
    refine lv_iload hx hb d_Fi_find_152 (lv_at hl 4 rfl) ?_
    obtain ⟨o21, e_o21, hf⟩ := fh_b hf
    obtain ⟨r22, e_r22, hf⟩ := fh_b hf
    refine fh_callV (As := [.int a2, .int a3, .int a4]) (rest := []) S fT_good hE hI e_o21 rfl (c_Fi_findCentre e_r22) fy_Fi_findCentre fst_Fi_findCentre k_24 ⟨rfl, rfl⟩ ⟨Nat.le_of_ble_eq_true rfl, Nat.le_of_ble_eq_true rfl⟩ ⟨Nat.zero_le _, Nat.zero_le _⟩ rfl hl.1 rfl (Nat.le_of_ble_eq_true rfl) d_Fi_find_154 (fun H locs hI => ?_)
    obtain ⟨hz, rfl⟩ := fz_s hf
    exact fh_iret S hr hk (fh_nb hz) hAe hI d_Fi_find_157
  replace hf := fh_f c_1_4 hf
  by_cases c_1_5 : a1 = 5
  · replace hf := fh_t c_1_5 hf
    refine lv_tableIn (tgt := 158) hx hb d_Fi_find_1 (by rw [c_1_5]; decide) (by rw [c_1_5]; decide) (off := 157) (by rw [c_1_5]; decide) (by decide) ?_
    refine fh_aload_n S d_Fi_find_158 rfl (lv_at hl 0 rfl) ?_
    refine lv_iload_n hx hb d_Fi_find_159 rfl (lv_at hl 2 rfl) ?_
    refine lv_iload_n hx hb d_Fi_find_160 rfl (lv_at hl 3 rfl) ?_
    refine lv_iload hx hb d_Fi_find_161 (lv_at hl 4 rfl) ?_
    obtain ⟨o23, e_o23, hf⟩ := fh_b hf
    obtain ⟨r24, e_r24, hf⟩ := fh_b hf
    refine fh_callV (As := [.int a2, .int a3, .int a4]) (rest := []) S fT_good hE hI e_o23 rfl (c_Fi_findCentre e_r24) fy_Fi_findCentre fst_Fi_findCentre k_24 ⟨rfl, rfl⟩ ⟨Nat.le_of_ble_eq_true rfl, Nat.le_of_ble_eq_true rfl⟩ ⟨Nat.zero_le _, Nat.zero_le _⟩ rfl hl.1 rfl (Nat.le_of_ble_eq_true rfl) d_Fi_find_163 (fun H locs hI => ?_)
    refine lv_if_eq (tgt := 238) hx hb d_Fi_find_166 (by decide) (fun c_166 => ?_) (fun c_166 => ?_)
    · replace hf := fh_t c_166 hf
      refine lv_iconst (v := 0) hx hb d_Fi_find_238 (by decide) ?_
      obtain rfl := Option.some.inj hf
      exact fh_iret S hr hk (fh_nb (Or.inl rfl)) hAe hI d_Fi_find_239
    · replace hf := fh_f c_166 hf
      refine fh_aload_n S d_Fi_find_169 rfl (lv_at hl 0 rfl) ?_
      refine fh_aload_n S d_Fi_find_170 rfl (lv_at hl 0 rfl) ?_
      obtain ⟨x25, e_x25, hf⟩ := fh_b hf
      refine fh_geta S hE.1 hI e_x25 (hc := rfl) (hin := in_4) (by decide) (hts _ k_15) d_Fi_find_171 ?_
      refine lv_iload_n hx hb d_Fi_find_174 rfl (lv_at hl 2 rfl) ?_
      obtain ⟨x26, e_x26, hf⟩ := fh_b hf
      refine fh_iald S hE.1 hI 0 rfl e_x26 d_Fi_find_175 ?_
      refine fh_aload_n S d_Fi_find_176 rfl (lv_at hl 0 rfl) ?_
      obtain ⟨x27, e_x27, hf⟩ := fh_b hf
      refine fh_geta S hE.1 hI e_x27 (hc := rfl) (hin := in_4) (by decide) (hts _ k_15) d_Fi_find_177 ?_
      refine lv_iload_n hx hb d_Fi_find_180 rfl (lv_at hl 3 rfl) ?_
      obtain ⟨x28, e_x28, hf⟩ := fh_b hf
      refine fh_iald S hE.1 hI 0 rfl e_x28 d_Fi_find_181 ?_
      refine lv_iadd hx hb d_Fi_find_182 ?_
      refine fh_aload_n S d_Fi_find_183 rfl (lv_at hl 0 rfl) ?_
      obtain ⟨x29, e_x29, hf⟩ := fh_b hf
      refine fh_geta S hE.1 hI e_x29 (hc := rfl) (hin := in_4) (by decide) (hts _ k_15) d_Fi_find_184 ?_
      refine lv_iload hx hb d_Fi_find_187 (lv_at hl 4 rfl) ?_
      obtain ⟨x30, e_x30, hf⟩ := fh_b hf
      refine fh_iald S hE.1 hI 0 rfl e_x30 d_Fi_find_189 ?_
      refine lv_iadd hx hb d_Fi_find_190 ?_
      refine lv_iconst (v := 2) hx hb d_Fi_find_191 (by decide) ?_
      refine fh_aload_n S d_Fi_find_192 rfl (lv_at hl 0 rfl) ?_
      obtain ⟨x31, e_x31, hf⟩ := fh_b hf
      refine fh_geti S hE.1 hI e_x31 (hc := rfl) (hin := in_4) (by decide) (hts _ k_10) d_Fi_find_193 ?_
      refine lv_imul hx hb d_Fi_find_196 ?_
      refine lv_isub hx hb d_Fi_find_197 ?_
      refine lv_i2l hx hb d_Fi_find_198 rfl ?_
      refine fh_aload_n S d_Fi_find_199 rfl (lv_at hl 0 rfl) ?_
      obtain ⟨x32, e_x32, hf⟩ := fh_b hf
      refine fh_geta S hE.1 hI e_x32 (hc := rfl) (hin := in_4) (by decide) (hts _ k_16) d_Fi_find_200 ?_
      refine lv_iload_n hx hb d_Fi_find_203 rfl (lv_at hl 2 rfl) ?_
      obtain ⟨x33, e_x33, hf⟩ := fh_b hf
      refine fh_iald S hE.1 hI 0 rfl e_x33 d_Fi_find_204 ?_
      refine fh_aload_n S d_Fi_find_205 rfl (lv_at hl 0 rfl) ?_
      obtain ⟨x34, e_x34, hf⟩ := fh_b hf
      refine fh_geta S hE.1 hI e_x34 (hc := rfl) (hin := in_4) (by decide) (hts _ k_16) d_Fi_find_206 ?_
      refine lv_iload_n hx hb d_Fi_find_209 rfl (lv_at hl 3 rfl) ?_
      obtain ⟨x35, e_x35, hf⟩ := fh_b hf
      refine fh_iald S hE.1 hI 0 rfl e_x35 d_Fi_find_210 ?_
      refine lv_iadd hx hb d_Fi_find_211 ?_
      refine fh_aload_n S d_Fi_find_212 rfl (lv_at hl 0 rfl) ?_
      obtain ⟨x36, e_x36, hf⟩ := fh_b hf
      refine fh_geta S hE.1 hI e_x36 (hc := rfl) (hin := in_4) (by decide) (hts _ k_16) d_Fi_find_213 ?_
      refine lv_iload hx hb d_Fi_find_216 (lv_at hl 4 rfl) ?_
      obtain ⟨x37, e_x37, hf⟩ := fh_b hf
      refine fh_iald S hE.1 hI 0 rfl e_x37 d_Fi_find_218 ?_
      refine lv_iadd hx hb d_Fi_find_219 ?_
      refine lv_iconst (v := 2) hx hb d_Fi_find_220 (by decide) ?_
      refine fh_aload_n S d_Fi_find_221 rfl (lv_at hl 0 rfl) ?_
      obtain ⟨x38, e_x38, hf⟩ := fh_b hf
      refine fh_geti S hE.1 hI e_x38 (hc := rfl) (hin := in_4) (by decide) (hts _ k_11) d_Fi_find_222 ?_
      refine lv_imul hx hb d_Fi_find_225 ?_
      refine lv_isub hx hb d_Fi_find_226 ?_
      refine lv_i2l hx hb d_Fi_find_227 rfl ?_
      obtain ⟨o39, e_o39, hf⟩ := fh_b hf
      obtain ⟨r40, e_r40, hf⟩ := fh_b hf
      refine fh_callV (As := [.long ((((x26 + x28) + x30) - (2 * x31)).toInt64), .long ((((x33 + x35) + x37) - (2 * x38)).toInt64)]) (rest := []) S fT_good hE hI e_o39 rfl (c_Fi_found e_r40) fy_Fi_found fst_Fi_found k_14 ⟨rfl, rfl⟩ ⟨Nat.le_of_ble_eq_true rfl, Nat.le_of_ble_eq_true rfl⟩ ⟨Nat.zero_le _, Nat.zero_le _⟩ rfl hl.1 rfl (Nat.le_of_ble_eq_true rfl) d_Fi_find_228 (fun H locs hI => ?_)
      refine lv_if_eq (tgt := 238) hx hb d_Fi_find_231 (by decide) (fun c_231 => ?_) (fun c_231 => ?_)
      · replace hf := fh_t c_231 hf
        refine lv_iconst (v := 0) hx hb d_Fi_find_238 (by decide) ?_
        obtain rfl := Option.some.inj hf
        exact fh_iret S hr hk (fh_nb (Or.inl rfl)) hAe hI d_Fi_find_239
      · replace hf := fh_f c_231 hf
        refine lv_iconst (v := 1) hx hb d_Fi_find_234 (by decide) ?_
        refine lv_goto (tgt := 239) hx hb d_Fi_find_235 (by decide) ?_
        obtain rfl := Option.some.inj hf
        exact fh_iret S hr hk (fh_nb (Or.inr rfl)) hAe hI d_Fi_find_239
  replace hf := fh_f c_1_5 hf
  by_cases c_1_6 : a1 = 6
  · replace hf := fh_t c_1_6 hf
    refine lv_tableIn (tgt := 240) hx hb d_Fi_find_1 (by rw [c_1_6]; decide) (by rw [c_1_6]; decide) (off := 239) (by rw [c_1_6]; decide) (by decide) ?_
    refine fh_aload_n S d_Fi_find_240 rfl (lv_at hl 0 rfl) ?_
    refine fh_aload_n S d_Fi_find_241 rfl (lv_at hl 0 rfl) ?_
    obtain ⟨x41, e_x41, hf⟩ := fh_b hf
    refine fh_geta S hE.1 hI e_x41 (hc := rfl) (hin := in_4) (by decide) (hts _ k_15) d_Fi_find_242 ?_
    refine lv_iload_n hx hb d_Fi_find_245 rfl (lv_at hl 2 rfl) ?_
    obtain ⟨x42, e_x42, hf⟩ := fh_b hf
    refine fh_iald S hE.1 hI 0 rfl e_x42 d_Fi_find_246 ?_
    refine fh_aload_n S d_Fi_find_247 rfl (lv_at hl 0 rfl) ?_
    obtain ⟨x43, e_x43, hf⟩ := fh_b hf
    refine fh_geta S hE.1 hI e_x43 (hc := rfl) (hin := in_4) (by decide) (hts _ k_16) d_Fi_find_248 ?_
    refine lv_iload_n hx hb d_Fi_find_251 rfl (lv_at hl 2 rfl) ?_
    obtain ⟨x44, e_x44, hf⟩ := fh_b hf
    refine fh_iald S hE.1 hI 0 rfl e_x44 d_Fi_find_252 ?_
    refine lv_iload_n hx hb d_Fi_find_253 rfl (lv_at hl 3 rfl) ?_
    refine lv_iload hx hb d_Fi_find_254 (lv_at hl 4 rfl) ?_
    obtain ⟨o45, e_o45, hf⟩ := fh_b hf
    obtain ⟨r46, e_r46, hf⟩ := fh_b hf
    refine fh_callV (As := [.int x42, .int x44, .int a3, .int a4]) (rest := []) S fT_good hE hI e_o45 rfl (c_Fi_findFoot e_r46) fy_Fi_findFoot fst_Fi_findFoot k_25 ⟨rfl, rfl⟩ ⟨Nat.le_of_ble_eq_true rfl, Nat.le_of_ble_eq_true rfl⟩ ⟨Nat.zero_le _, Nat.zero_le _⟩ rfl hl.1 rfl (Nat.le_of_ble_eq_true rfl) d_Fi_find_256 (fun H locs hI => ?_)
    refine lv_if_eq (tgt := 301) hx hb d_Fi_find_259 (by decide) (fun c_259 => ?_) (fun c_259 => ?_)
    · replace hf := fh_t c_259 hf
      refine lv_iconst (v := 0) hx hb d_Fi_find_301 (by decide) ?_
      obtain rfl := Option.some.inj hf
      exact fh_iret S hr hk (fh_nb (Or.inl rfl)) hAe hI d_Fi_find_302
    · replace hf := fh_f c_259 hf
      refine fh_aload_n S d_Fi_find_262 rfl (lv_at hl 0 rfl) ?_
      refine lv_iconst (v := 2) hx hb d_Fi_find_263 (by decide) ?_
      refine fh_aload_n S d_Fi_find_264 rfl (lv_at hl 0 rfl) ?_
      obtain ⟨x47, e_x47, hf⟩ := fh_b hf
      refine fh_geti S hE.1 hI e_x47 (hc := rfl) (hin := in_4) (by decide) (hts _ k_10) d_Fi_find_265 ?_
      refine lv_imul hx hb d_Fi_find_268 ?_
      refine fh_aload_n S d_Fi_find_269 rfl (lv_at hl 0 rfl) ?_
      obtain ⟨x48, e_x48, hf⟩ := fh_b hf
      refine fh_geta S hE.1 hI e_x48 (hc := rfl) (hin := in_4) (by decide) (hts _ k_15) d_Fi_find_270 ?_
      refine lv_iload_n hx hb d_Fi_find_273 rfl (lv_at hl 2 rfl) ?_
      obtain ⟨x49, e_x49, hf⟩ := fh_b hf
      refine fh_iald S hE.1 hI 0 rfl e_x49 d_Fi_find_274 ?_
      refine lv_isub hx hb d_Fi_find_275 ?_
      refine lv_i2l hx hb d_Fi_find_276 rfl ?_
      refine lv_iconst (v := 2) hx hb d_Fi_find_277 (by decide) ?_
      refine fh_aload_n S d_Fi_find_278 rfl (lv_at hl 0 rfl) ?_
      obtain ⟨x50, e_x50, hf⟩ := fh_b hf
      refine fh_geti S hE.1 hI e_x50 (hc := rfl) (hin := in_4) (by decide) (hts _ k_11) d_Fi_find_279 ?_
      refine lv_imul hx hb d_Fi_find_282 ?_
      refine fh_aload_n S d_Fi_find_283 rfl (lv_at hl 0 rfl) ?_
      obtain ⟨x51, e_x51, hf⟩ := fh_b hf
      refine fh_geta S hE.1 hI e_x51 (hc := rfl) (hin := in_4) (by decide) (hts _ k_16) d_Fi_find_284 ?_
      refine lv_iload_n hx hb d_Fi_find_287 rfl (lv_at hl 2 rfl) ?_
      obtain ⟨x52, e_x52, hf⟩ := fh_b hf
      refine fh_iald S hE.1 hI 0 rfl e_x52 d_Fi_find_288 ?_
      refine lv_isub hx hb d_Fi_find_289 ?_
      refine lv_i2l hx hb d_Fi_find_290 rfl ?_
      obtain ⟨o53, e_o53, hf⟩ := fh_b hf
      obtain ⟨r54, e_r54, hf⟩ := fh_b hf
      refine fh_callV (As := [.long (((2 * x47) - x49).toInt64), .long (((2 * x50) - x52).toInt64)]) (rest := []) S fT_good hE hI e_o53 rfl (c_Fi_found e_r54) fy_Fi_found fst_Fi_found k_14 ⟨rfl, rfl⟩ ⟨Nat.le_of_ble_eq_true rfl, Nat.le_of_ble_eq_true rfl⟩ ⟨Nat.zero_le _, Nat.zero_le _⟩ rfl hl.1 rfl (Nat.le_of_ble_eq_true rfl) d_Fi_find_291 (fun H locs hI => ?_)
      refine lv_if_eq (tgt := 301) hx hb d_Fi_find_294 (by decide) (fun c_294 => ?_) (fun c_294 => ?_)
      · replace hf := fh_t c_294 hf
        refine lv_iconst (v := 0) hx hb d_Fi_find_301 (by decide) ?_
        obtain rfl := Option.some.inj hf
        exact fh_iret S hr hk (fh_nb (Or.inl rfl)) hAe hI d_Fi_find_302
      · replace hf := fh_f c_294 hf
        refine lv_iconst (v := 1) hx hb d_Fi_find_297 (by decide) ?_
        refine lv_goto (tgt := 302) hx hb d_Fi_find_298 (by decide) ?_
        obtain rfl := Option.some.inj hf
        exact fh_iret S hr hk (fh_nb (Or.inr rfl)) hAe hI d_Fi_find_302
  replace hf := fh_f c_1_6 hf
  by_cases c_1_7 : a1 = 7
  · replace hf := fh_t c_1_7 hf
    refine lv_tableIn (tgt := 303) hx hb d_Fi_find_1 (by rw [c_1_7]; decide) (by rw [c_1_7]; decide) (off := 302) (by rw [c_1_7]; decide) (by decide) ?_
    refine fh_aload_n S d_Fi_find_303 rfl (lv_at hl 0 rfl) ?_
    refine fh_aload_n S d_Fi_find_304 rfl (lv_at hl 0 rfl) ?_
    obtain ⟨x55, e_x55, hf⟩ := fh_b hf
    refine fh_geta S hE.1 hI e_x55 (hc := rfl) (hin := in_4) (by decide) (hts _ k_15) d_Fi_find_305 ?_
    refine lv_iload_n hx hb d_Fi_find_308 rfl (lv_at hl 3 rfl) ?_
    obtain ⟨x56, e_x56, hf⟩ := fh_b hf
    refine fh_iald S hE.1 hI 0 rfl e_x56 d_Fi_find_309 ?_
    refine fh_aload_n S d_Fi_find_310 rfl (lv_at hl 0 rfl) ?_
    obtain ⟨x57, e_x57, hf⟩ := fh_b hf
    refine fh_geta S hE.1 hI e_x57 (hc := rfl) (hin := in_4) (by decide) (hts _ k_16) d_Fi_find_311 ?_
    refine lv_iload_n hx hb d_Fi_find_314 rfl (lv_at hl 2 rfl) ?_
    obtain ⟨x58, e_x58, hf⟩ := fh_b hf
    refine fh_iald S hE.1 hI 0 rfl e_x58 d_Fi_find_315 ?_
    refine fh_aload_n S d_Fi_find_316 rfl (lv_at hl 0 rfl) ?_
    obtain ⟨x59, e_x59, hf⟩ := fh_b hf
    refine fh_geta S hE.1 hI e_x59 (hc := rfl) (hin := in_4) (by decide) (hts _ k_16) d_Fi_find_317 ?_
    refine lv_iload_n hx hb d_Fi_find_320 rfl (lv_at hl 3 rfl) ?_
    obtain ⟨x60, e_x60, hf⟩ := fh_b hf
    refine fh_iald S hE.1 hI 0 rfl e_x60 d_Fi_find_321 ?_
    refine lv_isub hx hb d_Fi_find_322 ?_
    refine lv_isub hx hb d_Fi_find_323 ?_
    refine lv_i2l hx hb d_Fi_find_324 rfl ?_
    refine fh_aload_n S d_Fi_find_325 rfl (lv_at hl 0 rfl) ?_
    obtain ⟨x61, e_x61, hf⟩ := fh_b hf
    refine fh_geta S hE.1 hI e_x61 (hc := rfl) (hin := in_4) (by decide) (hts _ k_16) d_Fi_find_326 ?_
    refine lv_iload_n hx hb d_Fi_find_329 rfl (lv_at hl 3 rfl) ?_
    obtain ⟨x62, e_x62, hf⟩ := fh_b hf
    refine fh_iald S hE.1 hI 0 rfl e_x62 d_Fi_find_330 ?_
    refine fh_aload_n S d_Fi_find_331 rfl (lv_at hl 0 rfl) ?_
    obtain ⟨x63, e_x63, hf⟩ := fh_b hf
    refine fh_geta S hE.1 hI e_x63 (hc := rfl) (hin := in_4) (by decide) (hts _ k_15) d_Fi_find_332 ?_
    refine lv_iload_n hx hb d_Fi_find_335 rfl (lv_at hl 2 rfl) ?_
    obtain ⟨x64, e_x64, hf⟩ := fh_b hf
    refine fh_iald S hE.1 hI 0 rfl e_x64 d_Fi_find_336 ?_
    refine fh_aload_n S d_Fi_find_337 rfl (lv_at hl 0 rfl) ?_
    obtain ⟨x65, e_x65, hf⟩ := fh_b hf
    refine fh_geta S hE.1 hI e_x65 (hc := rfl) (hin := in_4) (by decide) (hts _ k_15) d_Fi_find_338 ?_
    refine lv_iload_n hx hb d_Fi_find_341 rfl (lv_at hl 3 rfl) ?_
    obtain ⟨x66, e_x66, hf⟩ := fh_b hf
    refine fh_iald S hE.1 hI 0 rfl e_x66 d_Fi_find_342 ?_
    refine lv_isub hx hb d_Fi_find_343 ?_
    refine lv_iadd hx hb d_Fi_find_344 ?_
    refine lv_i2l hx hb d_Fi_find_345 rfl ?_
    obtain ⟨o67, e_o67, hf⟩ := fh_b hf
    obtain ⟨r68, e_r68, hf⟩ := fh_b hf
    refine fh_callV (As := [.long ((x56 - (x58 - x60)).toInt64), .long ((x62 + (x64 - x66)).toInt64)]) (rest := []) S fT_good hE hI e_o67 rfl (c_Fi_found e_r68) fy_Fi_found fst_Fi_found k_14 ⟨rfl, rfl⟩ ⟨Nat.le_of_ble_eq_true rfl, Nat.le_of_ble_eq_true rfl⟩ ⟨Nat.zero_le _, Nat.zero_le _⟩ rfl hl.1 rfl (Nat.le_of_ble_eq_true rfl) d_Fi_find_346 (fun H locs hI => ?_)
    obtain ⟨hz, rfl⟩ := fz_s hf
    exact fh_iret S hr hk (fh_nb hz) hAe hI d_Fi_find_349
  replace hf := fh_f c_1_7 hf
  by_cases c_1_8 : a1 = 8
  · replace hf := fh_t c_1_8 hf
    refine lv_tableIn (tgt := 350) hx hb d_Fi_find_1 (by rw [c_1_8]; decide) (by rw [c_1_8]; decide) (off := 349) (by rw [c_1_8]; decide) (by decide) ?_
    refine fh_aload_n S d_Fi_find_350 rfl (lv_at hl 0 rfl) ?_
    refine fh_aload_n S d_Fi_find_351 rfl (lv_at hl 0 rfl) ?_
    obtain ⟨x69, e_x69, hf⟩ := fh_b hf
    refine fh_geta S hE.1 hI e_x69 (hc := rfl) (hin := in_4) (by decide) (hts _ k_15) d_Fi_find_352 ?_
    refine lv_iload_n hx hb d_Fi_find_355 rfl (lv_at hl 2 rfl) ?_
    obtain ⟨x70, e_x70, hf⟩ := fh_b hf
    refine fh_iald S hE.1 hI 0 rfl e_x70 d_Fi_find_356 ?_
    refine fh_aload_n S d_Fi_find_357 rfl (lv_at hl 0 rfl) ?_
    obtain ⟨x71, e_x71, hf⟩ := fh_b hf
    refine fh_geta S hE.1 hI e_x71 (hc := rfl) (hin := in_4) (by decide) (hts _ k_15) d_Fi_find_358 ?_
    refine lv_iload hx hb d_Fi_find_361 (lv_at hl 4 rfl) ?_
    obtain ⟨x72, e_x72, hf⟩ := fh_b hf
    refine fh_iald S hE.1 hI 0 rfl e_x72 d_Fi_find_363 ?_
    refine lv_iadd hx hb d_Fi_find_364 ?_
    refine fh_aload_n S d_Fi_find_365 rfl (lv_at hl 0 rfl) ?_
    obtain ⟨x73, e_x73, hf⟩ := fh_b hf
    refine fh_geta S hE.1 hI e_x73 (hc := rfl) (hin := in_4) (by decide) (hts _ k_15) d_Fi_find_366 ?_
    refine lv_iload_n hx hb d_Fi_find_369 rfl (lv_at hl 3 rfl) ?_
    obtain ⟨x74, e_x74, hf⟩ := fh_b hf
    refine fh_iald S hE.1 hI 0 rfl e_x74 d_Fi_find_370 ?_
    refine lv_isub hx hb d_Fi_find_371 ?_
    refine lv_i2l hx hb d_Fi_find_372 rfl ?_
    refine fh_aload_n S d_Fi_find_373 rfl (lv_at hl 0 rfl) ?_
    obtain ⟨x75, e_x75, hf⟩ := fh_b hf
    refine fh_geta S hE.1 hI e_x75 (hc := rfl) (hin := in_4) (by decide) (hts _ k_16) d_Fi_find_374 ?_
    refine lv_iload_n hx hb d_Fi_find_377 rfl (lv_at hl 2 rfl) ?_
    obtain ⟨x76, e_x76, hf⟩ := fh_b hf
    refine fh_iald S hE.1 hI 0 rfl e_x76 d_Fi_find_378 ?_
    refine fh_aload_n S d_Fi_find_379 rfl (lv_at hl 0 rfl) ?_
    obtain ⟨x77, e_x77, hf⟩ := fh_b hf
    refine fh_geta S hE.1 hI e_x77 (hc := rfl) (hin := in_4) (by decide) (hts _ k_16) d_Fi_find_380 ?_
    refine lv_iload hx hb d_Fi_find_383 (lv_at hl 4 rfl) ?_
    obtain ⟨x78, e_x78, hf⟩ := fh_b hf
    refine fh_iald S hE.1 hI 0 rfl e_x78 d_Fi_find_385 ?_
    refine lv_iadd hx hb d_Fi_find_386 ?_
    refine fh_aload_n S d_Fi_find_387 rfl (lv_at hl 0 rfl) ?_
    obtain ⟨x79, e_x79, hf⟩ := fh_b hf
    refine fh_geta S hE.1 hI e_x79 (hc := rfl) (hin := in_4) (by decide) (hts _ k_16) d_Fi_find_388 ?_
    refine lv_iload_n hx hb d_Fi_find_391 rfl (lv_at hl 3 rfl) ?_
    obtain ⟨x80, e_x80, hf⟩ := fh_b hf
    refine fh_iald S hE.1 hI 0 rfl e_x80 d_Fi_find_392 ?_
    refine lv_isub hx hb d_Fi_find_393 ?_
    refine lv_i2l hx hb d_Fi_find_394 rfl ?_
    obtain ⟨o81, e_o81, hf⟩ := fh_b hf
    obtain ⟨r82, e_r82, hf⟩ := fh_b hf
    refine fh_callV (As := [.long (((x70 + x72) - x74).toInt64), .long (((x76 + x78) - x80).toInt64)]) (rest := []) S fT_good hE hI e_o81 rfl (c_Fi_found e_r82) fy_Fi_found fst_Fi_found k_14 ⟨rfl, rfl⟩ ⟨Nat.le_of_ble_eq_true rfl, Nat.le_of_ble_eq_true rfl⟩ ⟨Nat.zero_le _, Nat.zero_le _⟩ rfl hl.1 rfl (Nat.le_of_ble_eq_true rfl) d_Fi_find_395 (fun H locs hI => ?_)
    obtain ⟨hz, rfl⟩ := fz_s hf
    exact fh_iret S hr hk (fh_nb hz) hAe hI d_Fi_find_398
  replace hf := fh_f c_1_8 hf
  by_cases c_1_9 : a1 = 9
  · replace hf := fh_t c_1_9 hf
    refine lv_tableIn (tgt := 399) hx hb d_Fi_find_1 (by rw [c_1_9]; decide) (by rw [c_1_9]; decide) (off := 398) (by rw [c_1_9]; decide) (by decide) ?_
    refine fh_aload_n S d_Fi_find_399 rfl (lv_at hl 0 rfl) ?_
    refine lv_iload_n hx hb d_Fi_find_400 rfl (lv_at hl 2 rfl) ?_
    refine lv_iload_n hx hb d_Fi_find_401 rfl (lv_at hl 3 rfl) ?_
    refine fh_aload_n S d_Fi_find_402 rfl (lv_at hl 0 rfl) ?_
    obtain ⟨o83, e_o83, hf⟩ := fh_b hf
    obtain ⟨r84, e_r84, hf⟩ := fh_b hf
    refine fh_callV (As := []) (rest := [.int a3, .int a2, va_rf (some o)]) S fT_good hE hI e_o83 rfl (c_Fi_nextNumber e_r84) fy_Fi_nextNumber fst_Fi_nextNumber k_13 ⟨rfl, rfl⟩ ⟨Nat.le_of_ble_eq_true rfl, Nat.le_of_ble_eq_true rfl⟩ ⟨Nat.zero_le _, Nat.zero_le _⟩ rfl hl.1 rfl (Nat.le_of_ble_eq_true rfl) d_Fi_find_403 (fun H locs hI => ?_)
    obtain ⟨o85, e_o85, hf⟩ := fh_b hf
    obtain ⟨r86, e_r86, hf⟩ := fh_b hf
    refine fh_callV (As := [.int a2, .int a3, .long r84.1]) (rest := []) S fT_good hE hI e_o85 rfl (c_Fi_findAlong e_r86) fy_Fi_findAlong fst_Fi_findAlong k_20 ⟨rfl, rfl⟩ ⟨Nat.le_of_ble_eq_true rfl, Nat.le_of_ble_eq_true rfl⟩ ⟨Nat.zero_le _, Nat.zero_le _⟩ rfl hl.1 rfl (Nat.le_of_ble_eq_true rfl) d_Fi_find_406 (fun H locs hI => ?_)
    obtain ⟨hz, rfl⟩ := fz_s hf
    exact fh_iret S hr hk (fh_nb hz) hAe hI d_Fi_find_409
  replace hf := fh_f c_1_9 hf
  by_cases c_1_10 : a1 = 10
  · replace hf := fh_t c_1_10 hf
    refine lv_tableIn (tgt := 410) hx hb d_Fi_find_1 (by rw [c_1_10]; decide) (by rw [c_1_10]; decide) (off := 409) (by rw [c_1_10]; decide) (by decide) ?_
    refine fh_aload_n S d_Fi_find_410 rfl (lv_at hl 0 rfl) ?_
    refine lv_iload_n hx hb d_Fi_find_411 rfl (lv_at hl 2 rfl) ?_
    refine lv_iload_n hx hb d_Fi_find_412 rfl (lv_at hl 3 rfl) ?_
    refine fh_aload_n S d_Fi_find_413 rfl (lv_at hl 0 rfl) ?_
    obtain ⟨o87, e_o87, hf⟩ := fh_b hf
    obtain ⟨r88, e_r88, hf⟩ := fh_b hf
    refine fh_callV (As := []) (rest := [.int a3, .int a2, va_rf (some o)]) S fT_good hE hI e_o87 rfl (c_Fi_nextNumber e_r88) fy_Fi_nextNumber fst_Fi_nextNumber k_13 ⟨rfl, rfl⟩ ⟨Nat.le_of_ble_eq_true rfl, Nat.le_of_ble_eq_true rfl⟩ ⟨Nat.zero_le _, Nat.zero_le _⟩ rfl hl.1 rfl (Nat.le_of_ble_eq_true rfl) d_Fi_find_414 (fun H locs hI => ?_)
    obtain ⟨o89, e_o89, hf⟩ := fh_b hf
    obtain ⟨r90, e_r90, hf⟩ := fh_b hf
    refine fh_callV (As := [.int a2, .int a3, .long r88.1]) (rest := []) S fT_good hE hI e_o89 rfl (c_Fi_findOnCircle e_r90) fy_Fi_findOnCircle fst_Fi_findOnCircle k_26 ⟨rfl, rfl⟩ ⟨Nat.le_of_ble_eq_true rfl, Nat.le_of_ble_eq_true rfl⟩ ⟨Nat.zero_le _, Nat.zero_le _⟩ rfl hl.1 rfl (Nat.le_of_ble_eq_true rfl) d_Fi_find_417 (fun H locs hI => ?_)
    obtain ⟨hz, rfl⟩ := fz_s hf
    exact fh_iret S hr hk (fh_nb hz) hAe hI d_Fi_find_420
  replace hf := fh_f c_1_10 hf
  by_cases c_1_11 : a1 = 11
  · replace hf := fh_t c_1_11 hf
    refine lv_tableIn (tgt := 421) hx hb d_Fi_find_1 (by rw [c_1_11]; decide) (by rw [c_1_11]; decide) (off := 420) (by rw [c_1_11]; decide) (by decide) ?_
    refine fh_aload_n S d_Fi_find_421 rfl (lv_at hl 0 rfl) ?_
    refine lv_iload_n hx hb d_Fi_find_422 rfl (lv_at hl 2 rfl) ?_
    refine lv_iload hx hb d_Fi_find_423 (lv_at hl 4 rfl) ?_
    refine lv_iload hx hb d_Fi_find_425 (lv_at hl 5 rfl) ?_
    obtain ⟨o91, e_o91, hf⟩ := fh_b hf
    obtain ⟨r92, e_r92, hf⟩ := fh_b hf
    refine fh_callV (As := [.int a2, .int a4, .int a5]) (rest := []) S fT_good hE hI e_o91 rfl (c_Fi_findCentre e_r92) fy_Fi_findCentre fst_Fi_findCentre k_24 ⟨rfl, rfl⟩ ⟨Nat.le_of_ble_eq_true rfl, Nat.le_of_ble_eq_true rfl⟩ ⟨Nat.zero_le _, Nat.zero_le _⟩ rfl hl.1 rfl (Nat.le_of_ble_eq_true rfl) d_Fi_find_427 (fun H locs hI => ?_)
    refine lv_if_eq (tgt := 489) hx hb d_Fi_find_430 (by decide) (fun c_430 => ?_) (fun c_430 => ?_)
    · replace hf := fh_t c_430 hf
      refine lv_iconst (v := 0) hx hb d_Fi_find_489 (by decide) ?_
      obtain rfl := Option.some.inj hf
      exact fh_iret S hr hk (fh_nb (Or.inl rfl)) hAe hI d_Fi_find_490
    · replace hf := fh_f c_430 hf
      refine fh_aload_n S d_Fi_find_433 rfl (lv_at hl 0 rfl) ?_
      refine fh_aload_n S d_Fi_find_434 rfl (lv_at hl 0 rfl) ?_
      obtain ⟨x93, e_x93, hf⟩ := fh_b hf
      refine fh_geti S hE.1 hI e_x93 (hc := rfl) (hin := in_4) (by decide) (hts _ k_10) d_Fi_find_435 ?_
      refine fh_aload_n S d_Fi_find_438 rfl (lv_at hl 0 rfl) ?_
      obtain ⟨x94, e_x94, hf⟩ := fh_b hf
      refine fh_geti S hE.1 hI e_x94 (hc := rfl) (hin := in_4) (by decide) (hts _ k_11) d_Fi_find_439 ?_
      refine lv_iload_n hx hb d_Fi_find_442 rfl (lv_at hl 2 rfl) ?_
      refine lv_iload_n hx hb d_Fi_find_443 rfl (lv_at hl 3 rfl) ?_
      obtain ⟨o95, e_o95, hf⟩ := fh_b hf
      obtain ⟨r96, e_r96, hf⟩ := fh_b hf
      refine fh_callV (As := [.int x93, .int x94, .int a2, .int a3]) (rest := []) S fT_good hE hI e_o95 rfl (c_Fi_findFoot e_r96) fy_Fi_findFoot fst_Fi_findFoot k_25 ⟨rfl, rfl⟩ ⟨Nat.le_of_ble_eq_true rfl, Nat.le_of_ble_eq_true rfl⟩ ⟨Nat.zero_le _, Nat.zero_le _⟩ rfl hl.1 rfl (Nat.le_of_ble_eq_true rfl) d_Fi_find_444 (fun H locs hI => ?_)
      refine lv_if_eq (tgt := 489) hx hb d_Fi_find_447 (by decide) (fun c_447 => ?_) (fun c_447 => ?_)
      · replace hf := fh_t c_447 hf
        refine lv_iconst (v := 0) hx hb d_Fi_find_489 (by decide) ?_
        obtain rfl := Option.some.inj hf
        exact fh_iret S hr hk (fh_nb (Or.inl rfl)) hAe hI d_Fi_find_490
      · replace hf := fh_f c_447 hf
        refine fh_aload_n S d_Fi_find_450 rfl (lv_at hl 0 rfl) ?_
        refine lv_iconst (v := 2) hx hb d_Fi_find_451 (by decide) ?_
        refine fh_aload_n S d_Fi_find_452 rfl (lv_at hl 0 rfl) ?_
        obtain ⟨x97, e_x97, hf⟩ := fh_b hf
        refine fh_geti S hE.1 hI e_x97 (hc := rfl) (hin := in_4) (by decide) (hts _ k_10) d_Fi_find_453 ?_
        refine lv_imul hx hb d_Fi_find_456 ?_
        refine fh_aload_n S d_Fi_find_457 rfl (lv_at hl 0 rfl) ?_
        obtain ⟨x98, e_x98, hf⟩ := fh_b hf
        refine fh_geta S hE.1 hI e_x98 (hc := rfl) (hin := in_4) (by decide) (hts _ k_15) d_Fi_find_458 ?_
        refine lv_iload_n hx hb d_Fi_find_461 rfl (lv_at hl 2 rfl) ?_
        obtain ⟨x99, e_x99, hf⟩ := fh_b hf
        refine fh_iald S hE.1 hI 0 rfl e_x99 d_Fi_find_462 ?_
        refine lv_isub hx hb d_Fi_find_463 ?_
        refine lv_i2l hx hb d_Fi_find_464 rfl ?_
        refine lv_iconst (v := 2) hx hb d_Fi_find_465 (by decide) ?_
        refine fh_aload_n S d_Fi_find_466 rfl (lv_at hl 0 rfl) ?_
        obtain ⟨x100, e_x100, hf⟩ := fh_b hf
        refine fh_geti S hE.1 hI e_x100 (hc := rfl) (hin := in_4) (by decide) (hts _ k_11) d_Fi_find_467 ?_
        refine lv_imul hx hb d_Fi_find_470 ?_
        refine fh_aload_n S d_Fi_find_471 rfl (lv_at hl 0 rfl) ?_
        obtain ⟨x101, e_x101, hf⟩ := fh_b hf
        refine fh_geta S hE.1 hI e_x101 (hc := rfl) (hin := in_4) (by decide) (hts _ k_16) d_Fi_find_472 ?_
        refine lv_iload_n hx hb d_Fi_find_475 rfl (lv_at hl 2 rfl) ?_
        obtain ⟨x102, e_x102, hf⟩ := fh_b hf
        refine fh_iald S hE.1 hI 0 rfl e_x102 d_Fi_find_476 ?_
        refine lv_isub hx hb d_Fi_find_477 ?_
        refine lv_i2l hx hb d_Fi_find_478 rfl ?_
        obtain ⟨o103, e_o103, hf⟩ := fh_b hf
        obtain ⟨r104, e_r104, hf⟩ := fh_b hf
        refine fh_callV (As := [.long (((2 * x97) - x99).toInt64), .long (((2 * x100) - x102).toInt64)]) (rest := []) S fT_good hE hI e_o103 rfl (c_Fi_found e_r104) fy_Fi_found fst_Fi_found k_14 ⟨rfl, rfl⟩ ⟨Nat.le_of_ble_eq_true rfl, Nat.le_of_ble_eq_true rfl⟩ ⟨Nat.zero_le _, Nat.zero_le _⟩ rfl hl.1 rfl (Nat.le_of_ble_eq_true rfl) d_Fi_find_479 (fun H locs hI => ?_)
        refine lv_if_eq (tgt := 489) hx hb d_Fi_find_482 (by decide) (fun c_482 => ?_) (fun c_482 => ?_)
        · replace hf := fh_t c_482 hf
          refine lv_iconst (v := 0) hx hb d_Fi_find_489 (by decide) ?_
          obtain rfl := Option.some.inj hf
          exact fh_iret S hr hk (fh_nb (Or.inl rfl)) hAe hI d_Fi_find_490
        · replace hf := fh_f c_482 hf
          refine lv_iconst (v := 1) hx hb d_Fi_find_485 (by decide) ?_
          refine lv_goto (tgt := 490) hx hb d_Fi_find_486 (by decide) ?_
          obtain rfl := Option.some.inj hf
          exact fh_iret S hr hk (fh_nb (Or.inr rfl)) hAe hI d_Fi_find_490
  replace hf := fh_f c_1_11 hf
  by_cases c_1_12 : a1 = 12
  · replace hf := fh_t c_1_12 hf
    refine lv_tableIn (tgt := 491) hx hb d_Fi_find_1 (by rw [c_1_12]; decide) (by rw [c_1_12]; decide) (off := 490) (by rw [c_1_12]; decide) (by decide) ?_
    refine fh_aload_n S d_Fi_find_491 rfl (lv_at hl 0 rfl) ?_
    refine fh_aload_n S d_Fi_find_492 rfl (lv_at hl 0 rfl) ?_
    obtain ⟨x105, e_x105, hf⟩ := fh_b hf
    refine fh_geta S hE.1 hI e_x105 (hc := rfl) (hin := in_4) (by decide) (hts _ k_15) d_Fi_find_493 ?_
    refine lv_iload_n hx hb d_Fi_find_496 rfl (lv_at hl 2 rfl) ?_
    obtain ⟨x106, e_x106, hf⟩ := fh_b hf
    refine fh_iald S hE.1 hI 0 rfl e_x106 d_Fi_find_497 ?_
    refine fh_aload_n S d_Fi_find_498 rfl (lv_at hl 0 rfl) ?_
    obtain ⟨x107, e_x107, hf⟩ := fh_b hf
    refine fh_geta S hE.1 hI e_x107 (hc := rfl) (hin := in_4) (by decide) (hts _ k_15) d_Fi_find_499 ?_
    refine lv_iload_n hx hb d_Fi_find_502 rfl (lv_at hl 3 rfl) ?_
    obtain ⟨x108, e_x108, hf⟩ := fh_b hf
    refine fh_iald S hE.1 hI 0 rfl e_x108 d_Fi_find_503 ?_
    refine lv_iadd hx hb d_Fi_find_504 ?_
    refine fh_aload_n S d_Fi_find_505 rfl (lv_at hl 0 rfl) ?_
    obtain ⟨x109, e_x109, hf⟩ := fh_b hf
    refine fh_geta S hE.1 hI e_x109 (hc := rfl) (hin := in_4) (by decide) (hts _ k_15) d_Fi_find_506 ?_
    refine lv_iload hx hb d_Fi_find_509 (lv_at hl 4 rfl) ?_
    obtain ⟨x110, e_x110, hf⟩ := fh_b hf
    refine fh_iald S hE.1 hI 0 rfl e_x110 d_Fi_find_511 ?_
    refine lv_iadd hx hb d_Fi_find_512 ?_
    refine lv_i2l hx hb d_Fi_find_513 rfl ?_
    refine lv_ldc2 hx hb hown (hts _ k_30) d_Fi_find_514 ?_
    refine lv_lmul hx hb d_Fi_find_517 ?_
    refine fh_aload_n S d_Fi_find_518 rfl (lv_at hl 0 rfl) ?_
    obtain ⟨x111, e_x111, hf⟩ := fh_b hf
    refine fh_geta S hE.1 hI e_x111 (hc := rfl) (hin := in_4) (by decide) (hts _ k_16) d_Fi_find_519 ?_
    refine lv_iload_n hx hb d_Fi_find_522 rfl (lv_at hl 2 rfl) ?_
    obtain ⟨x112, e_x112, hf⟩ := fh_b hf
    refine fh_iald S hE.1 hI 0 rfl e_x112 d_Fi_find_523 ?_
    refine fh_aload_n S d_Fi_find_524 rfl (lv_at hl 0 rfl) ?_
    obtain ⟨x113, e_x113, hf⟩ := fh_b hf
    refine fh_geta S hE.1 hI e_x113 (hc := rfl) (hin := in_4) (by decide) (hts _ k_16) d_Fi_find_525 ?_
    refine lv_iload_n hx hb d_Fi_find_528 rfl (lv_at hl 3 rfl) ?_
    obtain ⟨x114, e_x114, hf⟩ := fh_b hf
    refine fh_iald S hE.1 hI 0 rfl e_x114 d_Fi_find_529 ?_
    refine lv_iadd hx hb d_Fi_find_530 ?_
    refine fh_aload_n S d_Fi_find_531 rfl (lv_at hl 0 rfl) ?_
    obtain ⟨x115, e_x115, hf⟩ := fh_b hf
    refine fh_geta S hE.1 hI e_x115 (hc := rfl) (hin := in_4) (by decide) (hts _ k_16) d_Fi_find_532 ?_
    refine lv_iload hx hb d_Fi_find_535 (lv_at hl 4 rfl) ?_
    obtain ⟨x116, e_x116, hf⟩ := fh_b hf
    refine fh_iald S hE.1 hI 0 rfl e_x116 d_Fi_find_537 ?_
    refine lv_iadd hx hb d_Fi_find_538 ?_
    refine lv_i2l hx hb d_Fi_find_539 rfl ?_
    refine lv_ldc2 hx hb hown (hts _ k_30) d_Fi_find_540 ?_
    refine lv_lmul hx hb d_Fi_find_543 ?_
    obtain ⟨o117, e_o117, hf⟩ := fh_b hf
    obtain ⟨r118, e_r118, hf⟩ := fh_b hf
    refine fh_callV (As := [.long ((((x106 + x108) + x110).toInt64) * 666669), .long ((((x112 + x114) + x116).toInt64) * 666669)]) (rest := []) S fT_good hE hI e_o117 rfl (c_Fi_found e_r118) fy_Fi_found fst_Fi_found k_14 ⟨rfl, rfl⟩ ⟨Nat.le_of_ble_eq_true rfl, Nat.le_of_ble_eq_true rfl⟩ ⟨Nat.zero_le _, Nat.zero_le _⟩ rfl hl.1 rfl (Nat.le_of_ble_eq_true rfl) d_Fi_find_544 (fun H locs hI => ?_)
    obtain ⟨hz, rfl⟩ := fz_s hf
    exact fh_iret S hr hk (fh_nb hz) hAe hI d_Fi_find_547
  replace hf := fh_f c_1_12 hf
  by_cases c_1_13 : a1 = 13
  · replace hf := fh_t c_1_13 hf
    refine lv_tableIn (tgt := 548) hx hb d_Fi_find_1 (by rw [c_1_13]; decide) (by rw [c_1_13]; decide) (off := 547) (by rw [c_1_13]; decide) (by decide) ?_
    refine fh_aload_n S d_Fi_find_548 rfl (lv_at hl 0 rfl) ?_
    refine lv_iload_n hx hb d_Fi_find_549 rfl (lv_at hl 2 rfl) ?_
    refine lv_iload_n hx hb d_Fi_find_550 rfl (lv_at hl 3 rfl) ?_
    refine lv_iload hx hb d_Fi_find_551 (lv_at hl 4 rfl) ?_
    obtain ⟨o119, e_o119, hf⟩ := fh_b hf
    obtain ⟨r120, e_r120, hf⟩ := fh_b hf
    refine fh_callV (As := [.int a2, .int a3, .int a4]) (rest := []) S fT_good hE hI e_o119 rfl (c_Fi_findTurnedOut e_r120) fy_Fi_findTurnedOut fst_Fi_findTurnedOut k_23 ⟨rfl, rfl⟩ ⟨Nat.le_of_ble_eq_true rfl, Nat.le_of_ble_eq_true rfl⟩ ⟨Nat.zero_le _, Nat.zero_le _⟩ rfl hl.1 rfl (Nat.le_of_ble_eq_true rfl) d_Fi_find_553 (fun H locs hI => ?_)
    obtain ⟨hz, rfl⟩ := fz_s hf
    exact fh_iret S hr hk (fh_nb hz) hAe hI d_Fi_find_556
  replace hf := fh_f c_1_13 hf
  have c_1 : a1.toInt < 0 ∨ 13 < a1.toInt := by
    have q0 : a1.toInt ≠ 0 := fun q => c_1_0 (Int32.toInt_inj.mp (q.trans (by decide)))
    have q1 : a1.toInt ≠ 1 := fun q => c_1_1 (Int32.toInt_inj.mp (q.trans (by decide)))
    have q2 : a1.toInt ≠ 2 := fun q => c_1_2 (Int32.toInt_inj.mp (q.trans (by decide)))
    have q3 : a1.toInt ≠ 3 := fun q => c_1_3 (Int32.toInt_inj.mp (q.trans (by decide)))
    have q4 : a1.toInt ≠ 4 := fun q => c_1_4 (Int32.toInt_inj.mp (q.trans (by decide)))
    have q5 : a1.toInt ≠ 5 := fun q => c_1_5 (Int32.toInt_inj.mp (q.trans (by decide)))
    have q6 : a1.toInt ≠ 6 := fun q => c_1_6 (Int32.toInt_inj.mp (q.trans (by decide)))
    have q7 : a1.toInt ≠ 7 := fun q => c_1_7 (Int32.toInt_inj.mp (q.trans (by decide)))
    have q8 : a1.toInt ≠ 8 := fun q => c_1_8 (Int32.toInt_inj.mp (q.trans (by decide)))
    have q9 : a1.toInt ≠ 9 := fun q => c_1_9 (Int32.toInt_inj.mp (q.trans (by decide)))
    have q10 : a1.toInt ≠ 10 := fun q => c_1_10 (Int32.toInt_inj.mp (q.trans (by decide)))
    have q11 : a1.toInt ≠ 11 := fun q => c_1_11 (Int32.toInt_inj.mp (q.trans (by decide)))
    have q12 : a1.toInt ≠ 12 := fun q => c_1_12 (Int32.toInt_inj.mp (q.trans (by decide)))
    have q13 : a1.toInt ≠ 13 := fun q => c_1_13 (Int32.toInt_inj.mp (q.trans (by decide)))
    omega
  refine lv_tableOut (tgt := 557) hx hb d_Fi_find_1 c_1 (by decide) ?_
  refine lv_iconst (v := 0) hx hb d_Fi_find_557 (by decide) ?_
  obtain rfl := Option.some.inj hf
  exact fh_iret S hr hk (fh_nb (Or.inl rfl)) hAe hI d_Fi_find_558
theorem d_Fi_goOn_0 : decode c0_Fi_goOn 0 = .ok (.aload_n 0, 1) := by decide +kernel
theorem d_Fi_goOn_1 : decode c0_Fi_goOn 1 = .ok (.getfield 26, 3) := by decide +kernel
theorem d_Fi_goOn_4 : decode c0_Fi_goOn 4 = .ok (.istore_n 3, 1) := by decide +kernel
theorem d_Fi_goOn_5 : decode c0_Fi_goOn 5 = .ok (.iload_n 3, 1) := by decide +kernel
theorem d_Fi_goOn_6 : decode c0_Fi_goOn 6 = .ok (.aload_n 1, 1) := by decide +kernel
theorem d_Fi_goOn_7 : decode c0_Fi_goOn 7 = .ok (.getfield 29, 3) := by decide +kernel
theorem d_Fi_goOn_10 : decode c0_Fi_goOn 10 = .ok (.if_icmp .ge 102, 3) := by decide +kernel
theorem d_Fi_goOn_13 : decode c0_Fi_goOn 13 = .ok (.aload_n 0, 1) := by decide +kernel
theorem d_Fi_goOn_14 : decode c0_Fi_goOn 14 = .ok (.getfield 18, 3) := by decide +kernel
theorem d_Fi_goOn_17 : decode c0_Fi_goOn 17 = .ok (.iconst (-1), 1) := by decide +kernel
theorem d_Fi_goOn_18 : decode c0_Fi_goOn 18 = .ok (.if_icmp .ne 94, 3) := by decide +kernel
theorem d_Fi_goOn_21 : decode c0_Fi_goOn 21 = .ok (.iload_n 3, 1) := by decide +kernel
theorem d_Fi_goOn_22 : decode c0_Fi_goOn 22 = .ok (.iload_n 2, 1) := by decide +kernel
theorem d_Fi_goOn_23 : decode c0_Fi_goOn 23 = .ok (.if_icmp .ne 7, 3) := by decide +kernel
theorem d_Fi_goOn_26 : decode c0_Fi_goOn 26 = .ok (.iconst 0, 1) := by decide +kernel
theorem d_Fi_goOn_27 : decode c0_Fi_goOn 27 = .ok (.goto 9, 3) := by decide +kernel
theorem d_Fi_goOn_30 : decode c0_Fi_goOn 30 = .ok (.aload_n 1, 1) := by decide +kernel
theorem d_Fi_goOn_31 : decode c0_Fi_goOn 31 = .ok (.getfield 34, 3) := by decide +kernel
theorem d_Fi_goOn_34 : decode c0_Fi_goOn 34 = .ok (.iload_n 3, 1) := by decide +kernel
theorem d_Fi_goOn_35 : decode c0_Fi_goOn 35 = .ok (.iaload, 1) := by decide +kernel
theorem d_Fi_goOn_36 : decode c0_Fi_goOn 36 = .ok (.istore 4, 2) := by decide +kernel
theorem d_Fi_goOn_38 : decode c0_Fi_goOn 38 = .ok (.aload_n 0, 1) := by decide +kernel
theorem d_Fi_goOn_39 : decode c0_Fi_goOn 39 = .ok (.iload 4, 2) := by decide +kernel
theorem d_Fi_goOn_41 : decode c0_Fi_goOn 41 = .ok (.aload_n 1, 1) := by decide +kernel
theorem d_Fi_goOn_42 : decode c0_Fi_goOn 42 = .ok (.iload_n 3, 1) := by decide +kernel
theorem d_Fi_goOn_43 : decode c0_Fi_goOn 43 = .ok (.iconst 0, 1) := by decide +kernel
theorem d_Fi_goOn_44 : decode c0_Fi_goOn 44 = .ok (.invokevirtual 37, 3) := by decide +kernel
theorem d_Fi_goOn_47 : decode c0_Fi_goOn 47 = .ok (.aload_n 1, 1) := by decide +kernel
theorem d_Fi_goOn_48 : decode c0_Fi_goOn 48 = .ok (.iload_n 3, 1) := by decide +kernel
theorem d_Fi_goOn_49 : decode c0_Fi_goOn 49 = .ok (.iconst 1, 1) := by decide +kernel
theorem d_Fi_goOn_50 : decode c0_Fi_goOn 50 = .ok (.invokevirtual 37, 3) := by decide +kernel
theorem d_Fi_goOn_53 : decode c0_Fi_goOn 53 = .ok (.aload_n 1, 1) := by decide +kernel
theorem d_Fi_goOn_54 : decode c0_Fi_goOn 54 = .ok (.iload_n 3, 1) := by decide +kernel
theorem d_Fi_goOn_55 : decode c0_Fi_goOn 55 = .ok (.iconst 2, 1) := by decide +kernel
theorem d_Fi_goOn_56 : decode c0_Fi_goOn 56 = .ok (.invokevirtual 37, 3) := by decide +kernel
theorem d_Fi_goOn_59 : decode c0_Fi_goOn 59 = .ok (.aload_n 1, 1) := by decide +kernel
theorem d_Fi_goOn_60 : decode c0_Fi_goOn 60 = .ok (.iload_n 3, 1) := by decide +kernel
theorem d_Fi_goOn_61 : decode c0_Fi_goOn 61 = .ok (.iconst 3, 1) := by decide +kernel
theorem d_Fi_goOn_62 : decode c0_Fi_goOn 62 = .ok (.invokevirtual 37, 3) := by decide +kernel
theorem d_Fi_goOn_65 : decode c0_Fi_goOn 65 = .ok (.invokevirtual 41, 3) := by decide +kernel
theorem d_Fi_goOn_68 : decode c0_Fi_goOn 68 = .ok (.ifCond .eq 33, 3) := by decide +kernel
theorem d_Fi_goOn_71 : decode c0_Fi_goOn 71 = .ok (.aload_n 0, 1) := by decide +kernel
theorem d_Fi_goOn_72 : decode c0_Fi_goOn 72 = .ok (.getfield 9, 3) := by decide +kernel
theorem d_Fi_goOn_75 : decode c0_Fi_goOn 75 = .ok (.iload_n 3, 1) := by decide +kernel
theorem d_Fi_goOn_76 : decode c0_Fi_goOn 76 = .ok (.aload_n 0, 1) := by decide +kernel
theorem d_Fi_goOn_77 : decode c0_Fi_goOn 77 = .ok (.getfield 45, 3) := by decide +kernel
theorem d_Fi_goOn_80 : decode c0_Fi_goOn 80 = .ok (.iastore, 1) := by decide +kernel
theorem d_Fi_goOn_81 : decode c0_Fi_goOn 81 = .ok (.aload_n 0, 1) := by decide +kernel
theorem d_Fi_goOn_82 : decode c0_Fi_goOn 82 = .ok (.getfield 15, 3) := by decide +kernel
theorem d_Fi_goOn_85 : decode c0_Fi_goOn 85 = .ok (.iload_n 3, 1) := by decide +kernel
theorem d_Fi_goOn_86 : decode c0_Fi_goOn 86 = .ok (.aload_n 0, 1) := by decide +kernel
theorem d_Fi_goOn_87 : decode c0_Fi_goOn 87 = .ok (.getfield 48, 3) := by decide +kernel
theorem d_Fi_goOn_90 : decode c0_Fi_goOn 90 = .ok (.iastore, 1) := by decide +kernel
theorem d_Fi_goOn_91 : decode c0_Fi_goOn 91 = .ok (.aload_n 0, 1) := by decide +kernel
theorem d_Fi_goOn_92 : decode c0_Fi_goOn 92 = .ok (.iload_n 3, 1) := by decide +kernel
theorem d_Fi_goOn_93 : decode c0_Fi_goOn 93 = .ok (.iconst 1, 1) := by decide +kernel
theorem d_Fi_goOn_94 : decode c0_Fi_goOn 94 = .ok (.iadd, 1) := by decide +kernel
theorem d_Fi_goOn_95 : decode c0_Fi_goOn 95 = .ok (.putfield 26, 3) := by decide +kernel
theorem d_Fi_goOn_98 : decode c0_Fi_goOn 98 = .ok (.goto 8, 3) := by decide +kernel
theorem d_Fi_goOn_101 : decode c0_Fi_goOn 101 = .ok (.aload_n 0, 1) := by decide +kernel
theorem d_Fi_goOn_102 : decode c0_Fi_goOn 102 = .ok (.iload_n 3, 1) := by decide +kernel
theorem d_Fi_goOn_103 : decode c0_Fi_goOn 103 = .ok (.putfield 18, 3) := by decide +kernel
theorem d_Fi_goOn_106 : decode c0_Fi_goOn 106 = .ok (.iinc 3 1, 3) := by decide +kernel
theorem d_Fi_goOn_109 : decode c0_Fi_goOn 109 = .ok (.goto (-104), 3) := by decide +kernel
theorem d_Fi_goOn_112 : decode c0_Fi_goOn 112 = .ok (.return_, 1) := by decide +kernel
def b_Fi_goOn_106 (K : Nat → ClassId) (N : Nat) (k5 : Option Nat → Int32 → Int32 → fh_H → Option (fh_H)) (o : Nat) (v1 : Option Nat) (v2 : Int32) (v3 : Int32) (h : fh_H) : Option (fh_H) :=
  (some (v3 + 1)).bind fun x1 => k5 v1 v2 x1 h
def b_Fi_goOn_36 (K : Nat → ClassId) (N : Nat) (k5 : Option Nat → Int32 → Int32 → fh_H → Option (fh_H)) (o : Nat) (v1 : Option Nat) (v2 : Int32) (v3 : Int32) (w0 : Int32) (h : fh_H) : Option (fh_H) :=
  (fg_o h v1 1).bind fun o1 => (f_Pl_from K N o1 v3 0 h).bind fun r2 => (fg_o r2.2 v1 1).bind fun o3 => (f_Pl_from K N o3 v3 1 r2.2).bind fun r4 => (fg_o r4.2 v1 1).bind fun o5 => (f_Pl_from K N o5 v3 2 r4.2).bind fun r6 => (fg_o r6.2 v1 1).bind fun o7 => (f_Pl_from K N o7 v3 3 r6.2).bind fun r8 => (fg_o r8.2 (some o) 4).bind fun o9 => (f_Fi_find K N o9 w0 r2.1 r4.1 r6.1 r8.1 r8.2).bind fun r10 => if r10.1 = 0 then ((fp_v r10.2 (some o) 4 3 (.int v3)).bind fun h11 => b_Fi_goOn_106 K N k5 o v1 v2 v3 h11) else ((fg_a r10.2 (some o) 4 0).bind fun x12 => (fg_i r10.2 (some o) 4 5).bind fun x13 => (fs_i (K 0) r10.2 x12 v3 x13).bind fun h14 => (fg_a h14 (some o) 4 1).bind fun x15 => (fg_i h14 (some o) 4 6).bind fun x16 => (fs_i (K 0) h14 x15 v3 x16).bind fun h17 => (fp_v h17 (some o) 4 2 (.int (v3 + 1))).bind fun h18 => b_Fi_goOn_106 K N k5 o v1 v2 v3 h18)
def b_Fi_goOn_5 (K : Nat → ClassId) (N : Nat) (k5 : Option Nat → Int32 → Int32 → fh_H → Option (fh_H)) (o : Nat) (v1 : Option Nat) (v2 : Int32) (v3 : Int32) (h : fh_H) : Option (fh_H) :=
  (fg_i h v1 1 2).bind fun x1 => if x1 ≤ v3 then (some h) else ((fg_i h (some o) 4 3).bind fun x2 => if x2 = (-1) then (if v3 = v2 then (b_Fi_goOn_36 K N k5 o v1 v2 v3 0 h) else ((fg_a h v1 1 0).bind fun x3 => (fa_i (K 0) h x3 v3).bind fun x4 => b_Fi_goOn_36 K N k5 o v1 v2 v3 x4 h)) else (some h))
def l_Fi_goOn_5 (K : Nat → ClassId) (N : Nat) (o : Nat) : Nat → Option Nat → Int32 → Int32 → fh_H → Option (fh_H)
  | 0, _, _, _, _ => none
  | n + 1, v1, v2, v3, h => b_Fi_goOn_5 K N (l_Fi_goOn_5 K N o n) o v1 v2 v3 h
def f_Fi_goOn (K : Nat → ClassId) (N : Nat) (o : Nat) (a1 : Option Nat) (a2 : Int32) (h0 : fh_H) : Option (fh_H) :=
  (fg_i h0 (some o) 4 2).bind fun x1 => l_Fi_goOn_5 K N o N a1 a2 x1 h0
set_option maxHeartbeats 4000000 in
set_option maxRecDepth 100000 in
theorem c_Fi_goOn {l : Launch} {D : va_G} {K : Nat → ClassId} {t : Nat → Nat} {N : Nat} {o : Nat} {a1 : Option Nat} {a2 : Int32} {h0 : fh_H} {res : fh_H} (hf : f_Fi_goOn K N o a1 a2 h0 = some res) : fC l D K t y_Fi_goOn c0_Fi_goOn 5 none rm_Fi_goOn [.ref o, va_rf a1, .int a2] h0 (none) res := by
  refine fh_body (by decide) (by cases a1 <;> exact Nat.le_of_ble_eq_true rfl) ?_
  intro p e s m below meth c A ls S hr hk hnm hE hAe hI hl
  obtain ⟨hx, hb, hml, hown, hts⟩ := id S
  have hl : lv_has ls 5 [(0, va_rf (some o)), (1, va_rf a1), (2, .int a2)] := by cases a1 <;> exact hl
  have L5 : ∀ (n5 : Nat) (v1 : Option Nat) (v2 : Int32) (v3 : Int32) (h : fh_H) (H : Heap) (locs : List Loc) (ls : Array Slot), lv_has ls 5 [(0, va_rf (some o)), (1, va_rf v1), (2, .int v2), (3, .int v3)] → fh_I D classes A s.heap h H locs → l_Fi_goOn_5 K N o n5 v1 v2 v3 h = some res → W p l e rm_Fi_goOn s m [.ref o, va_rf a1, .int a2].toArray below meth c H locs 0 0 (MQ below (fh_Q D classes h0 s.heap.size (none) res) [.ref o, va_rf a1, .int a2].toArray s 0 0 A) (F0 m 5 ls []) := by
    intro n5
    induction n5 with
    | zero =>
      intro v1 v2 v3 h H locs ls hl hI hf
      exact fh_no hf
    | succ n5 ih5 =>
      have B106 : ∀ (v1 : Option Nat) (v2 : Int32) (v3 : Int32) (h : fh_H) (H : Heap) (locs : List Loc) (ls : Array Slot), lv_has ls 5 [(0, va_rf (some o)), (1, va_rf v1), (2, .int v2), (3, .int v3)] → fh_I D classes A s.heap h H locs → b_Fi_goOn_106 K N (l_Fi_goOn_5 K N o n5) o v1 v2 v3 h = some res → W p l e rm_Fi_goOn s m [.ref o, va_rf a1, .int a2].toArray below meth c H locs 0 0 (MQ below (fh_Q D classes h0 s.heap.size (none) res) [.ref o, va_rf a1, .int a2].toArray s 0 0 A) (F0 m 106 ls []) := by
        intro v1 v2 v3 h H locs ls hl hI hf
        unfold b_Fi_goOn_106 at hf
        obtain ⟨x1, e_x1, hf⟩ := fh_b hf
        refine lv_iinc (v := x1) (lv' := [(3, .int x1), (0, va_rf (some o)), (1, va_rf v1), (2, .int v2)]) hx hb d_Fi_goOn_106 hl (k := 3) rfl (by rw [fh_qe e_x1]; rfl) (by decide) rfl (fun ls hl => ?_)
        refine lv_goto (tgt := 5) hx hb d_Fi_goOn_109 (by decide) ?_
        exact ih5 v1 v2 x1 h _ _ _ (lv_sub hl [1, 2, 3, 0] rfl) hI hf
      have B36 : ∀ (v1 : Option Nat) (v2 : Int32) (v3 : Int32) (w0 : Int32) (h : fh_H) (H : Heap) (locs : List Loc) (ls : Array Slot), lv_has ls 5 [(0, va_rf (some o)), (1, va_rf v1), (2, .int v2), (3, .int v3)] → fh_I D classes A s.heap h H locs → b_Fi_goOn_36 K N (l_Fi_goOn_5 K N o n5) o v1 v2 v3 w0 h = some res → W p l e rm_Fi_goOn s m [.ref o, va_rf a1, .int a2].toArray below meth c H locs 0 0 (MQ below (fh_Q D classes h0 s.heap.size (none) res) [.ref o, va_rf a1, .int a2].toArray s 0 0 A) (F0 m 36 ls [.int w0]) := by
        intro v1 v2 v3 w0 h H locs ls hl hI hf
        unfold b_Fi_goOn_36 at hf
        refine lv_istore (lv' := [(4, .int w0), (0, va_rf (some o)), (1, va_rf v1), (2, .int v2), (3, .int v3)]) hx hb d_Fi_goOn_36 hl (by decide) rfl (fun ls hl => ?_)
        refine fh_aload_n S d_Fi_goOn_38 rfl (lv_at hl 1 rfl) ?_
        refine lv_iload hx hb d_Fi_goOn_39 (lv_at hl 0 rfl) ?_
        refine fh_aload_n S d_Fi_goOn_41 rfl (lv_at hl 2 rfl) ?_
        refine lv_iload_n hx hb d_Fi_goOn_42 rfl (lv_at hl 4 rfl) ?_
        refine lv_iconst (v := 0) hx hb d_Fi_goOn_43 (by decide) ?_
        obtain ⟨o1, e_o1, hf⟩ := fh_b hf
        obtain ⟨r2, e_r2, hf⟩ := fh_b hf
        refine fh_callV (As := [.int v3, .int 0]) (rest := [.int w0, va_rf (some o)]) S fT_good hE hI e_o1 rfl (c_Pl_from e_r2) fy_Pl_from fst_Pl_from k_32 ⟨rfl, rfl⟩ ⟨Nat.le_of_ble_eq_true rfl, Nat.le_of_ble_eq_true rfl⟩ ⟨Nat.zero_le _, Nat.zero_le _⟩ rfl hl.1 rfl (Nat.le_of_ble_eq_true rfl) d_Fi_goOn_44 (fun H locs hI => ?_)
        refine fh_aload_n S d_Fi_goOn_47 rfl (lv_at hl 2 rfl) ?_
        refine lv_iload_n hx hb d_Fi_goOn_48 rfl (lv_at hl 4 rfl) ?_
        refine lv_iconst (v := 1) hx hb d_Fi_goOn_49 (by decide) ?_
        obtain ⟨o3, e_o3, hf⟩ := fh_b hf
        obtain ⟨r4, e_r4, hf⟩ := fh_b hf
        refine fh_callV (As := [.int v3, .int 1]) (rest := [.int r2.1, .int w0, va_rf (some o)]) S fT_good hE hI e_o3 rfl (c_Pl_from e_r4) fy_Pl_from fst_Pl_from k_32 ⟨rfl, rfl⟩ ⟨Nat.le_of_ble_eq_true rfl, Nat.le_of_ble_eq_true rfl⟩ ⟨Nat.zero_le _, Nat.zero_le _⟩ rfl hl.1 rfl (Nat.le_of_ble_eq_true rfl) d_Fi_goOn_50 (fun H locs hI => ?_)
        refine fh_aload_n S d_Fi_goOn_53 rfl (lv_at hl 2 rfl) ?_
        refine lv_iload_n hx hb d_Fi_goOn_54 rfl (lv_at hl 4 rfl) ?_
        refine lv_iconst (v := 2) hx hb d_Fi_goOn_55 (by decide) ?_
        obtain ⟨o5, e_o5, hf⟩ := fh_b hf
        obtain ⟨r6, e_r6, hf⟩ := fh_b hf
        refine fh_callV (As := [.int v3, .int 2]) (rest := [.int r4.1, .int r2.1, .int w0, va_rf (some o)]) S fT_good hE hI e_o5 rfl (c_Pl_from e_r6) fy_Pl_from fst_Pl_from k_32 ⟨rfl, rfl⟩ ⟨Nat.le_of_ble_eq_true rfl, Nat.le_of_ble_eq_true rfl⟩ ⟨Nat.zero_le _, Nat.zero_le _⟩ rfl hl.1 rfl (Nat.le_of_ble_eq_true rfl) d_Fi_goOn_56 (fun H locs hI => ?_)
        refine fh_aload_n S d_Fi_goOn_59 rfl (lv_at hl 2 rfl) ?_
        refine lv_iload_n hx hb d_Fi_goOn_60 rfl (lv_at hl 4 rfl) ?_
        refine lv_iconst (v := 3) hx hb d_Fi_goOn_61 (by decide) ?_
        obtain ⟨o7, e_o7, hf⟩ := fh_b hf
        obtain ⟨r8, e_r8, hf⟩ := fh_b hf
        refine fh_callV (As := [.int v3, .int 3]) (rest := [.int r6.1, .int r4.1, .int r2.1, .int w0, va_rf (some o)]) S fT_good hE hI e_o7 rfl (c_Pl_from e_r8) fy_Pl_from fst_Pl_from k_32 ⟨rfl, rfl⟩ ⟨Nat.le_of_ble_eq_true rfl, Nat.le_of_ble_eq_true rfl⟩ ⟨Nat.zero_le _, Nat.zero_le _⟩ rfl hl.1 rfl (Nat.le_of_ble_eq_true rfl) d_Fi_goOn_62 (fun H locs hI => ?_)
        obtain ⟨o9, e_o9, hf⟩ := fh_b hf
        obtain ⟨r10, e_r10, hf⟩ := fh_b hf
        refine fh_callV (As := [.int w0, .int r2.1, .int r4.1, .int r6.1, .int r8.1]) (rest := []) S fT_good hE hI e_o9 rfl (c_Fi_find e_r10) fy_Fi_find fst_Fi_find k_33 ⟨rfl, rfl⟩ ⟨Nat.le_of_ble_eq_true rfl, Nat.le_of_ble_eq_true rfl⟩ ⟨Nat.zero_le _, Nat.zero_le _⟩ rfl hl.1 rfl (Nat.le_of_ble_eq_true rfl) d_Fi_goOn_65 (fun H locs hI => ?_)
        refine lv_if_eq (tgt := 101) hx hb d_Fi_goOn_68 (by decide) (fun c_68 => ?_) (fun c_68 => ?_)
        · replace hf := fh_t c_68 hf
          refine fh_aload_n S d_Fi_goOn_101 rfl (lv_at hl 1 rfl) ?_
          refine lv_iload_n hx hb d_Fi_goOn_102 rfl (lv_at hl 4 rfl) ?_
          obtain ⟨h11, e_h11, hf⟩ := fh_b hf
          refine fh_putv S hE.1 hI e_h11 (hc := rfl) (hin := in_4) tok_4 nok_4 (by decide) (hts _ k_2) rfl rfl rfl d_Fi_goOn_103 (fun H locs hI => ?_)
          exact B106 v1 v2 v3 h11 _ _ _ (lv_sub hl [1, 2, 3, 4] rfl) hI hf
        · replace hf := fh_f c_68 hf
          refine fh_aload_n S d_Fi_goOn_71 rfl (lv_at hl 1 rfl) ?_
          obtain ⟨x12, e_x12, hf⟩ := fh_b hf
          refine fh_geta S hE.1 hI e_x12 (hc := rfl) (hin := in_4) (by decide) (hts _ k_15) d_Fi_goOn_72 ?_
          refine lv_iload_n hx hb d_Fi_goOn_75 rfl (lv_at hl 4 rfl) ?_
          refine fh_aload_n S d_Fi_goOn_76 rfl (lv_at hl 1 rfl) ?_
          obtain ⟨x13, e_x13, hf⟩ := fh_b hf
          refine fh_geti S hE.1 hI e_x13 (hc := rfl) (hin := in_4) (by decide) (hts _ k_10) d_Fi_goOn_77 ?_
          obtain ⟨h14, e_h14, hf⟩ := fh_b hf
          refine fh_iast S hE.1 hI 0 rfl e_h14 d_Fi_goOn_80 (fun H locs hI => ?_)
          refine fh_aload_n S d_Fi_goOn_81 rfl (lv_at hl 1 rfl) ?_
          obtain ⟨x15, e_x15, hf⟩ := fh_b hf
          refine fh_geta S hE.1 hI e_x15 (hc := rfl) (hin := in_4) (by decide) (hts _ k_16) d_Fi_goOn_82 ?_
          refine lv_iload_n hx hb d_Fi_goOn_85 rfl (lv_at hl 4 rfl) ?_
          refine fh_aload_n S d_Fi_goOn_86 rfl (lv_at hl 1 rfl) ?_
          obtain ⟨x16, e_x16, hf⟩ := fh_b hf
          refine fh_geti S hE.1 hI e_x16 (hc := rfl) (hin := in_4) (by decide) (hts _ k_11) d_Fi_goOn_87 ?_
          obtain ⟨h17, e_h17, hf⟩ := fh_b hf
          refine fh_iast S hE.1 hI 0 rfl e_h17 d_Fi_goOn_90 (fun H locs hI => ?_)
          refine fh_aload_n S d_Fi_goOn_91 rfl (lv_at hl 1 rfl) ?_
          refine lv_iload_n hx hb d_Fi_goOn_92 rfl (lv_at hl 4 rfl) ?_
          refine lv_iconst (v := 1) hx hb d_Fi_goOn_93 (by decide) ?_
          refine lv_iadd hx hb d_Fi_goOn_94 ?_
          obtain ⟨h18, e_h18, hf⟩ := fh_b hf
          refine fh_putv S hE.1 hI e_h18 (hc := rfl) (hin := in_4) tok_4 nok_4 (by decide) (hts _ k_1) rfl rfl rfl d_Fi_goOn_95 (fun H locs hI => ?_)
          refine lv_goto (tgt := 106) hx hb d_Fi_goOn_98 (by decide) ?_
          exact B106 v1 v2 v3 h18 _ _ _ (lv_sub hl [1, 2, 3, 4] rfl) hI hf
      intro v1 v2 v3 h H locs ls hl hI hf
      have hf : b_Fi_goOn_5 K N (l_Fi_goOn_5 K N o n5) o v1 v2 v3 h = some res := hf
      unfold b_Fi_goOn_5 at hf
      refine lv_iload_n hx hb d_Fi_goOn_5 rfl (lv_at hl 3 rfl) ?_
      refine fh_aload_n S d_Fi_goOn_6 rfl (lv_at hl 1 rfl) ?_
      obtain ⟨x1, e_x1, hf⟩ := fh_b hf
      refine fh_geti S hE.1 hI e_x1 (hc := rfl) (hin := in_1) (by decide) (hts _ k_31) d_Fi_goOn_7 ?_
      refine lv_icmp_ge (tgt := 112) hx hb d_Fi_goOn_10 (by decide) (fun c_10 => ?_) (fun c_10 => ?_)
      · replace hf := fh_t c_10 hf
        obtain rfl := Option.some.inj hf
        exact fh_vret S hr hk hAe hI d_Fi_goOn_112
      · replace hf := fh_f c_10 hf
        refine fh_aload_n S d_Fi_goOn_13 rfl (lv_at hl 0 rfl) ?_
        obtain ⟨x2, e_x2, hf⟩ := fh_b hf
        refine fh_geti S hE.1 hI e_x2 (hc := rfl) (hin := in_4) (by decide) (hts _ k_2) d_Fi_goOn_14 ?_
        refine lv_iconst (v := (-1)) hx hb d_Fi_goOn_17 (by decide) ?_
        refine lv_icmp_ne (tgt := 112) hx hb d_Fi_goOn_18 (by decide) (fun c_18 => ?_) (fun c_18 => ?_)
        · replace hf := fh_f c_18 hf
          obtain rfl := Option.some.inj hf
          exact fh_vret S hr hk hAe hI d_Fi_goOn_112
        · replace hf := fh_t c_18 hf
          refine lv_iload_n hx hb d_Fi_goOn_21 rfl (lv_at hl 3 rfl) ?_
          refine lv_iload_n hx hb d_Fi_goOn_22 rfl (lv_at hl 2 rfl) ?_
          refine lv_icmp_ne (tgt := 30) hx hb d_Fi_goOn_23 (by decide) (fun c_23 => ?_) (fun c_23 => ?_)
          · replace hf := fh_f c_23 hf
            refine fh_aload_n S d_Fi_goOn_30 rfl (lv_at hl 1 rfl) ?_
            obtain ⟨x3, e_x3, hf⟩ := fh_b hf
            refine fh_geta S hE.1 hI e_x3 (hc := rfl) (hin := in_1) (by decide) (hts _ k_34) d_Fi_goOn_31 ?_
            refine lv_iload_n hx hb d_Fi_goOn_34 rfl (lv_at hl 3 rfl) ?_
            obtain ⟨x4, e_x4, hf⟩ := fh_b hf
            refine fh_iald S hE.1 hI 0 rfl e_x4 d_Fi_goOn_35 ?_
            exact B36 v1 v2 v3 x4 h _ _ _ (lv_sub hl [0, 1, 2, 3] rfl) hI hf
          · replace hf := fh_t c_23 hf
            refine lv_iconst (v := 0) hx hb d_Fi_goOn_26 (by decide) ?_
            refine lv_goto (tgt := 36) hx hb d_Fi_goOn_27 (by decide) ?_
            exact B36 v1 v2 v3 0 h _ _ _ (lv_sub hl [0, 1, 2, 3] rfl) hI hf
  unfold f_Fi_goOn at hf
  refine fh_aload_n S d_Fi_goOn_0 rfl (lv_at hl 0 rfl) ?_
  obtain ⟨x1, e_x1, hf⟩ := fh_b hf
  refine fh_geti S hE.1 hI e_x1 (hc := rfl) (hin := in_4) (by decide) (hts _ k_1) d_Fi_goOn_1 ?_
  refine lv_istore_n (lv' := [(3, .int x1), (0, va_rf (some o)), (1, va_rf a1), (2, .int a2)]) hx hb d_Fi_goOn_4 rfl hl (by decide) rfl (fun ls hl => ?_)
  exact L5 N a1 a2 x1 h0 _ _ _ (lv_sub hl [1, 2, 3, 0] rfl) hI hf
theorem d_Dr_goOn_0 : decode c0_Dr_goOn 0 = .ok (.aload_n 0, 1) := by decide +kernel
theorem d_Dr_goOn_1 : decode c0_Dr_goOn 1 = .ok (.iconst 0, 1) := by decide +kernel
theorem d_Dr_goOn_2 : decode c0_Dr_goOn 2 = .ok (.putfield 33, 3) := by decide +kernel
theorem d_Dr_goOn_5 : decode c0_Dr_goOn 5 = .ok (.iconst 0, 1) := by decide +kernel
theorem d_Dr_goOn_6 : decode c0_Dr_goOn 6 = .ok (.istore_n 3, 1) := by decide +kernel
theorem d_Dr_goOn_7 : decode c0_Dr_goOn 7 = .ok (.iload_n 3, 1) := by decide +kernel
theorem d_Dr_goOn_8 : decode c0_Dr_goOn 8 = .ok (.aload_n 0, 1) := by decide +kernel
theorem d_Dr_goOn_9 : decode c0_Dr_goOn 9 = .ok (.getfield 25, 3) := by decide +kernel
theorem d_Dr_goOn_12 : decode c0_Dr_goOn 12 = .ok (.if_icmp .ge 43, 3) := by decide +kernel
theorem d_Dr_goOn_15 : decode c0_Dr_goOn 15 = .ok (.aload_n 0, 1) := by decide +kernel
theorem d_Dr_goOn_16 : decode c0_Dr_goOn 16 = .ok (.getfield 11, 3) := by decide +kernel
theorem d_Dr_goOn_19 : decode c0_Dr_goOn 19 = .ok (.iload_n 3, 1) := by decide +kernel
theorem d_Dr_goOn_20 : decode c0_Dr_goOn 20 = .ok (.aaload, 1) := by decide +kernel
theorem d_Dr_goOn_21 : decode c0_Dr_goOn 21 = .ok (.aload_n 1, 1) := by decide +kernel
theorem d_Dr_goOn_22 : decode c0_Dr_goOn 22 = .ok (.iload_n 2, 1) := by decide +kernel
theorem d_Dr_goOn_23 : decode c0_Dr_goOn 23 = .ok (.invokevirtual 36, 3) := by decide +kernel
theorem d_Dr_goOn_26 : decode c0_Dr_goOn 26 = .ok (.aload_n 0, 1) := by decide +kernel
theorem d_Dr_goOn_27 : decode c0_Dr_goOn 27 = .ok (.getfield 11, 3) := by decide +kernel
theorem d_Dr_goOn_30 : decode c0_Dr_goOn 30 = .ok (.iload_n 3, 1) := by decide +kernel
theorem d_Dr_goOn_31 : decode c0_Dr_goOn 31 = .ok (.aaload, 1) := by decide +kernel
theorem d_Dr_goOn_32 : decode c0_Dr_goOn 32 = .ok (.getfield 40, 3) := by decide +kernel
theorem d_Dr_goOn_35 : decode c0_Dr_goOn 35 = .ok (.iconst (-1), 1) := by decide +kernel
theorem d_Dr_goOn_36 : decode c0_Dr_goOn 36 = .ok (.if_icmp .ne 13, 3) := by decide +kernel
theorem d_Dr_goOn_39 : decode c0_Dr_goOn 39 = .ok (.aload_n 0, 1) := by decide +kernel
theorem d_Dr_goOn_40 : decode c0_Dr_goOn 40 = .ok (.dup, 1) := by decide +kernel
theorem d_Dr_goOn_41 : decode c0_Dr_goOn 41 = .ok (.getfield 33, 3) := by decide +kernel
theorem d_Dr_goOn_44 : decode c0_Dr_goOn 44 = .ok (.iconst 1, 1) := by decide +kernel
theorem d_Dr_goOn_45 : decode c0_Dr_goOn 45 = .ok (.iadd, 1) := by decide +kernel
theorem d_Dr_goOn_46 : decode c0_Dr_goOn 46 = .ok (.putfield 33, 3) := by decide +kernel
theorem d_Dr_goOn_49 : decode c0_Dr_goOn 49 = .ok (.iinc 3 1, 3) := by decide +kernel
theorem d_Dr_goOn_52 : decode c0_Dr_goOn 52 = .ok (.goto (-45), 3) := by decide +kernel
theorem d_Dr_goOn_55 : decode c0_Dr_goOn 55 = .ok (.return_, 1) := by decide +kernel
def b_Dr_goOn_49 (K : Nat → ClassId) (N : Nat) (k7 : Option Nat → Int32 → Int32 → fh_H → Option (fh_H)) (o : Nat) (v1 : Option Nat) (v2 : Int32) (v3 : Int32) (h : fh_H) : Option (fh_H) :=
  (some (v3 + 1)).bind fun x1 => k7 v1 v2 x1 h
def b_Dr_goOn_7 (K : Nat → ClassId) (N : Nat) (k7 : Option Nat → Int32 → Int32 → fh_H → Option (fh_H)) (o : Nat) (v1 : Option Nat) (v2 : Int32) (v3 : Int32) (h : fh_H) : Option (fh_H) :=
  (fg_i h (some o) 3 2).bind fun x1 => if x1 ≤ v3 then (some h) else ((fg_a h (some o) 3 0).bind fun x2 => (fa_a (K 3) h x2 v3).bind fun x3 => (fg_o h x3 4).bind fun o4 => (f_Fi_goOn K N o4 v1 v2 h).bind fun r5 => (fg_a r5 (some o) 3 0).bind fun x6 => (fa_a (K 3) r5 x6 v3).bind fun x7 => (fg_i r5 x7 4 3).bind fun x8 => if x8 = (-1) then ((fg_i r5 (some o) 3 1).bind fun x9 => (fp_v r5 (some o) 3 1 (.int (x9 + 1))).bind fun h10 => b_Dr_goOn_49 K N k7 o v1 v2 v3 h10) else (b_Dr_goOn_49 K N k7 o v1 v2 v3 r5))
def l_Dr_goOn_7 (K : Nat → ClassId) (N : Nat) (o : Nat) : Nat → Option Nat → Int32 → Int32 → fh_H → Option (fh_H)
  | 0, _, _, _, _ => none
  | n + 1, v1, v2, v3, h => b_Dr_goOn_7 K N (l_Dr_goOn_7 K N o n) o v1 v2 v3 h
def f_Dr_goOn (K : Nat → ClassId) (N : Nat) (o : Nat) (a1 : Option Nat) (a2 : Int32) (h0 : fh_H) : Option (fh_H) :=
  (fp_v h0 (some o) 3 1 (.int 0)).bind fun h1 => l_Dr_goOn_7 K N o N a1 a2 0 h1
set_option maxHeartbeats 4000000 in
set_option maxRecDepth 100000 in
theorem c_Dr_goOn {l : Launch} {D : va_G} {K : Nat → ClassId} {t : Nat → Nat} {N : Nat} {o : Nat} {a1 : Option Nat} {a2 : Int32} {h0 : fh_H} {res : fh_H} (hf : f_Dr_goOn K N o a1 a2 h0 = some res) : fC l D K t y_Dr_goOn c0_Dr_goOn 4 none rm_Dr_goOn [.ref o, va_rf a1, .int a2] h0 (none) res := by
  refine fh_body (by decide) (by cases a1 <;> exact Nat.le_of_ble_eq_true rfl) ?_
  intro p e s m below meth c A ls S hr hk hnm hE hAe hI hl
  obtain ⟨hx, hb, hml, hown, hts⟩ := id S
  have hl : lv_has ls 4 [(0, va_rf (some o)), (1, va_rf a1), (2, .int a2)] := by cases a1 <;> exact hl
  have L7 : ∀ (n7 : Nat) (v1 : Option Nat) (v2 : Int32) (v3 : Int32) (h : fh_H) (H : Heap) (locs : List Loc) (ls : Array Slot), lv_has ls 4 [(0, va_rf (some o)), (1, va_rf v1), (2, .int v2), (3, .int v3)] → fh_I D classes A s.heap h H locs → l_Dr_goOn_7 K N o n7 v1 v2 v3 h = some res → W p l e rm_Dr_goOn s m [.ref o, va_rf a1, .int a2].toArray below meth c H locs 0 0 (MQ below (fh_Q D classes h0 s.heap.size (none) res) [.ref o, va_rf a1, .int a2].toArray s 0 0 A) (F0 m 7 ls []) := by
    intro n7
    induction n7 with
    | zero =>
      intro v1 v2 v3 h H locs ls hl hI hf
      exact fh_no hf
    | succ n7 ih7 =>
      have B49 : ∀ (v1 : Option Nat) (v2 : Int32) (v3 : Int32) (h : fh_H) (H : Heap) (locs : List Loc) (ls : Array Slot), lv_has ls 4 [(0, va_rf (some o)), (1, va_rf v1), (2, .int v2), (3, .int v3)] → fh_I D classes A s.heap h H locs → b_Dr_goOn_49 K N (l_Dr_goOn_7 K N o n7) o v1 v2 v3 h = some res → W p l e rm_Dr_goOn s m [.ref o, va_rf a1, .int a2].toArray below meth c H locs 0 0 (MQ below (fh_Q D classes h0 s.heap.size (none) res) [.ref o, va_rf a1, .int a2].toArray s 0 0 A) (F0 m 49 ls []) := by
        intro v1 v2 v3 h H locs ls hl hI hf
        unfold b_Dr_goOn_49 at hf
        obtain ⟨x1, e_x1, hf⟩ := fh_b hf
        refine lv_iinc (v := x1) (lv' := [(3, .int x1), (0, va_rf (some o)), (1, va_rf v1), (2, .int v2)]) hx hb d_Dr_goOn_49 hl (k := 3) rfl (by rw [fh_qe e_x1]; rfl) (by decide) rfl (fun ls hl => ?_)
        refine lv_goto (tgt := 7) hx hb d_Dr_goOn_52 (by decide) ?_
        exact ih7 v1 v2 x1 h _ _ _ (lv_sub hl [1, 2, 3, 0] rfl) hI hf
      intro v1 v2 v3 h H locs ls hl hI hf
      have hf : b_Dr_goOn_7 K N (l_Dr_goOn_7 K N o n7) o v1 v2 v3 h = some res := hf
      unfold b_Dr_goOn_7 at hf
      refine lv_iload_n hx hb d_Dr_goOn_7 rfl (lv_at hl 3 rfl) ?_
      refine fh_aload_n S d_Dr_goOn_8 rfl (lv_at hl 0 rfl) ?_
      obtain ⟨x1, e_x1, hf⟩ := fh_b hf
      refine fh_geti S hE.1 hI e_x1 (hc := rfl) (hin := in_3) (by decide) (hts _ k_3) d_Dr_goOn_9 ?_
      refine lv_icmp_ge (tgt := 55) hx hb d_Dr_goOn_12 (by decide) (fun c_12 => ?_) (fun c_12 => ?_)
      · replace hf := fh_t c_12 hf
        obtain rfl := Option.some.inj hf
        exact fh_vret S hr hk hAe hI d_Dr_goOn_55
      · replace hf := fh_f c_12 hf
        refine fh_aload_n S d_Dr_goOn_15 rfl (lv_at hl 0 rfl) ?_
        obtain ⟨x2, e_x2, hf⟩ := fh_b hf
        refine fh_geta S hE.1 hI e_x2 (hc := rfl) (hin := in_3) (by decide) (hts _ k_4) d_Dr_goOn_16 ?_
        refine lv_iload_n hx hb d_Dr_goOn_19 rfl (lv_at hl 3 rfl) ?_
        obtain ⟨x3, e_x3, hf⟩ := fh_b hf
        refine fh_aald S hE.1 hI 3 rfl e_x3 d_Dr_goOn_20 ?_
        refine fh_aload_n S d_Dr_goOn_21 rfl (lv_at hl 1 rfl) ?_
        refine lv_iload_n hx hb d_Dr_goOn_22 rfl (lv_at hl 2 rfl) ?_
        obtain ⟨o4, e_o4, hf⟩ := fh_b hf
        obtain ⟨r5, e_r5, hf⟩ := fh_b hf
        refine fh_callV (As := [va_rf v1, .int v2]) (rest := []) S fT_good hE hI e_o4 rfl (c_Fi_goOn e_r5) fy_Fi_goOn fst_Fi_goOn k_35 ⟨rfl, rfl⟩ ⟨Nat.le_of_ble_eq_true rfl, Nat.le_of_ble_eq_true rfl⟩ ⟨Nat.zero_le _, Nat.zero_le _⟩ rfl hl.1 rfl (Nat.le_of_ble_eq_true rfl) d_Dr_goOn_23 (fun H locs hI => ?_)
        refine fh_aload_n S d_Dr_goOn_26 rfl (lv_at hl 0 rfl) ?_
        obtain ⟨x6, e_x6, hf⟩ := fh_b hf
        refine fh_geta S hE.1 hI e_x6 (hc := rfl) (hin := in_3) (by decide) (hts _ k_4) d_Dr_goOn_27 ?_
        refine lv_iload_n hx hb d_Dr_goOn_30 rfl (lv_at hl 3 rfl) ?_
        obtain ⟨x7, e_x7, hf⟩ := fh_b hf
        refine fh_aald S hE.1 hI 3 rfl e_x7 d_Dr_goOn_31 ?_
        obtain ⟨x8, e_x8, hf⟩ := fh_b hf
        refine fh_geti S hE.1 hI e_x8 (hc := rfl) (hin := in_4) (by decide) (hts _ k_36) d_Dr_goOn_32 ?_
        refine lv_iconst (v := (-1)) hx hb d_Dr_goOn_35 (by decide) ?_
        refine lv_icmp_ne (tgt := 49) hx hb d_Dr_goOn_36 (by decide) (fun c_36 => ?_) (fun c_36 => ?_)
        · replace hf := fh_f c_36 hf
          exact B49 v1 v2 v3 r5 _ _ _ (lv_sub hl [0, 1, 2, 3] rfl) hI hf
        · replace hf := fh_t c_36 hf
          refine fh_aload_n S d_Dr_goOn_39 rfl (lv_at hl 0 rfl) ?_
          refine lv_dup hx hb d_Dr_goOn_40 fh_rfcat ?_
          obtain ⟨x9, e_x9, hf⟩ := fh_b hf
          refine fh_geti S hE.1 hI e_x9 (hc := rfl) (hin := in_3) (by decide) (hts _ k_37) d_Dr_goOn_41 ?_
          refine lv_iconst (v := 1) hx hb d_Dr_goOn_44 (by decide) ?_
          refine lv_iadd hx hb d_Dr_goOn_45 ?_
          obtain ⟨h10, e_h10, hf⟩ := fh_b hf
          refine fh_putv S hE.1 hI e_h10 (hc := rfl) (hin := in_3) tok_3 nok_3 (by decide) (hts _ k_37) rfl rfl rfl d_Dr_goOn_46 (fun H locs hI => ?_)
          exact B49 v1 v2 v3 h10 _ _ _ (lv_sub hl [0, 1, 2, 3] rfl) hI hf
  unfold f_Dr_goOn at hf
  refine fh_aload_n S d_Dr_goOn_0 rfl (lv_at hl 0 rfl) ?_
  refine lv_iconst (v := 0) hx hb d_Dr_goOn_1 (by decide) ?_
  obtain ⟨h1, e_h1, hf⟩ := fh_b hf
  refine fh_putv S hE.1 hI e_h1 (hc := rfl) (hin := in_3) tok_3 nok_3 (by decide) (hts _ k_37) rfl rfl rfl d_Dr_goOn_2 (fun H locs hI => ?_)
  refine lv_iconst (v := 0) hx hb d_Dr_goOn_5 (by decide) ?_
  refine lv_istore_n (lv' := [(3, .int 0), (0, va_rf (some o)), (1, va_rf a1), (2, .int a2)]) hx hb d_Dr_goOn_6 rfl hl (by decide) rfl (fun ls hl => ?_)
  exact L7 N a1 a2 0 h1 _ _ _ (lv_sub hl [1, 2, 3, 0] rfl) hI hf
theorem d_Fs_forget_0 : decode c0_Fs_forget 0 = .ok (.aload_n 0, 1) := by decide +kernel
theorem d_Fs_forget_1 : decode c0_Fs_forget 1 = .ok (.iload_n 1, 1) := by decide +kernel
theorem d_Fs_forget_2 : decode c0_Fs_forget 2 = .ok (.putfield 48, 3) := by decide +kernel
theorem d_Fs_forget_5 : decode c0_Fs_forget 5 = .ok (.aload_n 0, 1) := by decide +kernel
theorem d_Fs_forget_6 : decode c0_Fs_forget 6 = .ok (.iconst 0, 1) := by decide +kernel
theorem d_Fs_forget_7 : decode c0_Fs_forget 7 = .ok (.putfield 52, 3) := by decide +kernel
theorem d_Fs_forget_10 : decode c0_Fs_forget 10 = .ok (.return_, 1) := by decide +kernel
def f_Fs_forget (K : Nat → ClassId) (N : Nat) (o : Nat) (a1 : Int32) (h0 : fh_H) : Option (fh_H) :=
  (fp_v h0 (some o) 2 7 (.int a1)).bind fun h1 => (fp_v h1 (some o) 2 8 (.int 0)).bind fun h2 => some h2
set_option maxHeartbeats 4000000 in
set_option maxRecDepth 100000 in
theorem c_Fs_forget {l : Launch} {D : va_G} {K : Nat → ClassId} {t : Nat → Nat} {N : Nat} {o : Nat} {a1 : Int32} {h0 : fh_H} {res : fh_H} (hf : f_Fs_forget K N o a1 h0 = some res) : fC l D K t y_Fs_forget c0_Fs_forget 2 none rm_Fs_forget [.ref o, .int a1] h0 (none) res := by
  refine fh_body (by decide) (Nat.le_of_ble_eq_true rfl) ?_
  intro p e s m below meth c A ls S hr hk hnm hE hAe hI hl
  obtain ⟨hx, hb, hml, hown, hts⟩ := id S
  have hl : lv_has ls 2 [(0, va_rf (some o)), (1, .int a1)] := hl
  unfold f_Fs_forget at hf
  refine fh_aload_n S d_Fs_forget_0 rfl (lv_at hl 0 rfl) ?_
  refine lv_iload_n hx hb d_Fs_forget_1 rfl (lv_at hl 1 rfl) ?_
  obtain ⟨h1, e_h1, hf⟩ := fh_b hf
  refine fh_putv S hE.1 hI e_h1 (hc := rfl) (hin := in_2) tok_2 nok_2 (by decide) (hts _ k_38) rfl rfl rfl d_Fs_forget_2 (fun H locs hI => ?_)
  refine fh_aload_n S d_Fs_forget_5 rfl (lv_at hl 0 rfl) ?_
  refine lv_iconst (v := 0) hx hb d_Fs_forget_6 (by decide) ?_
  obtain ⟨h2, e_h2, hf⟩ := fh_b hf
  refine fh_putv S hE.1 hI e_h2 (hc := rfl) (hin := in_2) tok_2 nok_2 (by decide) (hts _ k_39) rfl rfl rfl d_Fs_forget_7 (fun H locs hI => ?_)
  obtain rfl := Option.some.inj hf
  exact fh_vret S hr hk hAe hI d_Fs_forget_10
theorem d_FF_drawAll_0 : decode c0_FF_drawAll 0 = .ok (.aload_n 0, 1) := by decide +kernel
theorem d_FF_drawAll_1 : decode c0_FF_drawAll 1 = .ok (.getfield 19, 3) := by decide +kernel
theorem d_FF_drawAll_4 : decode c0_FF_drawAll 4 = .ok (.getfield 51, 3) := by decide +kernel
theorem d_FF_drawAll_7 : decode c0_FF_drawAll 7 = .ok (.aload_n 0, 1) := by decide +kernel
theorem d_FF_drawAll_8 : decode c0_FF_drawAll 8 = .ok (.getfield 30, 3) := by decide +kernel
theorem d_FF_drawAll_11 : decode c0_FF_drawAll 11 = .ok (.aload_n 0, 1) := by decide +kernel
theorem d_FF_drawAll_12 : decode c0_FF_drawAll 12 = .ok (.getfield 34, 3) := by decide +kernel
theorem d_FF_drawAll_15 : decode c0_FF_drawAll 15 = .ok (.invokevirtual 146, 3) := by decide +kernel
theorem d_FF_drawAll_18 : decode c0_FF_drawAll 18 = .ok (.aload_n 0, 1) := by decide +kernel
theorem d_FF_drawAll_19 : decode c0_FF_drawAll 19 = .ok (.getfield 19, 3) := by decide +kernel
theorem d_FF_drawAll_22 : decode c0_FF_drawAll 22 = .ok (.getfield 51, 3) := by decide +kernel
theorem d_FF_drawAll_25 : decode c0_FF_drawAll 25 = .ok (.aload_n 0, 1) := by decide +kernel
theorem d_FF_drawAll_26 : decode c0_FF_drawAll 26 = .ok (.getfield 10, 3) := by decide +kernel
theorem d_FF_drawAll_29 : decode c0_FF_drawAll 29 = .ok (.iconst (-1), 1) := by decide +kernel
theorem d_FF_drawAll_30 : decode c0_FF_drawAll 30 = .ok (.invokevirtual 54, 3) := by decide +kernel
theorem d_FF_drawAll_33 : decode c0_FF_drawAll 33 = .ok (.aload_n 0, 1) := by decide +kernel
theorem d_FF_drawAll_34 : decode c0_FF_drawAll 34 = .ok (.getfield 19, 3) := by decide +kernel
theorem d_FF_drawAll_37 : decode c0_FF_drawAll 37 = .ok (.aload_n 0, 1) := by decide +kernel
theorem d_FF_drawAll_38 : decode c0_FF_drawAll 38 = .ok (.getfield 10, 3) := by decide +kernel
theorem d_FF_drawAll_41 : decode c0_FF_drawAll 41 = .ok (.getfield 40, 3) := by decide +kernel
theorem d_FF_drawAll_44 : decode c0_FF_drawAll 44 = .ok (.invokevirtual 58, 3) := by decide +kernel
theorem d_FF_drawAll_47 : decode c0_FF_drawAll 47 = .ok (.return_, 1) := by decide +kernel
def f_FF_drawAll (K : Nat → ClassId) (N : Nat) (o : Nat)  (h0 : fh_H) : Option (fh_H) :=
  (fg_a h0 (some o) 0 1).bind fun x1 => (fg_a h0 x1 2 0).bind fun x2 => (fg_i h0 (some o) 0 3).bind fun x3 => (fg_i h0 (some o) 0 4).bind fun x4 => (fg_o h0 x2 3).bind fun o5 => (f_Dr_begin K N o5 x3 x4 h0).bind fun r6 => (fg_a r6 (some o) 0 1).bind fun x7 => (fg_a r6 x7 2 0).bind fun x8 => (fg_a r6 (some o) 0 0).bind fun x9 => (fg_o r6 x8 3).bind fun o10 => (f_Dr_goOn K N o10 x9 (-1) r6).bind fun r11 => (fg_a r11 (some o) 0 1).bind fun x12 => (fg_a r11 (some o) 0 0).bind fun x13 => (fg_i r11 x13 1 2).bind fun x14 => (fg_o r11 x12 2).bind fun o15 => (f_Fs_forget K N o15 x14 r11).bind fun r16 => some r16
set_option maxHeartbeats 4000000 in
set_option maxRecDepth 100000 in
theorem c_FF_drawAll {l : Launch} {D : va_G} {K : Nat → ClassId} {t : Nat → Nat} {N : Nat} {o : Nat}  {h0 : fh_H} {res : fh_H} (hf : f_FF_drawAll K N o  h0 = some res) : fC l D K t y_FF_drawAll c0_FF_drawAll 1 none rm_FF_drawAll [.ref o] h0 (none) res := by
  refine fh_body (by decide) (Nat.le_of_ble_eq_true rfl) ?_
  intro p e s m below meth c A ls S hr hk hnm hE hAe hI hl
  obtain ⟨hx, hb, hml, hown, hts⟩ := id S
  have hl : lv_has ls 1 [(0, va_rf (some o))] := hl
  unfold f_FF_drawAll at hf
  refine fh_aload_n S d_FF_drawAll_0 rfl (lv_at hl 0 rfl) ?_
  obtain ⟨x1, e_x1, hf⟩ := fh_b hf
  refine fh_geta S hE.1 hI e_x1 (hc := rfl) (hin := in_0) (by decide) (hts _ k_40) d_FF_drawAll_1 ?_
  obtain ⟨x2, e_x2, hf⟩ := fh_b hf
  refine fh_geta S hE.1 hI e_x2 (hc := rfl) (hin := in_2) (by decide) (hts _ k_41) d_FF_drawAll_4 ?_
  refine fh_aload_n S d_FF_drawAll_7 rfl (lv_at hl 0 rfl) ?_
  obtain ⟨x3, e_x3, hf⟩ := fh_b hf
  refine fh_geti S hE.1 hI e_x3 (hc := rfl) (hin := in_0) (by decide) (hts _ k_42) d_FF_drawAll_8 ?_
  refine fh_aload_n S d_FF_drawAll_11 rfl (lv_at hl 0 rfl) ?_
  obtain ⟨x4, e_x4, hf⟩ := fh_b hf
  refine fh_geti S hE.1 hI e_x4 (hc := rfl) (hin := in_0) (by decide) (hts _ k_43) d_FF_drawAll_12 ?_
  obtain ⟨o5, e_o5, hf⟩ := fh_b hf
  obtain ⟨r6, e_r6, hf⟩ := fh_b hf
  refine fh_callV (As := [.int x3, .int x4]) (rest := []) S fT_good hE hI e_o5 rfl (c_Dr_begin e_r6) fy_Dr_begin fst_Dr_begin k_44 ⟨rfl, rfl⟩ ⟨Nat.le_of_ble_eq_true rfl, Nat.le_of_ble_eq_true rfl⟩ ⟨Nat.zero_le _, Nat.zero_le _⟩ rfl hl.1 rfl (Nat.le_of_ble_eq_true rfl) d_FF_drawAll_15 (fun H locs hI => ?_)
  refine fh_aload_n S d_FF_drawAll_18 rfl (lv_at hl 0 rfl) ?_
  obtain ⟨x7, e_x7, hf⟩ := fh_b hf
  refine fh_geta S hE.1 hI e_x7 (hc := rfl) (hin := in_0) (by decide) (hts _ k_40) d_FF_drawAll_19 ?_
  obtain ⟨x8, e_x8, hf⟩ := fh_b hf
  refine fh_geta S hE.1 hI e_x8 (hc := rfl) (hin := in_2) (by decide) (hts _ k_41) d_FF_drawAll_22 ?_
  refine fh_aload_n S d_FF_drawAll_25 rfl (lv_at hl 0 rfl) ?_
  obtain ⟨x9, e_x9, hf⟩ := fh_b hf
  refine fh_geta S hE.1 hI e_x9 (hc := rfl) (hin := in_0) (by decide) (hts _ k_45) d_FF_drawAll_26 ?_
  refine lv_iconst (v := (-1)) hx hb d_FF_drawAll_29 (by decide) ?_
  obtain ⟨o10, e_o10, hf⟩ := fh_b hf
  obtain ⟨r11, e_r11, hf⟩ := fh_b hf
  refine fh_callV (As := [va_rf x9, .int (-1)]) (rest := []) S fT_good hE hI e_o10 rfl (c_Dr_goOn e_r11) fy_Dr_goOn fst_Dr_goOn k_46 ⟨rfl, rfl⟩ ⟨Nat.le_of_ble_eq_true rfl, Nat.le_of_ble_eq_true rfl⟩ ⟨Nat.zero_le _, Nat.zero_le _⟩ rfl hl.1 rfl (Nat.le_of_ble_eq_true rfl) d_FF_drawAll_30 (fun H locs hI => ?_)
  refine fh_aload_n S d_FF_drawAll_33 rfl (lv_at hl 0 rfl) ?_
  obtain ⟨x12, e_x12, hf⟩ := fh_b hf
  refine fh_geta S hE.1 hI e_x12 (hc := rfl) (hin := in_0) (by decide) (hts _ k_40) d_FF_drawAll_34 ?_
  refine fh_aload_n S d_FF_drawAll_37 rfl (lv_at hl 0 rfl) ?_
  obtain ⟨x13, e_x13, hf⟩ := fh_b hf
  refine fh_geta S hE.1 hI e_x13 (hc := rfl) (hin := in_0) (by decide) (hts _ k_45) d_FF_drawAll_38 ?_
  obtain ⟨x14, e_x14, hf⟩ := fh_b hf
  refine fh_geti S hE.1 hI e_x14 (hc := rfl) (hin := in_1) (by decide) (hts _ k_47) d_FF_drawAll_41 ?_
  obtain ⟨o15, e_o15, hf⟩ := fh_b hf
  obtain ⟨r16, e_r16, hf⟩ := fh_b hf
  refine fh_callV (As := [.int x14]) (rest := []) S fT_good hE hI e_o15 rfl (c_Fs_forget e_r16) fy_Fs_forget fst_Fs_forget k_48 ⟨rfl, rfl⟩ ⟨Nat.le_of_ble_eq_true rfl, Nat.le_of_ble_eq_true rfl⟩ ⟨Nat.zero_le _, Nat.zero_le _⟩ rfl hl.1 rfl (Nat.le_of_ble_eq_true rfl) d_FF_drawAll_44 (fun H locs hI => ?_)
  obtain rfl := Option.some.inj hf
  exact fh_vret S hr hk hAe hI d_FF_drawAll_47
theorem d_FF_clear_0 : decode c0_FF_clear 0 = .ok (.aload_n 0, 1) := by decide +kernel
theorem d_FF_clear_1 : decode c0_FF_clear 1 = .ok (.getfield 10, 3) := by decide +kernel
theorem d_FF_clear_4 : decode c0_FF_clear 4 = .ok (.getfield 40, 3) := by decide +kernel
theorem d_FF_clear_7 : decode c0_FF_clear 7 = .ok (.istore_n 1, 1) := by decide +kernel
theorem d_FF_clear_8 : decode c0_FF_clear 8 = .ok (.aload_n 0, 1) := by decide +kernel
theorem d_FF_clear_9 : decode c0_FF_clear 9 = .ok (.getfield 10, 3) := by decide +kernel
theorem d_FF_clear_12 : decode c0_FF_clear 12 = .ok (.iconst 0, 1) := by decide +kernel
theorem d_FF_clear_13 : decode c0_FF_clear 13 = .ok (.putfield 40, 3) := by decide +kernel
theorem d_FF_clear_16 : decode c0_FF_clear 16 = .ok (.aload_n 0, 1) := by decide +kernel
theorem d_FF_clear_17 : decode c0_FF_clear 17 = .ok (.invokevirtual 37, 3) := by decide +kernel
theorem d_FF_clear_20 : decode c0_FF_clear 20 = .ok (.iload_n 1, 1) := by decide +kernel
theorem d_FF_clear_21 : decode c0_FF_clear 21 = .ok (.ireturn, 1) := by decide +kernel
def f_FF_clear (K : Nat → ClassId) (N : Nat) (o : Nat)  (h0 : fh_H) : Option (Int32 × fh_H) :=
  (fg_a h0 (some o) 0 0).bind fun x1 => (fg_i h0 x1 1 2).bind fun x2 => (fg_a h0 (some o) 0 0).bind fun x3 => (fp_v h0 x3 1 2 (.int 0)).bind fun h4 => (fg_o h4 (some o) 0).bind fun o5 => (f_FF_drawAll K N o5 h4).bind fun r6 => some (x2, r6)
set_option maxHeartbeats 4000000 in
set_option maxRecDepth 100000 in
theorem c_FF_clear {l : Launch} {D : va_G} {K : Nat → ClassId} {t : Nat → Nat} {N : Nat} {o : Nat}  {h0 : fh_H} {res : Int32 × fh_H} (hf : f_FF_clear K N o  h0 = some res) : fC l D K t y_FF_clear c0_FF_clear 2 (some .int) rm_FF_clear [.ref o] h0 (some (.int res.1)) res.2 := by
  refine fh_body (by decide) (Nat.le_of_ble_eq_true rfl) ?_
  intro p e s m below meth c A ls S hr hk hnm hE hAe hI hl
  obtain ⟨hx, hb, hml, hown, hts⟩ := id S
  have hl : lv_has ls 2 [(0, va_rf (some o))] := hl
  unfold f_FF_clear at hf
  refine fh_aload_n S d_FF_clear_0 rfl (lv_at hl 0 rfl) ?_
  obtain ⟨x1, e_x1, hf⟩ := fh_b hf
  refine fh_geta S hE.1 hI e_x1 (hc := rfl) (hin := in_0) (by decide) (hts _ k_45) d_FF_clear_1 ?_
  obtain ⟨x2, e_x2, hf⟩ := fh_b hf
  refine fh_geti S hE.1 hI e_x2 (hc := rfl) (hin := in_1) (by decide) (hts _ k_47) d_FF_clear_4 ?_
  refine lv_istore_n (lv' := [(1, .int x2), (0, va_rf (some o))]) hx hb d_FF_clear_7 rfl hl (by decide) rfl (fun ls hl => ?_)
  refine fh_aload_n S d_FF_clear_8 rfl (lv_at hl 1 rfl) ?_
  obtain ⟨x3, e_x3, hf⟩ := fh_b hf
  refine fh_geta S hE.1 hI e_x3 (hc := rfl) (hin := in_0) (by decide) (hts _ k_45) d_FF_clear_9 ?_
  refine lv_iconst (v := 0) hx hb d_FF_clear_12 (by decide) ?_
  obtain ⟨h4, e_h4, hf⟩ := fh_b hf
  refine fh_putv S hE.1 hI e_h4 (hc := rfl) (hin := in_1) tok_1 nok_1 (by decide) (hts _ k_47) rfl rfl rfl d_FF_clear_13 (fun H locs hI => ?_)
  refine fh_aload_n S d_FF_clear_16 rfl (lv_at hl 1 rfl) ?_
  obtain ⟨o5, e_o5, hf⟩ := fh_b hf
  obtain ⟨r6, e_r6, hf⟩ := fh_b hf
  refine fh_callV (As := []) (rest := []) S fT_good hE hI e_o5 rfl (c_FF_drawAll e_r6) fy_FF_drawAll fst_FF_drawAll k_49 ⟨rfl, rfl⟩ ⟨Nat.le_of_ble_eq_true rfl, Nat.le_of_ble_eq_true rfl⟩ ⟨Nat.zero_le _, Nat.zero_le _⟩ rfl hl.1 rfl (Nat.le_of_ble_eq_true rfl) d_FF_clear_17 (fun H locs hI => ?_)
  refine lv_iload_n hx hb d_FF_clear_20 rfl (lv_at hl 0 rfl) ?_
  obtain rfl := Option.some.inj hf
  exact fh_iret S hr hk rfl hAe hI d_FF_clear_21
theorem d_FF_isStep_0 : decode c0_FF_isStep 0 = .ok (.iload_n 0, 1) := by decide +kernel
theorem d_FF_isStep_1 : decode c0_FF_isStep 1 = .ok (.ifCond .lt 11, 3) := by decide +kernel
theorem d_FF_isStep_4 : decode c0_FF_isStep 4 = .ok (.iload_n 0, 1) := by decide +kernel
theorem d_FF_isStep_5 : decode c0_FF_isStep 5 = .ok (.getstatic 78, 3) := by decide +kernel
theorem d_FF_isStep_8 : decode c0_FF_isStep 8 = .ok (.arraylength, 1) := by decide +kernel
theorem d_FF_isStep_9 : decode c0_FF_isStep 9 = .ok (.if_icmp .lt 5, 3) := by decide +kernel
theorem d_FF_isStep_12 : decode c0_FF_isStep 12 = .ok (.iconst 0, 1) := by decide +kernel
theorem d_FF_isStep_13 : decode c0_FF_isStep 13 = .ok (.ireturn, 1) := by decide +kernel
theorem d_FF_isStep_14 : decode c0_FF_isStep 14 = .ok (.getstatic 78, 3) := by decide +kernel
theorem d_FF_isStep_17 : decode c0_FF_isStep 17 = .ok (.iload_n 0, 1) := by decide +kernel
theorem d_FF_isStep_18 : decode c0_FF_isStep 18 = .ok (.iaload, 1) := by decide +kernel
theorem d_FF_isStep_19 : decode c0_FF_isStep 19 = .ok (.istore 6, 2) := by decide +kernel
theorem d_FF_isStep_21 : decode c0_FF_isStep 21 = .ok (.iload 6, 2) := by decide +kernel
theorem d_FF_isStep_23 : decode c0_FF_isStep 23 = .ok (.iconst 1, 1) := by decide +kernel
theorem d_FF_isStep_24 : decode c0_FF_isStep 24 = .ok (.if_icmp .lt 13, 3) := by decide +kernel
theorem d_FF_isStep_27 : decode c0_FF_isStep 27 = .ok (.iload_n 1, 1) := by decide +kernel
theorem d_FF_isStep_28 : decode c0_FF_isStep 28 = .ok (.ifCond .lt 63, 3) := by decide +kernel
theorem d_FF_isStep_31 : decode c0_FF_isStep 31 = .ok (.iload_n 1, 1) := by decide +kernel
theorem d_FF_isStep_32 : decode c0_FF_isStep 32 = .ok (.iload 5, 2) := by decide +kernel
theorem d_FF_isStep_34 : decode c0_FF_isStep 34 = .ok (.if_icmp .ge 57, 3) := by decide +kernel
theorem d_FF_isStep_37 : decode c0_FF_isStep 37 = .ok (.iload 6, 2) := by decide +kernel
theorem d_FF_isStep_39 : decode c0_FF_isStep 39 = .ok (.iconst 2, 1) := by decide +kernel
theorem d_FF_isStep_40 : decode c0_FF_isStep 40 = .ok (.if_icmp .lt 13, 3) := by decide +kernel
theorem d_FF_isStep_43 : decode c0_FF_isStep 43 = .ok (.iload_n 2, 1) := by decide +kernel
theorem d_FF_isStep_44 : decode c0_FF_isStep 44 = .ok (.ifCond .lt 47, 3) := by decide +kernel
theorem d_FF_isStep_47 : decode c0_FF_isStep 47 = .ok (.iload_n 2, 1) := by decide +kernel
theorem d_FF_isStep_48 : decode c0_FF_isStep 48 = .ok (.iload 5, 2) := by decide +kernel
theorem d_FF_isStep_50 : decode c0_FF_isStep 50 = .ok (.if_icmp .ge 41, 3) := by decide +kernel
theorem d_FF_isStep_53 : decode c0_FF_isStep 53 = .ok (.iload 6, 2) := by decide +kernel
theorem d_FF_isStep_55 : decode c0_FF_isStep 55 = .ok (.iconst 3, 1) := by decide +kernel
theorem d_FF_isStep_56 : decode c0_FF_isStep 56 = .ok (.if_icmp .lt 13, 3) := by decide +kernel
theorem d_FF_isStep_59 : decode c0_FF_isStep 59 = .ok (.iload_n 3, 1) := by decide +kernel
theorem d_FF_isStep_60 : decode c0_FF_isStep 60 = .ok (.ifCond .lt 31, 3) := by decide +kernel
theorem d_FF_isStep_63 : decode c0_FF_isStep 63 = .ok (.iload_n 3, 1) := by decide +kernel
theorem d_FF_isStep_64 : decode c0_FF_isStep 64 = .ok (.iload 5, 2) := by decide +kernel
theorem d_FF_isStep_66 : decode c0_FF_isStep 66 = .ok (.if_icmp .ge 25, 3) := by decide +kernel
theorem d_FF_isStep_69 : decode c0_FF_isStep 69 = .ok (.iload 6, 2) := by decide +kernel
theorem d_FF_isStep_71 : decode c0_FF_isStep 71 = .ok (.iconst 4, 1) := by decide +kernel
theorem d_FF_isStep_72 : decode c0_FF_isStep 72 = .ok (.if_icmp .lt 15, 3) := by decide +kernel
theorem d_FF_isStep_75 : decode c0_FF_isStep 75 = .ok (.iload 4, 2) := by decide +kernel
theorem d_FF_isStep_77 : decode c0_FF_isStep 77 = .ok (.ifCond .lt 14, 3) := by decide +kernel
theorem d_FF_isStep_80 : decode c0_FF_isStep 80 = .ok (.iload 4, 2) := by decide +kernel
theorem d_FF_isStep_82 : decode c0_FF_isStep 82 = .ok (.iload 5, 2) := by decide +kernel
theorem d_FF_isStep_84 : decode c0_FF_isStep 84 = .ok (.if_icmp .ge 7, 3) := by decide +kernel
theorem d_FF_isStep_87 : decode c0_FF_isStep 87 = .ok (.iconst 1, 1) := by decide +kernel
theorem d_FF_isStep_88 : decode c0_FF_isStep 88 = .ok (.goto 4, 3) := by decide +kernel
theorem d_FF_isStep_91 : decode c0_FF_isStep 91 = .ok (.iconst 0, 1) := by decide +kernel
theorem d_FF_isStep_92 : decode c0_FF_isStep 92 = .ok (.ireturn, 1) := by decide +kernel
def b_FF_isStep_69 (K : Nat → ClassId) (N : Nat) (v4 : Int32) (v5 : Int32) (v6 : Int32) (h : fh_H) : Option (Int32 × fh_H) :=
  if v6 < 4 then (some (1, h)) else (if v4 < 0 then (some (0, h)) else (if v5 ≤ v4 then (some (0, h)) else (some (1, h))))
def b_FF_isStep_53 (K : Nat → ClassId) (N : Nat) (v3 : Int32) (v4 : Int32) (v5 : Int32) (v6 : Int32) (h : fh_H) : Option (Int32 × fh_H) :=
  if v6 < 3 then (b_FF_isStep_69 K N v4 v5 v6 h) else (if v3 < 0 then (some (0, h)) else (if v5 ≤ v3 then (some (0, h)) else (b_FF_isStep_69 K N v4 v5 v6 h)))
def b_FF_isStep_37 (K : Nat → ClassId) (N : Nat) (v2 : Int32) (v3 : Int32) (v4 : Int32) (v5 : Int32) (v6 : Int32) (h : fh_H) : Option (Int32 × fh_H) :=
  if v6 < 2 then (b_FF_isStep_53 K N v3 v4 v5 v6 h) else (if v2 < 0 then (some (0, h)) else (if v5 ≤ v2 then (some (0, h)) else (b_FF_isStep_53 K N v3 v4 v5 v6 h)))
def f_FF_isStep (K : Nat → ClassId) (N : Nat) (a0 : Int32) (a1 : Int32) (a2 : Int32) (a3 : Int32) (a4 : Int32) (a5 : Int32) (h0 : fh_H) : Option (Int32 × fh_H) :=
  if a0 < 0 then (some (0, h0)) else (if a0 < 14 then ((ft_i 14 tb_1 a0).bind fun x2 => if x2 < 1 then (b_FF_isStep_37 K N a2 a3 a4 a5 x2 h0) else (if a1 < 0 then (some (0, h0)) else (if a5 ≤ a1 then (some (0, h0)) else (b_FF_isStep_37 K N a2 a3 a4 a5 x2 h0)))) else (some (0, h0)))
set_option maxHeartbeats 4000000 in
set_option maxRecDepth 100000 in
theorem c_FF_isStep {l : Launch} {D : va_G} {K : Nat → ClassId} {t : Nat → Nat} {N : Nat} {a0 : Int32} {a1 : Int32} {a2 : Int32} {a3 : Int32} {a4 : Int32} {a5 : Int32} {h0 : fh_H} {res : Int32 × fh_H} (hf : f_FF_isStep K N a0 a1 a2 a3 a4 a5 h0 = some res) : fC l D K t y_FF_isStep c0_FF_isStep 7 (some .boolean) rm_FF_isStep [.int a0, .int a1, .int a2, .int a3, .int a4, .int a5] h0 (some (.int res.1)) res.2 := by
  refine fh_body (by decide) (Nat.le_of_ble_eq_true rfl) ?_
  intro p e s m below meth c A ls S hr hk hnm hE hAe hI hl
  obtain ⟨hx, hb, hml, hown, hts⟩ := id S
  have hl : lv_has ls 7 [(0, .int a0), (1, .int a1), (2, .int a2), (3, .int a3), (4, .int a4), (5, .int a5)] := hl
  have B69 : ∀ (v4 : Int32) (v5 : Int32) (v6 : Int32) (h : fh_H) (H : Heap) (locs : List Loc) (ls : Array Slot), lv_has ls 7 [(4, .int v4), (5, .int v5), (6, .int v6)] → fh_I D classes A s.heap h H locs → b_FF_isStep_69 K N v4 v5 v6 h = some res → W p l e rm_FF_isStep s m [.int a0, .int a1, .int a2, .int a3, .int a4, .int a5].toArray below meth c H locs 0 0 (MQ below (fh_Q D classes h0 s.heap.size (some (.int res.1)) res.2) [.int a0, .int a1, .int a2, .int a3, .int a4, .int a5].toArray s 0 0 A) (F0 m 69 ls []) := by
    intro v4 v5 v6 h H locs ls hl hI hf
    unfold b_FF_isStep_69 at hf
    refine lv_iload hx hb d_FF_isStep_69 (lv_at hl 2 rfl) ?_
    refine lv_iconst (v := 4) hx hb d_FF_isStep_71 (by decide) ?_
    refine lv_icmp_lt (tgt := 87) hx hb d_FF_isStep_72 (by decide) (fun c_72 => ?_) (fun c_72 => ?_)
    · replace hf := fh_t c_72 hf
      refine lv_iconst (v := 1) hx hb d_FF_isStep_87 (by decide) ?_
      refine lv_goto (tgt := 92) hx hb d_FF_isStep_88 (by decide) ?_
      obtain rfl := Option.some.inj hf
      exact fh_iret S hr hk (fh_nb (Or.inr rfl)) hAe hI d_FF_isStep_92
    · replace hf := fh_f c_72 hf
      refine lv_iload hx hb d_FF_isStep_75 (lv_at hl 0 rfl) ?_
      refine lv_if_lt (tgt := 91) hx hb d_FF_isStep_77 (by decide) (fun c_77 => ?_) (fun c_77 => ?_)
      · replace hf := fh_t c_77 hf
        refine lv_iconst (v := 0) hx hb d_FF_isStep_91 (by decide) ?_
        obtain rfl := Option.some.inj hf
        exact fh_iret S hr hk (fh_nb (Or.inl rfl)) hAe hI d_FF_isStep_92
      · replace hf := fh_f c_77 hf
        refine lv_iload hx hb d_FF_isStep_80 (lv_at hl 0 rfl) ?_
        refine lv_iload hx hb d_FF_isStep_82 (lv_at hl 1 rfl) ?_
        refine lv_icmp_ge (tgt := 91) hx hb d_FF_isStep_84 (by decide) (fun c_84 => ?_) (fun c_84 => ?_)
        · replace hf := fh_t c_84 hf
          refine lv_iconst (v := 0) hx hb d_FF_isStep_91 (by decide) ?_
          obtain rfl := Option.some.inj hf
          exact fh_iret S hr hk (fh_nb (Or.inl rfl)) hAe hI d_FF_isStep_92
        · replace hf := fh_f c_84 hf
          refine lv_iconst (v := 1) hx hb d_FF_isStep_87 (by decide) ?_
          refine lv_goto (tgt := 92) hx hb d_FF_isStep_88 (by decide) ?_
          obtain rfl := Option.some.inj hf
          exact fh_iret S hr hk (fh_nb (Or.inr rfl)) hAe hI d_FF_isStep_92
  have B53 : ∀ (v3 : Int32) (v4 : Int32) (v5 : Int32) (v6 : Int32) (h : fh_H) (H : Heap) (locs : List Loc) (ls : Array Slot), lv_has ls 7 [(3, .int v3), (4, .int v4), (5, .int v5), (6, .int v6)] → fh_I D classes A s.heap h H locs → b_FF_isStep_53 K N v3 v4 v5 v6 h = some res → W p l e rm_FF_isStep s m [.int a0, .int a1, .int a2, .int a3, .int a4, .int a5].toArray below meth c H locs 0 0 (MQ below (fh_Q D classes h0 s.heap.size (some (.int res.1)) res.2) [.int a0, .int a1, .int a2, .int a3, .int a4, .int a5].toArray s 0 0 A) (F0 m 53 ls []) := by
    intro v3 v4 v5 v6 h H locs ls hl hI hf
    unfold b_FF_isStep_53 at hf
    refine lv_iload hx hb d_FF_isStep_53 (lv_at hl 3 rfl) ?_
    refine lv_iconst (v := 3) hx hb d_FF_isStep_55 (by decide) ?_
    refine lv_icmp_lt (tgt := 69) hx hb d_FF_isStep_56 (by decide) (fun c_56 => ?_) (fun c_56 => ?_)
    · replace hf := fh_t c_56 hf
      exact B69 v4 v5 v6 h _ _ _ (lv_sub hl [1, 2, 3] rfl) hI hf
    · replace hf := fh_f c_56 hf
      refine lv_iload_n hx hb d_FF_isStep_59 rfl (lv_at hl 0 rfl) ?_
      refine lv_if_lt (tgt := 91) hx hb d_FF_isStep_60 (by decide) (fun c_60 => ?_) (fun c_60 => ?_)
      · replace hf := fh_t c_60 hf
        refine lv_iconst (v := 0) hx hb d_FF_isStep_91 (by decide) ?_
        obtain rfl := Option.some.inj hf
        exact fh_iret S hr hk (fh_nb (Or.inl rfl)) hAe hI d_FF_isStep_92
      · replace hf := fh_f c_60 hf
        refine lv_iload_n hx hb d_FF_isStep_63 rfl (lv_at hl 0 rfl) ?_
        refine lv_iload hx hb d_FF_isStep_64 (lv_at hl 2 rfl) ?_
        refine lv_icmp_ge (tgt := 91) hx hb d_FF_isStep_66 (by decide) (fun c_66 => ?_) (fun c_66 => ?_)
        · replace hf := fh_t c_66 hf
          refine lv_iconst (v := 0) hx hb d_FF_isStep_91 (by decide) ?_
          obtain rfl := Option.some.inj hf
          exact fh_iret S hr hk (fh_nb (Or.inl rfl)) hAe hI d_FF_isStep_92
        · replace hf := fh_f c_66 hf
          exact B69 v4 v5 v6 h _ _ _ (lv_sub hl [1, 2, 3] rfl) hI hf
  have B37 : ∀ (v2 : Int32) (v3 : Int32) (v4 : Int32) (v5 : Int32) (v6 : Int32) (h : fh_H) (H : Heap) (locs : List Loc) (ls : Array Slot), lv_has ls 7 [(2, .int v2), (3, .int v3), (4, .int v4), (5, .int v5), (6, .int v6)] → fh_I D classes A s.heap h H locs → b_FF_isStep_37 K N v2 v3 v4 v5 v6 h = some res → W p l e rm_FF_isStep s m [.int a0, .int a1, .int a2, .int a3, .int a4, .int a5].toArray below meth c H locs 0 0 (MQ below (fh_Q D classes h0 s.heap.size (some (.int res.1)) res.2) [.int a0, .int a1, .int a2, .int a3, .int a4, .int a5].toArray s 0 0 A) (F0 m 37 ls []) := by
    intro v2 v3 v4 v5 v6 h H locs ls hl hI hf
    unfold b_FF_isStep_37 at hf
    refine lv_iload hx hb d_FF_isStep_37 (lv_at hl 4 rfl) ?_
    refine lv_iconst (v := 2) hx hb d_FF_isStep_39 (by decide) ?_
    refine lv_icmp_lt (tgt := 53) hx hb d_FF_isStep_40 (by decide) (fun c_40 => ?_) (fun c_40 => ?_)
    · replace hf := fh_t c_40 hf
      exact B53 v3 v4 v5 v6 h _ _ _ (lv_sub hl [1, 2, 3, 4] rfl) hI hf
    · replace hf := fh_f c_40 hf
      refine lv_iload_n hx hb d_FF_isStep_43 rfl (lv_at hl 0 rfl) ?_
      refine lv_if_lt (tgt := 91) hx hb d_FF_isStep_44 (by decide) (fun c_44 => ?_) (fun c_44 => ?_)
      · replace hf := fh_t c_44 hf
        refine lv_iconst (v := 0) hx hb d_FF_isStep_91 (by decide) ?_
        obtain rfl := Option.some.inj hf
        exact fh_iret S hr hk (fh_nb (Or.inl rfl)) hAe hI d_FF_isStep_92
      · replace hf := fh_f c_44 hf
        refine lv_iload_n hx hb d_FF_isStep_47 rfl (lv_at hl 0 rfl) ?_
        refine lv_iload hx hb d_FF_isStep_48 (lv_at hl 3 rfl) ?_
        refine lv_icmp_ge (tgt := 91) hx hb d_FF_isStep_50 (by decide) (fun c_50 => ?_) (fun c_50 => ?_)
        · replace hf := fh_t c_50 hf
          refine lv_iconst (v := 0) hx hb d_FF_isStep_91 (by decide) ?_
          obtain rfl := Option.some.inj hf
          exact fh_iret S hr hk (fh_nb (Or.inl rfl)) hAe hI d_FF_isStep_92
        · replace hf := fh_f c_50 hf
          exact B53 v3 v4 v5 v6 h _ _ _ (lv_sub hl [1, 2, 3, 4] rfl) hI hf
  unfold f_FF_isStep at hf
  refine lv_iload_n hx hb d_FF_isStep_0 rfl (lv_at hl 0 rfl) ?_
  refine lv_if_lt (tgt := 12) hx hb d_FF_isStep_1 (by decide) (fun c_1 => ?_) (fun c_1 => ?_)
  · replace hf := fh_t c_1 hf
    refine lv_iconst (v := 0) hx hb d_FF_isStep_12 (by decide) ?_
    obtain rfl := Option.some.inj hf
    exact fh_iret S hr hk (fh_nb (Or.inl rfl)) hAe hI d_FF_isStep_13
  · replace hf := fh_f c_1 hf
    refine lv_iload_n hx hb d_FF_isStep_4 rfl (lv_at hl 0 rfl) ?_
    refine fh_gett S hE.2.1 hI (k := 1) rfl (hts _ k_50) d_FF_isStep_5 ?_
    refine fh_tlen (x := 14) S hE.2.1 hI (k := 1) rfl rfl d_FF_isStep_8 ?_
    refine lv_icmp_lt (tgt := 14) hx hb d_FF_isStep_9 (by decide) (fun c_9 => ?_) (fun c_9 => ?_)
    · replace hf := fh_t c_9 hf
      refine fh_gett S hE.2.1 hI (k := 1) rfl (hts _ k_50) d_FF_isStep_14 ?_
      refine lv_iload_n hx hb d_FF_isStep_17 rfl (lv_at hl 0 rfl) ?_
      obtain ⟨x2, e_x2, hf⟩ := fh_b hf
      refine fh_tald S hE.2.1 hI (k := 1) rfl e_x2 d_FF_isStep_18 ?_
      refine lv_istore (lv' := [(6, .int x2), (0, .int a0), (1, .int a1), (2, .int a2), (3, .int a3), (4, .int a4), (5, .int a5)]) hx hb d_FF_isStep_19 hl (by decide) rfl (fun ls hl => ?_)
      refine lv_iload hx hb d_FF_isStep_21 (lv_at hl 0 rfl) ?_
      refine lv_iconst (v := 1) hx hb d_FF_isStep_23 (by decide) ?_
      refine lv_icmp_lt (tgt := 37) hx hb d_FF_isStep_24 (by decide) (fun c_24 => ?_) (fun c_24 => ?_)
      · replace hf := fh_t c_24 hf
        exact B37 a2 a3 a4 a5 x2 h0 _ _ _ (lv_sub hl [3, 4, 5, 6, 0] rfl) hI hf
      · replace hf := fh_f c_24 hf
        refine lv_iload_n hx hb d_FF_isStep_27 rfl (lv_at hl 2 rfl) ?_
        refine lv_if_lt (tgt := 91) hx hb d_FF_isStep_28 (by decide) (fun c_28 => ?_) (fun c_28 => ?_)
        · replace hf := fh_t c_28 hf
          refine lv_iconst (v := 0) hx hb d_FF_isStep_91 (by decide) ?_
          obtain rfl := Option.some.inj hf
          exact fh_iret S hr hk (fh_nb (Or.inl rfl)) hAe hI d_FF_isStep_92
        · replace hf := fh_f c_28 hf
          refine lv_iload_n hx hb d_FF_isStep_31 rfl (lv_at hl 2 rfl) ?_
          refine lv_iload hx hb d_FF_isStep_32 (lv_at hl 6 rfl) ?_
          refine lv_icmp_ge (tgt := 91) hx hb d_FF_isStep_34 (by decide) (fun c_34 => ?_) (fun c_34 => ?_)
          · replace hf := fh_t c_34 hf
            refine lv_iconst (v := 0) hx hb d_FF_isStep_91 (by decide) ?_
            obtain rfl := Option.some.inj hf
            exact fh_iret S hr hk (fh_nb (Or.inl rfl)) hAe hI d_FF_isStep_92
          · replace hf := fh_f c_34 hf
            exact B37 a2 a3 a4 a5 x2 h0 _ _ _ (lv_sub hl [3, 4, 5, 6, 0] rfl) hI hf
    · replace hf := fh_f c_9 hf
      refine lv_iconst (v := 0) hx hb d_FF_isStep_12 (by decide) ?_
      obtain rfl := Option.some.inj hf
      exact fh_iret S hr hk (fh_nb (Or.inl rfl)) hAe hI d_FF_isStep_13
theorem d_Pl_write_0 : decode c0_Pl_write 0 = .ok (.getstatic 18, 3) := by decide +kernel
theorem d_Pl_write_3 : decode c0_Pl_write 3 = .ok (.iload_n 2, 1) := by decide +kernel
theorem d_Pl_write_4 : decode c0_Pl_write 4 = .ok (.iaload, 1) := by decide +kernel
theorem d_Pl_write_5 : decode c0_Pl_write 5 = .ok (.istore 7, 2) := by decide +kernel
theorem d_Pl_write_7 : decode c0_Pl_write 7 = .ok (.iload_n 1, 1) := by decide +kernel
theorem d_Pl_write_8 : decode c0_Pl_write 8 = .ok (.iconst 4, 1) := by decide +kernel
theorem d_Pl_write_9 : decode c0_Pl_write 9 = .ok (.imul, 1) := by decide +kernel
theorem d_Pl_write_10 : decode c0_Pl_write 10 = .ok (.istore 8, 2) := by decide +kernel
theorem d_Pl_write_12 : decode c0_Pl_write 12 = .ok (.aload_n 0, 1) := by decide +kernel
theorem d_Pl_write_13 : decode c0_Pl_write 13 = .ok (.getfield 9, 3) := by decide +kernel
theorem d_Pl_write_16 : decode c0_Pl_write 16 = .ok (.iload_n 1, 1) := by decide +kernel
theorem d_Pl_write_17 : decode c0_Pl_write 17 = .ok (.iload_n 2, 1) := by decide +kernel
theorem d_Pl_write_18 : decode c0_Pl_write 18 = .ok (.iastore, 1) := by decide +kernel
theorem d_Pl_write_19 : decode c0_Pl_write 19 = .ok (.aload_n 0, 1) := by decide +kernel
theorem d_Pl_write_20 : decode c0_Pl_write 20 = .ok (.getfield 15, 3) := by decide +kernel
theorem d_Pl_write_23 : decode c0_Pl_write 23 = .ok (.iload 8, 2) := by decide +kernel
theorem d_Pl_write_25 : decode c0_Pl_write 25 = .ok (.iload 7, 2) := by decide +kernel
theorem d_Pl_write_27 : decode c0_Pl_write 27 = .ok (.ifCond .le 7, 3) := by decide +kernel
theorem d_Pl_write_30 : decode c0_Pl_write 30 = .ok (.iload_n 3, 1) := by decide +kernel
theorem d_Pl_write_31 : decode c0_Pl_write 31 = .ok (.goto 4, 3) := by decide +kernel
theorem d_Pl_write_34 : decode c0_Pl_write 34 = .ok (.iconst 0, 1) := by decide +kernel
theorem d_Pl_write_35 : decode c0_Pl_write 35 = .ok (.iastore, 1) := by decide +kernel
theorem d_Pl_write_36 : decode c0_Pl_write 36 = .ok (.aload_n 0, 1) := by decide +kernel
theorem d_Pl_write_37 : decode c0_Pl_write 37 = .ok (.getfield 15, 3) := by decide +kernel
theorem d_Pl_write_40 : decode c0_Pl_write 40 = .ok (.iload 8, 2) := by decide +kernel
theorem d_Pl_write_42 : decode c0_Pl_write 42 = .ok (.iconst 1, 1) := by decide +kernel
theorem d_Pl_write_43 : decode c0_Pl_write 43 = .ok (.iadd, 1) := by decide +kernel
theorem d_Pl_write_44 : decode c0_Pl_write 44 = .ok (.iload 7, 2) := by decide +kernel
theorem d_Pl_write_46 : decode c0_Pl_write 46 = .ok (.iconst 1, 1) := by decide +kernel
theorem d_Pl_write_47 : decode c0_Pl_write 47 = .ok (.if_icmp .le 8, 3) := by decide +kernel
theorem d_Pl_write_50 : decode c0_Pl_write 50 = .ok (.iload 4, 2) := by decide +kernel
theorem d_Pl_write_52 : decode c0_Pl_write 52 = .ok (.goto 4, 3) := by decide +kernel
theorem d_Pl_write_55 : decode c0_Pl_write 55 = .ok (.iconst 0, 1) := by decide +kernel
theorem d_Pl_write_56 : decode c0_Pl_write 56 = .ok (.iastore, 1) := by decide +kernel
theorem d_Pl_write_57 : decode c0_Pl_write 57 = .ok (.aload_n 0, 1) := by decide +kernel
theorem d_Pl_write_58 : decode c0_Pl_write 58 = .ok (.getfield 15, 3) := by decide +kernel
theorem d_Pl_write_61 : decode c0_Pl_write 61 = .ok (.iload 8, 2) := by decide +kernel
theorem d_Pl_write_63 : decode c0_Pl_write 63 = .ok (.iconst 2, 1) := by decide +kernel
theorem d_Pl_write_64 : decode c0_Pl_write 64 = .ok (.iadd, 1) := by decide +kernel
theorem d_Pl_write_65 : decode c0_Pl_write 65 = .ok (.iload 7, 2) := by decide +kernel
theorem d_Pl_write_67 : decode c0_Pl_write 67 = .ok (.iconst 2, 1) := by decide +kernel
theorem d_Pl_write_68 : decode c0_Pl_write 68 = .ok (.if_icmp .le 8, 3) := by decide +kernel
theorem d_Pl_write_71 : decode c0_Pl_write 71 = .ok (.iload 5, 2) := by decide +kernel
theorem d_Pl_write_73 : decode c0_Pl_write 73 = .ok (.goto 4, 3) := by decide +kernel
theorem d_Pl_write_76 : decode c0_Pl_write 76 = .ok (.iconst 0, 1) := by decide +kernel
theorem d_Pl_write_77 : decode c0_Pl_write 77 = .ok (.iastore, 1) := by decide +kernel
theorem d_Pl_write_78 : decode c0_Pl_write 78 = .ok (.aload_n 0, 1) := by decide +kernel
theorem d_Pl_write_79 : decode c0_Pl_write 79 = .ok (.getfield 15, 3) := by decide +kernel
theorem d_Pl_write_82 : decode c0_Pl_write 82 = .ok (.iload 8, 2) := by decide +kernel
theorem d_Pl_write_84 : decode c0_Pl_write 84 = .ok (.iconst 3, 1) := by decide +kernel
theorem d_Pl_write_85 : decode c0_Pl_write 85 = .ok (.iadd, 1) := by decide +kernel
theorem d_Pl_write_86 : decode c0_Pl_write 86 = .ok (.iload 7, 2) := by decide +kernel
theorem d_Pl_write_88 : decode c0_Pl_write 88 = .ok (.iconst 3, 1) := by decide +kernel
theorem d_Pl_write_89 : decode c0_Pl_write 89 = .ok (.if_icmp .le 8, 3) := by decide +kernel
theorem d_Pl_write_92 : decode c0_Pl_write 92 = .ok (.iload 6, 2) := by decide +kernel
theorem d_Pl_write_94 : decode c0_Pl_write 94 = .ok (.goto 4, 3) := by decide +kernel
theorem d_Pl_write_97 : decode c0_Pl_write 97 = .ok (.iconst 0, 1) := by decide +kernel
theorem d_Pl_write_98 : decode c0_Pl_write 98 = .ok (.iastore, 1) := by decide +kernel
theorem d_Pl_write_99 : decode c0_Pl_write 99 = .ok (.return_, 1) := by decide +kernel
def b_Pl_write_77 (K : Nat → ClassId) (N : Nat) (o : Nat) (v6 : Int32) (v7 : Int32) (v8 : Int32) (w0 : Option Nat) (w1 : Int32) (w2 : Int32) (h : fh_H) : Option (fh_H) :=
  (fs_i (K 0) h w0 w1 w2).bind fun h1 => (fg_a h1 (some o) 1 1).bind fun x2 => if v7 ≤ 3 then ((fs_i (K 0) h1 x2 (v8 + 3) 0).bind fun h3 => some h3) else ((fs_i (K 0) h1 x2 (v8 + 3) v6).bind fun h4 => some h4)
def b_Pl_write_56 (K : Nat → ClassId) (N : Nat) (o : Nat) (v5 : Int32) (v6 : Int32) (v7 : Int32) (v8 : Int32) (w0 : Option Nat) (w1 : Int32) (w2 : Int32) (h : fh_H) : Option (fh_H) :=
  (fs_i (K 0) h w0 w1 w2).bind fun h1 => (fg_a h1 (some o) 1 1).bind fun x2 => if v7 ≤ 2 then (b_Pl_write_77 K N o v6 v7 v8 x2 (v8 + 2) 0 h1) else (b_Pl_write_77 K N o v6 v7 v8 x2 (v8 + 2) v5 h1)
def b_Pl_write_35 (K : Nat → ClassId) (N : Nat) (o : Nat) (v4 : Int32) (v5 : Int32) (v6 : Int32) (v7 : Int32) (v8 : Int32) (w0 : Option Nat) (w1 : Int32) (w2 : Int32) (h : fh_H) : Option (fh_H) :=
  (fs_i (K 0) h w0 w1 w2).bind fun h1 => (fg_a h1 (some o) 1 1).bind fun x2 => if v7 ≤ 1 then (b_Pl_write_56 K N o v5 v6 v7 v8 x2 (v8 + 1) 0 h1) else (b_Pl_write_56 K N o v5 v6 v7 v8 x2 (v8 + 1) v4 h1)
def f_Pl_write (K : Nat → ClassId) (N : Nat) (o : Nat) (a1 : Int32) (a2 : Int32) (a3 : Int32) (a4 : Int32) (a5 : Int32) (a6 : Int32) (h0 : fh_H) : Option (fh_H) :=
  (ft_i 14 tb_1 a2).bind fun x1 => (some (a1 * 4)).bind fun x2 => (fg_a h0 (some o) 1 0).bind fun x3 => (fs_i (K 0) h0 x3 a1 a2).bind fun h4 => (fg_a h4 (some o) 1 1).bind fun x5 => if x1 ≤ 0 then (b_Pl_write_35 K N o a4 a5 a6 x1 x2 x5 x2 0 h4) else (b_Pl_write_35 K N o a4 a5 a6 x1 x2 x5 x2 a3 h4)
set_option maxHeartbeats 4000000 in
set_option maxRecDepth 100000 in
theorem c_Pl_write {l : Launch} {D : va_G} {K : Nat → ClassId} {t : Nat → Nat} {N : Nat} {o : Nat} {a1 : Int32} {a2 : Int32} {a3 : Int32} {a4 : Int32} {a5 : Int32} {a6 : Int32} {h0 : fh_H} {res : fh_H} (hf : f_Pl_write K N o a1 a2 a3 a4 a5 a6 h0 = some res) : fC l D K t y_Pl_write c0_Pl_write 9 none rm_Pl_write [.ref o, .int a1, .int a2, .int a3, .int a4, .int a5, .int a6] h0 (none) res := by
  refine fh_body (by decide) (Nat.le_of_ble_eq_true rfl) ?_
  intro p e s m below meth c A ls S hr hk hnm hE hAe hI hl
  obtain ⟨hx, hb, hml, hown, hts⟩ := id S
  have hl : lv_has ls 9 [(0, va_rf (some o)), (1, .int a1), (2, .int a2), (3, .int a3), (4, .int a4), (5, .int a5), (6, .int a6)] := hl
  have B77 : ∀ (v6 : Int32) (v7 : Int32) (v8 : Int32) (w0 : Option Nat) (w1 : Int32) (w2 : Int32) (h : fh_H) (H : Heap) (locs : List Loc) (ls : Array Slot), lv_has ls 9 [(0, va_rf (some o)), (6, .int v6), (7, .int v7), (8, .int v8)] → fh_I D classes A s.heap h H locs → b_Pl_write_77 K N o v6 v7 v8 w0 w1 w2 h = some res → W p l e rm_Pl_write s m [.ref o, .int a1, .int a2, .int a3, .int a4, .int a5, .int a6].toArray below meth c H locs 0 0 (MQ below (fh_Q D classes h0 s.heap.size (none) res) [.ref o, .int a1, .int a2, .int a3, .int a4, .int a5, .int a6].toArray s 0 0 A) (F0 m 77 ls [.int w2, .int w1, va_rf w0]) := by
    intro v6 v7 v8 w0 w1 w2 h H locs ls hl hI hf
    unfold b_Pl_write_77 at hf
    obtain ⟨h1, e_h1, hf⟩ := fh_b hf
    refine fh_iast S hE.1 hI 0 rfl e_h1 d_Pl_write_77 (fun H locs hI => ?_)
    refine fh_aload_n S d_Pl_write_78 rfl (lv_at hl 0 rfl) ?_
    obtain ⟨x2, e_x2, hf⟩ := fh_b hf
    refine fh_geta S hE.1 hI e_x2 (hc := rfl) (hin := in_1) (by decide) (hts _ k_6) d_Pl_write_79 ?_
    refine lv_iload hx hb d_Pl_write_82 (lv_at hl 3 rfl) ?_
    refine lv_iconst (v := 3) hx hb d_Pl_write_84 (by decide) ?_
    refine lv_iadd hx hb d_Pl_write_85 ?_
    refine lv_iload hx hb d_Pl_write_86 (lv_at hl 2 rfl) ?_
    refine lv_iconst (v := 3) hx hb d_Pl_write_88 (by decide) ?_
    refine lv_icmp_le (tgt := 97) hx hb d_Pl_write_89 (by decide) (fun c_89 => ?_) (fun c_89 => ?_)
    · replace hf := fh_t c_89 hf
      refine lv_iconst (v := 0) hx hb d_Pl_write_97 (by decide) ?_
      obtain ⟨h3, e_h3, hf⟩ := fh_b hf
      refine fh_iast S hE.1 hI 0 rfl e_h3 d_Pl_write_98 (fun H locs hI => ?_)
      obtain rfl := Option.some.inj hf
      exact fh_vret S hr hk hAe hI d_Pl_write_99
    · replace hf := fh_f c_89 hf
      refine lv_iload hx hb d_Pl_write_92 (lv_at hl 1 rfl) ?_
      refine lv_goto (tgt := 98) hx hb d_Pl_write_94 (by decide) ?_
      obtain ⟨h4, e_h4, hf⟩ := fh_b hf
      refine fh_iast S hE.1 hI 0 rfl e_h4 d_Pl_write_98 (fun H locs hI => ?_)
      obtain rfl := Option.some.inj hf
      exact fh_vret S hr hk hAe hI d_Pl_write_99
  have B56 : ∀ (v5 : Int32) (v6 : Int32) (v7 : Int32) (v8 : Int32) (w0 : Option Nat) (w1 : Int32) (w2 : Int32) (h : fh_H) (H : Heap) (locs : List Loc) (ls : Array Slot), lv_has ls 9 [(0, va_rf (some o)), (5, .int v5), (6, .int v6), (7, .int v7), (8, .int v8)] → fh_I D classes A s.heap h H locs → b_Pl_write_56 K N o v5 v6 v7 v8 w0 w1 w2 h = some res → W p l e rm_Pl_write s m [.ref o, .int a1, .int a2, .int a3, .int a4, .int a5, .int a6].toArray below meth c H locs 0 0 (MQ below (fh_Q D classes h0 s.heap.size (none) res) [.ref o, .int a1, .int a2, .int a3, .int a4, .int a5, .int a6].toArray s 0 0 A) (F0 m 56 ls [.int w2, .int w1, va_rf w0]) := by
    intro v5 v6 v7 v8 w0 w1 w2 h H locs ls hl hI hf
    unfold b_Pl_write_56 at hf
    obtain ⟨h1, e_h1, hf⟩ := fh_b hf
    refine fh_iast S hE.1 hI 0 rfl e_h1 d_Pl_write_56 (fun H locs hI => ?_)
    refine fh_aload_n S d_Pl_write_57 rfl (lv_at hl 0 rfl) ?_
    obtain ⟨x2, e_x2, hf⟩ := fh_b hf
    refine fh_geta S hE.1 hI e_x2 (hc := rfl) (hin := in_1) (by decide) (hts _ k_6) d_Pl_write_58 ?_
    refine lv_iload hx hb d_Pl_write_61 (lv_at hl 4 rfl) ?_
    refine lv_iconst (v := 2) hx hb d_Pl_write_63 (by decide) ?_
    refine lv_iadd hx hb d_Pl_write_64 ?_
    refine lv_iload hx hb d_Pl_write_65 (lv_at hl 3 rfl) ?_
    refine lv_iconst (v := 2) hx hb d_Pl_write_67 (by decide) ?_
    refine lv_icmp_le (tgt := 76) hx hb d_Pl_write_68 (by decide) (fun c_68 => ?_) (fun c_68 => ?_)
    · replace hf := fh_t c_68 hf
      refine lv_iconst (v := 0) hx hb d_Pl_write_76 (by decide) ?_
      exact B77 v6 v7 v8 x2 (v8 + 2) 0 h1 _ _ _ (lv_sub hl [0, 2, 3, 4] rfl) hI hf
    · replace hf := fh_f c_68 hf
      refine lv_iload hx hb d_Pl_write_71 (lv_at hl 1 rfl) ?_
      refine lv_goto (tgt := 77) hx hb d_Pl_write_73 (by decide) ?_
      exact B77 v6 v7 v8 x2 (v8 + 2) v5 h1 _ _ _ (lv_sub hl [0, 2, 3, 4] rfl) hI hf
  have B35 : ∀ (v4 : Int32) (v5 : Int32) (v6 : Int32) (v7 : Int32) (v8 : Int32) (w0 : Option Nat) (w1 : Int32) (w2 : Int32) (h : fh_H) (H : Heap) (locs : List Loc) (ls : Array Slot), lv_has ls 9 [(0, va_rf (some o)), (4, .int v4), (5, .int v5), (6, .int v6), (7, .int v7), (8, .int v8)] → fh_I D classes A s.heap h H locs → b_Pl_write_35 K N o v4 v5 v6 v7 v8 w0 w1 w2 h = some res → W p l e rm_Pl_write s m [.ref o, .int a1, .int a2, .int a3, .int a4, .int a5, .int a6].toArray below meth c H locs 0 0 (MQ below (fh_Q D classes h0 s.heap.size (none) res) [.ref o, .int a1, .int a2, .int a3, .int a4, .int a5, .int a6].toArray s 0 0 A) (F0 m 35 ls [.int w2, .int w1, va_rf w0]) := by
    intro v4 v5 v6 v7 v8 w0 w1 w2 h H locs ls hl hI hf
    unfold b_Pl_write_35 at hf
    obtain ⟨h1, e_h1, hf⟩ := fh_b hf
    refine fh_iast S hE.1 hI 0 rfl e_h1 d_Pl_write_35 (fun H locs hI => ?_)
    refine fh_aload_n S d_Pl_write_36 rfl (lv_at hl 0 rfl) ?_
    obtain ⟨x2, e_x2, hf⟩ := fh_b hf
    refine fh_geta S hE.1 hI e_x2 (hc := rfl) (hin := in_1) (by decide) (hts _ k_6) d_Pl_write_37 ?_
    refine lv_iload hx hb d_Pl_write_40 (lv_at hl 5 rfl) ?_
    refine lv_iconst (v := 1) hx hb d_Pl_write_42 (by decide) ?_
    refine lv_iadd hx hb d_Pl_write_43 ?_
    refine lv_iload hx hb d_Pl_write_44 (lv_at hl 4 rfl) ?_
    refine lv_iconst (v := 1) hx hb d_Pl_write_46 (by decide) ?_
    refine lv_icmp_le (tgt := 55) hx hb d_Pl_write_47 (by decide) (fun c_47 => ?_) (fun c_47 => ?_)
    · replace hf := fh_t c_47 hf
      refine lv_iconst (v := 0) hx hb d_Pl_write_55 (by decide) ?_
      exact B56 v5 v6 v7 v8 x2 (v8 + 1) 0 h1 _ _ _ (lv_sub hl [0, 2, 3, 4, 5] rfl) hI hf
    · replace hf := fh_f c_47 hf
      refine lv_iload hx hb d_Pl_write_50 (lv_at hl 1 rfl) ?_
      refine lv_goto (tgt := 56) hx hb d_Pl_write_52 (by decide) ?_
      exact B56 v5 v6 v7 v8 x2 (v8 + 1) v4 h1 _ _ _ (lv_sub hl [0, 2, 3, 4, 5] rfl) hI hf
  unfold f_Pl_write at hf
  refine fh_gettN S hE.2.1 hI (k := 1) rfl (hE.2.2.1 _ kn_1).2 d_Pl_write_0 ?_
  refine lv_iload_n hx hb d_Pl_write_3 rfl (lv_at hl 2 rfl) ?_
  obtain ⟨x1, e_x1, hf⟩ := fh_b hf
  refine fh_tald S hE.2.1 hI (k := 1) rfl e_x1 d_Pl_write_4 ?_
  refine lv_istore (lv' := [(7, .int x1), (0, va_rf (some o)), (1, .int a1), (2, .int a2), (3, .int a3), (4, .int a4), (5, .int a5), (6, .int a6)]) hx hb d_Pl_write_5 hl (by decide) rfl (fun ls hl => ?_)
  refine lv_iload_n hx hb d_Pl_write_7 rfl (lv_at hl 2 rfl) ?_
  refine lv_iconst (v := 4) hx hb d_Pl_write_8 (by decide) ?_
  refine lv_imul hx hb d_Pl_write_9 ?_
  obtain ⟨x2, e_x2, hf⟩ := fh_b hf
  refine fh_topi e_x2 ?_
  refine lv_istore (lv' := [(8, .int x2), (7, .int x1), (0, va_rf (some o)), (1, .int a1), (2, .int a2), (3, .int a3), (4, .int a4), (5, .int a5), (6, .int a6)]) hx hb d_Pl_write_10 hl (by decide) rfl (fun ls hl => ?_)
  refine fh_aload_n S d_Pl_write_12 rfl (lv_at hl 2 rfl) ?_
  obtain ⟨x3, e_x3, hf⟩ := fh_b hf
  refine fh_geta S hE.1 hI e_x3 (hc := rfl) (hin := in_1) (by decide) (hts _ k_51) d_Pl_write_13 ?_
  refine lv_iload_n hx hb d_Pl_write_16 rfl (lv_at hl 3 rfl) ?_
  refine lv_iload_n hx hb d_Pl_write_17 rfl (lv_at hl 4 rfl) ?_
  obtain ⟨h4, e_h4, hf⟩ := fh_b hf
  refine fh_iast S hE.1 hI 0 rfl e_h4 d_Pl_write_18 (fun H locs hI => ?_)
  refine fh_aload_n S d_Pl_write_19 rfl (lv_at hl 2 rfl) ?_
  obtain ⟨x5, e_x5, hf⟩ := fh_b hf
  refine fh_geta S hE.1 hI e_x5 (hc := rfl) (hin := in_1) (by decide) (hts _ k_6) d_Pl_write_20 ?_
  refine lv_iload hx hb d_Pl_write_23 (lv_at hl 0 rfl) ?_
  refine lv_iload hx hb d_Pl_write_25 (lv_at hl 1 rfl) ?_
  refine lv_if_le (tgt := 34) hx hb d_Pl_write_27 (by decide) (fun c_27 => ?_) (fun c_27 => ?_)
  · replace hf := fh_t c_27 hf
    refine lv_iconst (v := 0) hx hb d_Pl_write_34 (by decide) ?_
    exact B35 a4 a5 a6 x1 x2 x5 x2 0 h4 _ _ _ (lv_sub hl [2, 6, 7, 8, 1, 0] rfl) hI hf
  · replace hf := fh_f c_27 hf
    refine lv_iload_n hx hb d_Pl_write_30 rfl (lv_at hl 5 rfl) ?_
    refine lv_goto (tgt := 35) hx hb d_Pl_write_31 (by decide) ?_
    exact B35 a4 a5 a6 x1 x2 x5 x2 a3 h4 _ _ _ (lv_sub hl [2, 6, 7, 8, 1, 0] rfl) hI hf
theorem d_FF_step_0 : decode c0_FF_step 0 = .ok (.iload_n 1, 1) := by decide +kernel
theorem d_FF_step_1 : decode c0_FF_step 1 = .ok (.iload_n 2, 1) := by decide +kernel
theorem d_FF_step_2 : decode c0_FF_step 2 = .ok (.iload_n 3, 1) := by decide +kernel
theorem d_FF_step_3 : decode c0_FF_step 3 = .ok (.iload 4, 2) := by decide +kernel
theorem d_FF_step_5 : decode c0_FF_step 5 = .ok (.iload 5, 2) := by decide +kernel
theorem d_FF_step_7 : decode c0_FF_step 7 = .ok (.aload_n 0, 1) := by decide +kernel
theorem d_FF_step_8 : decode c0_FF_step 8 = .ok (.getfield 10, 3) := by decide +kernel
theorem d_FF_step_11 : decode c0_FF_step 11 = .ok (.getfield 40, 3) := by decide +kernel
theorem d_FF_step_14 : decode c0_FF_step 14 = .ok (.invokestatic 43, 3) := by decide +kernel
theorem d_FF_step_17 : decode c0_FF_step 17 = .ok (.ifCond .ne 6, 3) := by decide +kernel
theorem d_FF_step_20 : decode c0_FF_step 20 = .ok (.bipush (-2), 2) := by decide +kernel
theorem d_FF_step_22 : decode c0_FF_step 22 = .ok (.ireturn, 1) := by decide +kernel
theorem d_FF_step_23 : decode c0_FF_step 23 = .ok (.aload_n 0, 1) := by decide +kernel
theorem d_FF_step_24 : decode c0_FF_step 24 = .ok (.getfield 10, 3) := by decide +kernel
theorem d_FF_step_27 : decode c0_FF_step 27 = .ok (.getfield 40, 3) := by decide +kernel
theorem d_FF_step_30 : decode c0_FF_step 30 = .ok (.bipush 10, 2) := by decide +kernel
theorem d_FF_step_32 : decode c0_FF_step 32 = .ok (.if_icmp .lt 6, 3) := by decide +kernel
theorem d_FF_step_35 : decode c0_FF_step 35 = .ok (.bipush (-3), 2) := by decide +kernel
theorem d_FF_step_37 : decode c0_FF_step 37 = .ok (.ireturn, 1) := by decide +kernel
theorem d_FF_step_38 : decode c0_FF_step 38 = .ok (.aload_n 0, 1) := by decide +kernel
theorem d_FF_step_39 : decode c0_FF_step 39 = .ok (.getfield 10, 3) := by decide +kernel
theorem d_FF_step_42 : decode c0_FF_step 42 = .ok (.getfield 40, 3) := by decide +kernel
theorem d_FF_step_45 : decode c0_FF_step 45 = .ok (.istore 6, 2) := by decide +kernel
theorem d_FF_step_47 : decode c0_FF_step 47 = .ok (.aload_n 0, 1) := by decide +kernel
theorem d_FF_step_48 : decode c0_FF_step 48 = .ok (.getfield 10, 3) := by decide +kernel
theorem d_FF_step_51 : decode c0_FF_step 51 = .ok (.iload 6, 2) := by decide +kernel
theorem d_FF_step_53 : decode c0_FF_step 53 = .ok (.iload_n 1, 1) := by decide +kernel
theorem d_FF_step_54 : decode c0_FF_step 54 = .ok (.iload_n 2, 1) := by decide +kernel
theorem d_FF_step_55 : decode c0_FF_step 55 = .ok (.iload_n 3, 1) := by decide +kernel
theorem d_FF_step_56 : decode c0_FF_step 56 = .ok (.iload 4, 2) := by decide +kernel
theorem d_FF_step_58 : decode c0_FF_step 58 = .ok (.iload 5, 2) := by decide +kernel
theorem d_FF_step_60 : decode c0_FF_step 60 = .ok (.invokevirtual 47, 3) := by decide +kernel
theorem d_FF_step_63 : decode c0_FF_step 63 = .ok (.aload_n 0, 1) := by decide +kernel
theorem d_FF_step_64 : decode c0_FF_step 64 = .ok (.getfield 10, 3) := by decide +kernel
theorem d_FF_step_67 : decode c0_FF_step 67 = .ok (.iload 6, 2) := by decide +kernel
theorem d_FF_step_69 : decode c0_FF_step 69 = .ok (.iconst 1, 1) := by decide +kernel
theorem d_FF_step_70 : decode c0_FF_step 70 = .ok (.iadd, 1) := by decide +kernel
theorem d_FF_step_71 : decode c0_FF_step 71 = .ok (.putfield 40, 3) := by decide +kernel
theorem d_FF_step_74 : decode c0_FF_step 74 = .ok (.aload_n 0, 1) := by decide +kernel
theorem d_FF_step_75 : decode c0_FF_step 75 = .ok (.getfield 19, 3) := by decide +kernel
theorem d_FF_step_78 : decode c0_FF_step 78 = .ok (.getfield 51, 3) := by decide +kernel
theorem d_FF_step_81 : decode c0_FF_step 81 = .ok (.aload_n 0, 1) := by decide +kernel
theorem d_FF_step_82 : decode c0_FF_step 82 = .ok (.getfield 10, 3) := by decide +kernel
theorem d_FF_step_85 : decode c0_FF_step 85 = .ok (.iconst (-1), 1) := by decide +kernel
theorem d_FF_step_86 : decode c0_FF_step 86 = .ok (.invokevirtual 54, 3) := by decide +kernel
theorem d_FF_step_89 : decode c0_FF_step 89 = .ok (.aload_n 0, 1) := by decide +kernel
theorem d_FF_step_90 : decode c0_FF_step 90 = .ok (.getfield 19, 3) := by decide +kernel
theorem d_FF_step_93 : decode c0_FF_step 93 = .ok (.aload_n 0, 1) := by decide +kernel
theorem d_FF_step_94 : decode c0_FF_step 94 = .ok (.getfield 10, 3) := by decide +kernel
theorem d_FF_step_97 : decode c0_FF_step 97 = .ok (.getfield 40, 3) := by decide +kernel
theorem d_FF_step_100 : decode c0_FF_step 100 = .ok (.invokevirtual 58, 3) := by decide +kernel
theorem d_FF_step_103 : decode c0_FF_step 103 = .ok (.iload 6, 2) := by decide +kernel
theorem d_FF_step_105 : decode c0_FF_step 105 = .ok (.ireturn, 1) := by decide +kernel
def f_FF_step (K : Nat → ClassId) (N : Nat) (o : Nat) (a1 : Int32) (a2 : Int32) (a3 : Int32) (a4 : Int32) (a5 : Int32) (h0 : fh_H) : Option (Int32 × fh_H) :=
  (fg_a h0 (some o) 0 0).bind fun x1 => (fg_i h0 x1 1 2).bind fun x2 => (f_FF_isStep K N a1 a2 a3 a4 a5 x2 h0).bind fun r3 => if r3.1 = 0 then (some ((-2), r3.2)) else ((fg_a r3.2 (some o) 0 0).bind fun x4 => (fg_i r3.2 x4 1 2).bind fun x5 => if x5 < 10 then ((fg_a r3.2 (some o) 0 0).bind fun x6 => (fg_i r3.2 x6 1 2).bind fun x7 => (fg_a r3.2 (some o) 0 0).bind fun x8 => (fg_o r3.2 x8 1).bind fun o9 => (f_Pl_write K N o9 x7 a1 a2 a3 a4 a5 r3.2).bind fun r10 => (fg_a r10 (some o) 0 0).bind fun x11 => (fp_v r10 x11 1 2 (.int (x7 + 1))).bind fun h12 => (fg_a h12 (some o) 0 1).bind fun x13 => (fg_a h12 x13 2 0).bind fun x14 => (fg_a h12 (some o) 0 0).bind fun x15 => (fg_o h12 x14 3).bind fun o16 => (f_Dr_goOn K N o16 x15 (-1) h12).bind fun r17 => (fg_a r17 (some o) 0 1).bind fun x18 => (fg_a r17 (some o) 0 0).bind fun x19 => (fg_i r17 x19 1 2).bind fun x20 => (fg_o r17 x18 2).bind fun o21 => (f_Fs_forget K N o21 x20 r17).bind fun r22 => some (x7, r22)) else (some ((-3), r3.2)))
set_option maxHeartbeats 4000000 in
set_option maxRecDepth 100000 in
theorem c_FF_step {l : Launch} {D : va_G} {K : Nat → ClassId} {t : Nat → Nat} {N : Nat} {o : Nat} {a1 : Int32} {a2 : Int32} {a3 : Int32} {a4 : Int32} {a5 : Int32} {h0 : fh_H} {res : Int32 × fh_H} (hf : f_FF_step K N o a1 a2 a3 a4 a5 h0 = some res) : fC l D K t y_FF_step c0_FF_step 7 (some .int) rm_FF_step [.ref o, .int a1, .int a2, .int a3, .int a4, .int a5] h0 (some (.int res.1)) res.2 := by
  refine fh_body (by decide) (Nat.le_of_ble_eq_true rfl) ?_
  intro p e s m below meth c A ls S hr hk hnm hE hAe hI hl
  obtain ⟨hx, hb, hml, hown, hts⟩ := id S
  have hl : lv_has ls 7 [(0, va_rf (some o)), (1, .int a1), (2, .int a2), (3, .int a3), (4, .int a4), (5, .int a5)] := hl
  unfold f_FF_step at hf
  refine lv_iload_n hx hb d_FF_step_0 rfl (lv_at hl 1 rfl) ?_
  refine lv_iload_n hx hb d_FF_step_1 rfl (lv_at hl 2 rfl) ?_
  refine lv_iload_n hx hb d_FF_step_2 rfl (lv_at hl 3 rfl) ?_
  refine lv_iload hx hb d_FF_step_3 (lv_at hl 4 rfl) ?_
  refine lv_iload hx hb d_FF_step_5 (lv_at hl 5 rfl) ?_
  refine fh_aload_n S d_FF_step_7 rfl (lv_at hl 0 rfl) ?_
  obtain ⟨x1, e_x1, hf⟩ := fh_b hf
  refine fh_geta S hE.1 hI e_x1 (hc := rfl) (hin := in_0) (by decide) (hts _ k_45) d_FF_step_8 ?_
  obtain ⟨x2, e_x2, hf⟩ := fh_b hf
  refine fh_geti S hE.1 hI e_x2 (hc := rfl) (hin := in_1) (by decide) (hts _ k_47) d_FF_step_11 ?_
  obtain ⟨r3, e_r3, hf⟩ := fh_b hf
  refine fh_callS (As := [.int a1, .int a2, .int a3, .int a4, .int a5, .int x2]) (rest := []) S fT_good hE hI (c_FF_isStep e_r3) fy_FF_isStep fst_FF_isStep k_52 ⟨rfl, rfl⟩ ⟨Nat.le_of_ble_eq_true rfl, Nat.le_of_ble_eq_true rfl⟩ ⟨Nat.zero_le _, Nat.zero_le _⟩ rfl hl.1 rfl (Nat.le_of_ble_eq_true rfl) d_FF_step_14 (fun H locs hI => ?_)
  refine lv_if_ne (tgt := 23) hx hb d_FF_step_17 (by decide) (fun c_17 => ?_) (fun c_17 => ?_)
  · replace hf := fh_f c_17 hf
    refine fh_aload_n S d_FF_step_23 rfl (lv_at hl 0 rfl) ?_
    obtain ⟨x4, e_x4, hf⟩ := fh_b hf
    refine fh_geta S hE.1 hI e_x4 (hc := rfl) (hin := in_0) (by decide) (hts _ k_45) d_FF_step_24 ?_
    obtain ⟨x5, e_x5, hf⟩ := fh_b hf
    refine fh_geti S hE.1 hI e_x5 (hc := rfl) (hin := in_1) (by decide) (hts _ k_47) d_FF_step_27 ?_
    refine lv_bipush (v := 10) hx hb d_FF_step_30 (by decide) ?_
    refine lv_icmp_lt (tgt := 38) hx hb d_FF_step_32 (by decide) (fun c_32 => ?_) (fun c_32 => ?_)
    · replace hf := fh_t c_32 hf
      refine fh_aload_n S d_FF_step_38 rfl (lv_at hl 0 rfl) ?_
      obtain ⟨x6, e_x6, hf⟩ := fh_b hf
      refine fh_geta S hE.1 hI e_x6 (hc := rfl) (hin := in_0) (by decide) (hts _ k_45) d_FF_step_39 ?_
      obtain ⟨x7, e_x7, hf⟩ := fh_b hf
      refine fh_geti S hE.1 hI e_x7 (hc := rfl) (hin := in_1) (by decide) (hts _ k_47) d_FF_step_42 ?_
      refine lv_istore (lv' := [(6, .int x7), (0, va_rf (some o)), (1, .int a1), (2, .int a2), (3, .int a3), (4, .int a4), (5, .int a5)]) hx hb d_FF_step_45 hl (by decide) rfl (fun ls hl => ?_)
      refine fh_aload_n S d_FF_step_47 rfl (lv_at hl 1 rfl) ?_
      obtain ⟨x8, e_x8, hf⟩ := fh_b hf
      refine fh_geta S hE.1 hI e_x8 (hc := rfl) (hin := in_0) (by decide) (hts _ k_45) d_FF_step_48 ?_
      refine lv_iload hx hb d_FF_step_51 (lv_at hl 0 rfl) ?_
      refine lv_iload_n hx hb d_FF_step_53 rfl (lv_at hl 2 rfl) ?_
      refine lv_iload_n hx hb d_FF_step_54 rfl (lv_at hl 3 rfl) ?_
      refine lv_iload_n hx hb d_FF_step_55 rfl (lv_at hl 4 rfl) ?_
      refine lv_iload hx hb d_FF_step_56 (lv_at hl 5 rfl) ?_
      refine lv_iload hx hb d_FF_step_58 (lv_at hl 6 rfl) ?_
      obtain ⟨o9, e_o9, hf⟩ := fh_b hf
      obtain ⟨r10, e_r10, hf⟩ := fh_b hf
      refine fh_callV (As := [.int x7, .int a1, .int a2, .int a3, .int a4, .int a5]) (rest := []) S fT_good hE hI e_o9 rfl (c_Pl_write e_r10) fy_Pl_write fst_Pl_write k_53 ⟨rfl, rfl⟩ ⟨Nat.le_of_ble_eq_true rfl, Nat.le_of_ble_eq_true rfl⟩ ⟨Nat.zero_le _, Nat.zero_le _⟩ rfl hl.1 rfl (Nat.le_of_ble_eq_true rfl) d_FF_step_60 (fun H locs hI => ?_)
      refine fh_aload_n S d_FF_step_63 rfl (lv_at hl 1 rfl) ?_
      obtain ⟨x11, e_x11, hf⟩ := fh_b hf
      refine fh_geta S hE.1 hI e_x11 (hc := rfl) (hin := in_0) (by decide) (hts _ k_45) d_FF_step_64 ?_
      refine lv_iload hx hb d_FF_step_67 (lv_at hl 0 rfl) ?_
      refine lv_iconst (v := 1) hx hb d_FF_step_69 (by decide) ?_
      refine lv_iadd hx hb d_FF_step_70 ?_
      obtain ⟨h12, e_h12, hf⟩ := fh_b hf
      refine fh_putv S hE.1 hI e_h12 (hc := rfl) (hin := in_1) tok_1 nok_1 (by decide) (hts _ k_47) rfl rfl rfl d_FF_step_71 (fun H locs hI => ?_)
      refine fh_aload_n S d_FF_step_74 rfl (lv_at hl 1 rfl) ?_
      obtain ⟨x13, e_x13, hf⟩ := fh_b hf
      refine fh_geta S hE.1 hI e_x13 (hc := rfl) (hin := in_0) (by decide) (hts _ k_40) d_FF_step_75 ?_
      obtain ⟨x14, e_x14, hf⟩ := fh_b hf
      refine fh_geta S hE.1 hI e_x14 (hc := rfl) (hin := in_2) (by decide) (hts _ k_41) d_FF_step_78 ?_
      refine fh_aload_n S d_FF_step_81 rfl (lv_at hl 1 rfl) ?_
      obtain ⟨x15, e_x15, hf⟩ := fh_b hf
      refine fh_geta S hE.1 hI e_x15 (hc := rfl) (hin := in_0) (by decide) (hts _ k_45) d_FF_step_82 ?_
      refine lv_iconst (v := (-1)) hx hb d_FF_step_85 (by decide) ?_
      obtain ⟨o16, e_o16, hf⟩ := fh_b hf
      obtain ⟨r17, e_r17, hf⟩ := fh_b hf
      refine fh_callV (As := [va_rf x15, .int (-1)]) (rest := []) S fT_good hE hI e_o16 rfl (c_Dr_goOn e_r17) fy_Dr_goOn fst_Dr_goOn k_46 ⟨rfl, rfl⟩ ⟨Nat.le_of_ble_eq_true rfl, Nat.le_of_ble_eq_true rfl⟩ ⟨Nat.zero_le _, Nat.zero_le _⟩ rfl hl.1 rfl (Nat.le_of_ble_eq_true rfl) d_FF_step_86 (fun H locs hI => ?_)
      refine fh_aload_n S d_FF_step_89 rfl (lv_at hl 1 rfl) ?_
      obtain ⟨x18, e_x18, hf⟩ := fh_b hf
      refine fh_geta S hE.1 hI e_x18 (hc := rfl) (hin := in_0) (by decide) (hts _ k_40) d_FF_step_90 ?_
      refine fh_aload_n S d_FF_step_93 rfl (lv_at hl 1 rfl) ?_
      obtain ⟨x19, e_x19, hf⟩ := fh_b hf
      refine fh_geta S hE.1 hI e_x19 (hc := rfl) (hin := in_0) (by decide) (hts _ k_45) d_FF_step_94 ?_
      obtain ⟨x20, e_x20, hf⟩ := fh_b hf
      refine fh_geti S hE.1 hI e_x20 (hc := rfl) (hin := in_1) (by decide) (hts _ k_47) d_FF_step_97 ?_
      obtain ⟨o21, e_o21, hf⟩ := fh_b hf
      obtain ⟨r22, e_r22, hf⟩ := fh_b hf
      refine fh_callV (As := [.int x20]) (rest := []) S fT_good hE hI e_o21 rfl (c_Fs_forget e_r22) fy_Fs_forget fst_Fs_forget k_48 ⟨rfl, rfl⟩ ⟨Nat.le_of_ble_eq_true rfl, Nat.le_of_ble_eq_true rfl⟩ ⟨Nat.zero_le _, Nat.zero_le _⟩ rfl hl.1 rfl (Nat.le_of_ble_eq_true rfl) d_FF_step_100 (fun H locs hI => ?_)
      refine lv_iload hx hb d_FF_step_103 (lv_at hl 0 rfl) ?_
      obtain rfl := Option.some.inj hf
      exact fh_iret S hr hk rfl hAe hI d_FF_step_105
    · replace hf := fh_f c_32 hf
      refine lv_bipush (v := (-3)) hx hb d_FF_step_35 (by decide) ?_
      obtain rfl := Option.some.inj hf
      exact fh_iret S hr hk rfl hAe hI d_FF_step_37
  · replace hf := fh_t c_17 hf
    refine lv_bipush (v := (-2)) hx hb d_FF_step_20 (by decide) ?_
    obtain rfl := Option.some.inj hf
    exact fh_iret S hr hk rfl hAe hI d_FF_step_22
