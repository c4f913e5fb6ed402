/-! THE LAW: printed by wip/whole/gen_law.py -/
theorem dL_law_0 : decode code 0 = .ok (.new 7, 3) := by decide +kernel
theorem dL_law_3 : decode code 3 = .ok (.dup, 1) := by decide +kernel
theorem dL_law_4 : decode code 4 = .ok (.invokespecial 9, 3) := by decide +kernel
theorem dL_law_7 : decode code 7 = .ok (.astore_n 1, 1) := by decide +kernel
theorem dL_law_8 : decode code 8 = .ok (.new 10, 3) := by decide +kernel
theorem dL_law_11 : decode code 11 = .ok (.dup, 1) := by decide +kernel
theorem dL_law_12 : decode code 12 = .ok (.invokespecial 12, 3) := by decide +kernel
theorem dL_law_15 : decode code 15 = .ok (.astore_n 2, 1) := by decide +kernel
theorem dL_law_16 : decode code 16 = .ok (.iconst 0, 1) := by decide +kernel
theorem dL_law_17 : decode code 17 = .ok (.istore_n 3, 1) := by decide +kernel
theorem dL_law_18 : decode code 18 = .ok (.iload_n 3, 1) := by decide +kernel
theorem dL_law_19 : decode code 19 = .ok (.aload_n 0, 1) := by decide +kernel
theorem dL_law_20 : decode code 20 = .ok (.arraylength, 1) := by decide +kernel
theorem dL_law_21 : decode code 21 = .ok (.bipush 6, 2) := by decide +kernel
theorem dL_law_23 : decode code 23 = .ok (.isub, 1) := by decide +kernel
theorem dL_law_24 : decode code 24 = .ok (.if_icmp .gt 636, 3) := by decide +kernel
theorem dL_law_27 : decode code 27 = .ok (.aload_n 0, 1) := by decide +kernel
theorem dL_law_28 : decode code 28 = .ok (.iload_n 3, 1) := by decide +kernel
theorem dL_law_29 : decode code 29 = .ok (.iaload, 1) := by decide +kernel
theorem dL_law_30 : decode code 30 = .ok (.bipush 31, 2) := by decide +kernel
theorem dL_law_32 : decode code 32 = .ok (.iand, 1) := by decide +kernel
theorem dL_law_33 : decode code 33 = .ok (.tableswitch 621 0 17 #[87, 150, 173, 186, 209, 232, 265, 298, 351, 374, 387, 400, 423, 446, 479, 512, 545, 588], 87) := by decide +kernel
theorem dL_law_120 : decode code 120 = .ok (.aload_n 1, 1) := by decide +kernel
theorem dL_law_121 : decode code 121 = .ok (.aload_n 0, 1) := by decide +kernel
theorem dL_law_122 : decode code 122 = .ok (.iload_n 3, 1) := by decide +kernel
theorem dL_law_123 : decode code 123 = .ok (.iconst 1, 1) := by decide +kernel
theorem dL_law_124 : decode code 124 = .ok (.iadd, 1) := by decide +kernel
theorem dL_law_125 : decode code 125 = .ok (.iaload, 1) := by decide +kernel
theorem dL_law_126 : decode code 126 = .ok (.aload_n 0, 1) := by decide +kernel
theorem dL_law_127 : decode code 127 = .ok (.iload_n 3, 1) := by decide +kernel
theorem dL_law_128 : decode code 128 = .ok (.iconst 2, 1) := by decide +kernel
theorem dL_law_129 : decode code 129 = .ok (.iadd, 1) := by decide +kernel
theorem dL_law_130 : decode code 130 = .ok (.iaload, 1) := by decide +kernel
theorem dL_law_131 : decode code 131 = .ok (.aload_n 0, 1) := by decide +kernel
theorem dL_law_132 : decode code 132 = .ok (.iload_n 3, 1) := by decide +kernel
theorem dL_law_133 : decode code 133 = .ok (.iconst 3, 1) := by decide +kernel
theorem dL_law_134 : decode code 134 = .ok (.iadd, 1) := by decide +kernel
theorem dL_law_135 : decode code 135 = .ok (.iaload, 1) := by decide +kernel
theorem dL_law_136 : decode code 136 = .ok (.aload_n 0, 1) := by decide +kernel
theorem dL_law_137 : decode code 137 = .ok (.iload_n 3, 1) := by decide +kernel
theorem dL_law_138 : decode code 138 = .ok (.iconst 4, 1) := by decide +kernel
theorem dL_law_139 : decode code 139 = .ok (.iadd, 1) := by decide +kernel
theorem dL_law_140 : decode code 140 = .ok (.iaload, 1) := by decide +kernel
theorem dL_law_141 : decode code 141 = .ok (.aload_n 0, 1) := by decide +kernel
theorem dL_law_142 : decode code 142 = .ok (.iload_n 3, 1) := by decide +kernel
theorem dL_law_143 : decode code 143 = .ok (.iconst 5, 1) := by decide +kernel
theorem dL_law_144 : decode code 144 = .ok (.iadd, 1) := by decide +kernel
theorem dL_law_145 : decode code 145 = .ok (.iaload, 1) := by decide +kernel
theorem dL_law_146 : decode code 146 = .ok (.invokevirtual 13, 3) := by decide +kernel
theorem dL_law_149 : decode code 149 = .ok (.aload_n 2, 1) := by decide +kernel
theorem dL_law_150 : decode code 150 = .ok (.aload_n 0, 1) := by decide +kernel
theorem dL_law_151 : decode code 151 = .ok (.iload_n 3, 1) := by decide +kernel
theorem dL_law_152 : decode code 152 = .ok (.iconst 1, 1) := by decide +kernel
theorem dL_law_153 : decode code 153 = .ok (.iadd, 1) := by decide +kernel
theorem dL_law_154 : decode code 154 = .ok (.iaload, 1) := by decide +kernel
theorem dL_law_155 : decode code 155 = .ok (.aload_n 0, 1) := by decide +kernel
theorem dL_law_156 : decode code 156 = .ok (.iload_n 3, 1) := by decide +kernel
theorem dL_law_157 : decode code 157 = .ok (.iconst 2, 1) := by decide +kernel
theorem dL_law_158 : decode code 158 = .ok (.iadd, 1) := by decide +kernel
theorem dL_law_159 : decode code 159 = .ok (.iaload, 1) := by decide +kernel
theorem dL_law_160 : decode code 160 = .ok (.aload_n 0, 1) := by decide +kernel
theorem dL_law_161 : decode code 161 = .ok (.iload_n 3, 1) := by decide +kernel
theorem dL_law_162 : decode code 162 = .ok (.iconst 3, 1) := by decide +kernel
theorem dL_law_163 : decode code 163 = .ok (.iadd, 1) := by decide +kernel
theorem dL_law_164 : decode code 164 = .ok (.iaload, 1) := by decide +kernel
theorem dL_law_165 : decode code 165 = .ok (.aload_n 0, 1) := by decide +kernel
theorem dL_law_166 : decode code 166 = .ok (.iload_n 3, 1) := by decide +kernel
theorem dL_law_167 : decode code 167 = .ok (.iconst 4, 1) := by decide +kernel
theorem dL_law_168 : decode code 168 = .ok (.iadd, 1) := by decide +kernel
theorem dL_law_169 : decode code 169 = .ok (.iaload, 1) := by decide +kernel
theorem dL_law_170 : decode code 170 = .ok (.aload_n 0, 1) := by decide +kernel
theorem dL_law_171 : decode code 171 = .ok (.iload_n 3, 1) := by decide +kernel
theorem dL_law_172 : decode code 172 = .ok (.iconst 5, 1) := by decide +kernel
theorem dL_law_173 : decode code 173 = .ok (.iadd, 1) := by decide +kernel
theorem dL_law_174 : decode code 174 = .ok (.iaload, 1) := by decide +kernel
theorem dL_law_175 : decode code 175 = .ok (.invokevirtual 17, 3) := by decide +kernel
theorem dL_law_178 : decode code 178 = .ok (.if_icmp .eq 476, 3) := by decide +kernel
theorem dL_law_181 : decode code 181 = .ok (.iconst 0, 1) := by decide +kernel
theorem dL_law_182 : decode code 182 = .ok (.ireturn, 1) := by decide +kernel
theorem dL_law_183 : decode code 183 = .ok (.aload_n 1, 1) := by decide +kernel
theorem dL_law_184 : decode code 184 = .ok (.aload_n 0, 1) := by decide +kernel
theorem dL_law_185 : decode code 185 = .ok (.iload_n 3, 1) := by decide +kernel
theorem dL_law_186 : decode code 186 = .ok (.iconst 1, 1) := by decide +kernel
theorem dL_law_187 : decode code 187 = .ok (.iadd, 1) := by decide +kernel
theorem dL_law_188 : decode code 188 = .ok (.iaload, 1) := by decide +kernel
theorem dL_law_189 : decode code 189 = .ok (.invokevirtual 18, 3) := by decide +kernel
theorem dL_law_192 : decode code 192 = .ok (.aload_n 2, 1) := by decide +kernel
theorem dL_law_193 : decode code 193 = .ok (.aload_n 0, 1) := by decide +kernel
theorem dL_law_194 : decode code 194 = .ok (.iload_n 3, 1) := by decide +kernel
theorem dL_law_195 : decode code 195 = .ok (.iconst 1, 1) := by decide +kernel
theorem dL_law_196 : decode code 196 = .ok (.iadd, 1) := by decide +kernel
theorem dL_law_197 : decode code 197 = .ok (.iaload, 1) := by decide +kernel
theorem dL_law_198 : decode code 198 = .ok (.invokevirtual 22, 3) := by decide +kernel
theorem dL_law_201 : decode code 201 = .ok (.if_icmp .eq 453, 3) := by decide +kernel
theorem dL_law_204 : decode code 204 = .ok (.iconst 0, 1) := by decide +kernel
theorem dL_law_205 : decode code 205 = .ok (.ireturn, 1) := by decide +kernel
theorem dL_law_206 : decode code 206 = .ok (.aload_n 1, 1) := by decide +kernel
theorem dL_law_207 : decode code 207 = .ok (.invokevirtual 23, 3) := by decide +kernel
theorem dL_law_210 : decode code 210 = .ok (.aload_n 2, 1) := by decide +kernel
theorem dL_law_211 : decode code 211 = .ok (.invokevirtual 27, 3) := by decide +kernel
theorem dL_law_214 : decode code 214 = .ok (.if_icmp .eq 440, 3) := by decide +kernel
theorem dL_law_217 : decode code 217 = .ok (.iconst 0, 1) := by decide +kernel
theorem dL_law_218 : decode code 218 = .ok (.ireturn, 1) := by decide +kernel
theorem dL_law_219 : decode code 219 = .ok (.aload_n 1, 1) := by decide +kernel
theorem dL_law_220 : decode code 220 = .ok (.aload_n 0, 1) := by decide +kernel
theorem dL_law_221 : decode code 221 = .ok (.iload_n 3, 1) := by decide +kernel
theorem dL_law_222 : decode code 222 = .ok (.iconst 1, 1) := by decide +kernel
theorem dL_law_223 : decode code 223 = .ok (.iadd, 1) := by decide +kernel
theorem dL_law_224 : decode code 224 = .ok (.iaload, 1) := by decide +kernel
theorem dL_law_225 : decode code 225 = .ok (.invokevirtual 28, 3) := by decide +kernel
theorem dL_law_228 : decode code 228 = .ok (.aload_n 2, 1) := by decide +kernel
theorem dL_law_229 : decode code 229 = .ok (.aload_n 0, 1) := by decide +kernel
theorem dL_law_230 : decode code 230 = .ok (.iload_n 3, 1) := by decide +kernel
theorem dL_law_231 : decode code 231 = .ok (.iconst 1, 1) := by decide +kernel
theorem dL_law_232 : decode code 232 = .ok (.iadd, 1) := by decide +kernel
theorem dL_law_233 : decode code 233 = .ok (.iaload, 1) := by decide +kernel
theorem dL_law_234 : decode code 234 = .ok (.invokevirtual 32, 3) := by decide +kernel
theorem dL_law_237 : decode code 237 = .ok (.if_icmp .eq 417, 3) := by decide +kernel
theorem dL_law_240 : decode code 240 = .ok (.iconst 0, 1) := by decide +kernel
theorem dL_law_241 : decode code 241 = .ok (.ireturn, 1) := by decide +kernel
theorem dL_law_242 : decode code 242 = .ok (.aload_n 1, 1) := by decide +kernel
theorem dL_law_243 : decode code 243 = .ok (.aload_n 0, 1) := by decide +kernel
theorem dL_law_244 : decode code 244 = .ok (.iload_n 3, 1) := by decide +kernel
theorem dL_law_245 : decode code 245 = .ok (.iconst 1, 1) := by decide +kernel
theorem dL_law_246 : decode code 246 = .ok (.iadd, 1) := by decide +kernel
theorem dL_law_247 : decode code 247 = .ok (.iaload, 1) := by decide +kernel
theorem dL_law_248 : decode code 248 = .ok (.invokevirtual 33, 3) := by decide +kernel
theorem dL_law_251 : decode code 251 = .ok (.aload_n 2, 1) := by decide +kernel
theorem dL_law_252 : decode code 252 = .ok (.aload_n 0, 1) := by decide +kernel
theorem dL_law_253 : decode code 253 = .ok (.iload_n 3, 1) := by decide +kernel
theorem dL_law_254 : decode code 254 = .ok (.iconst 1, 1) := by decide +kernel
theorem dL_law_255 : decode code 255 = .ok (.iadd, 1) := by decide +kernel
theorem dL_law_256 : decode code 256 = .ok (.iaload, 1) := by decide +kernel
theorem dL_law_257 : decode code 257 = .ok (.invokevirtual 36, 3) := by decide +kernel
theorem dL_law_260 : decode code 260 = .ok (.if_icmp .eq 394, 3) := by decide +kernel
theorem dL_law_263 : decode code 263 = .ok (.iconst 0, 1) := by decide +kernel
theorem dL_law_264 : decode code 264 = .ok (.ireturn, 1) := by decide +kernel
theorem dL_law_265 : decode code 265 = .ok (.aload_n 1, 1) := by decide +kernel
theorem dL_law_266 : decode code 266 = .ok (.aload_n 0, 1) := by decide +kernel
theorem dL_law_267 : decode code 267 = .ok (.iload_n 3, 1) := by decide +kernel
theorem dL_law_268 : decode code 268 = .ok (.iconst 1, 1) := by decide +kernel
theorem dL_law_269 : decode code 269 = .ok (.iadd, 1) := by decide +kernel
theorem dL_law_270 : decode code 270 = .ok (.iaload, 1) := by decide +kernel
theorem dL_law_271 : decode code 271 = .ok (.aload_n 0, 1) := by decide +kernel
theorem dL_law_272 : decode code 272 = .ok (.iload_n 3, 1) := by decide +kernel
theorem dL_law_273 : decode code 273 = .ok (.iconst 2, 1) := by decide +kernel
theorem dL_law_274 : decode code 274 = .ok (.iadd, 1) := by decide +kernel
theorem dL_law_275 : decode code 275 = .ok (.iaload, 1) := by decide +kernel
theorem dL_law_276 : decode code 276 = .ok (.invokevirtual 37, 3) := by decide +kernel
theorem dL_law_279 : decode code 279 = .ok (.aload_n 2, 1) := by decide +kernel
theorem dL_law_280 : decode code 280 = .ok (.aload_n 0, 1) := by decide +kernel
theorem dL_law_281 : decode code 281 = .ok (.iload_n 3, 1) := by decide +kernel
theorem dL_law_282 : decode code 282 = .ok (.iconst 1, 1) := by decide +kernel
theorem dL_law_283 : decode code 283 = .ok (.iadd, 1) := by decide +kernel
theorem dL_law_284 : decode code 284 = .ok (.iaload, 1) := by decide +kernel
theorem dL_law_285 : decode code 285 = .ok (.aload_n 0, 1) := by decide +kernel
theorem dL_law_286 : decode code 286 = .ok (.iload_n 3, 1) := by decide +kernel
theorem dL_law_287 : decode code 287 = .ok (.iconst 2, 1) := by decide +kernel
theorem dL_law_288 : decode code 288 = .ok (.iadd, 1) := by decide +kernel
theorem dL_law_289 : decode code 289 = .ok (.iaload, 1) := by decide +kernel
theorem dL_law_290 : decode code 290 = .ok (.invokevirtual 41, 3) := by decide +kernel
theorem dL_law_293 : decode code 293 = .ok (.if_icmp .eq 361, 3) := by decide +kernel
theorem dL_law_296 : decode code 296 = .ok (.iconst 0, 1) := by decide +kernel
theorem dL_law_297 : decode code 297 = .ok (.ireturn, 1) := by decide +kernel
theorem dL_law_298 : decode code 298 = .ok (.aload_n 1, 1) := by decide +kernel
theorem dL_law_299 : decode code 299 = .ok (.aload_n 0, 1) := by decide +kernel
theorem dL_law_300 : decode code 300 = .ok (.iload_n 3, 1) := by decide +kernel
theorem dL_law_301 : decode code 301 = .ok (.iconst 1, 1) := by decide +kernel
theorem dL_law_302 : decode code 302 = .ok (.iadd, 1) := by decide +kernel
theorem dL_law_303 : decode code 303 = .ok (.iaload, 1) := by decide +kernel
theorem dL_law_304 : decode code 304 = .ok (.aload_n 0, 1) := by decide +kernel
theorem dL_law_305 : decode code 305 = .ok (.iload_n 3, 1) := by decide +kernel
theorem dL_law_306 : decode code 306 = .ok (.iconst 2, 1) := by decide +kernel
theorem dL_law_307 : decode code 307 = .ok (.iadd, 1) := by decide +kernel
theorem dL_law_308 : decode code 308 = .ok (.iaload, 1) := by decide +kernel
theorem dL_law_309 : decode code 309 = .ok (.invokevirtual 42, 3) := by decide +kernel
theorem dL_law_312 : decode code 312 = .ok (.aload_n 2, 1) := by decide +kernel
theorem dL_law_313 : decode code 313 = .ok (.aload_n 0, 1) := by decide +kernel
theorem dL_law_314 : decode code 314 = .ok (.iload_n 3, 1) := by decide +kernel
theorem dL_law_315 : decode code 315 = .ok (.iconst 1, 1) := by decide +kernel
theorem dL_law_316 : decode code 316 = .ok (.iadd, 1) := by decide +kernel
theorem dL_law_317 : decode code 317 = .ok (.iaload, 1) := by decide +kernel
theorem dL_law_318 : decode code 318 = .ok (.aload_n 0, 1) := by decide +kernel
theorem dL_law_319 : decode code 319 = .ok (.iload_n 3, 1) := by decide +kernel
theorem dL_law_320 : decode code 320 = .ok (.iconst 2, 1) := by decide +kernel
theorem dL_law_321 : decode code 321 = .ok (.iadd, 1) := by decide +kernel
theorem dL_law_322 : decode code 322 = .ok (.iaload, 1) := by decide +kernel
theorem dL_law_323 : decode code 323 = .ok (.invokevirtual 45, 3) := by decide +kernel
theorem dL_law_326 : decode code 326 = .ok (.if_icmp .eq 328, 3) := by decide +kernel
theorem dL_law_329 : decode code 329 = .ok (.iconst 0, 1) := by decide +kernel
theorem dL_law_330 : decode code 330 = .ok (.ireturn, 1) := by decide +kernel
theorem dL_law_331 : decode code 331 = .ok (.aload_n 1, 1) := by decide +kernel
theorem dL_law_332 : decode code 332 = .ok (.aload_n 0, 1) := by decide +kernel
theorem dL_law_333 : decode code 333 = .ok (.iload_n 3, 1) := by decide +kernel
theorem dL_law_334 : decode code 334 = .ok (.iconst 1, 1) := by decide +kernel
theorem dL_law_335 : decode code 335 = .ok (.iadd, 1) := by decide +kernel
theorem dL_law_336 : decode code 336 = .ok (.iaload, 1) := by decide +kernel
theorem dL_law_337 : decode code 337 = .ok (.aload_n 0, 1) := by decide +kernel
theorem dL_law_338 : decode code 338 = .ok (.iload_n 3, 1) := by decide +kernel
theorem dL_law_339 : decode code 339 = .ok (.iconst 2, 1) := by decide +kernel
theorem dL_law_340 : decode code 340 = .ok (.iadd, 1) := by decide +kernel
theorem dL_law_341 : decode code 341 = .ok (.iaload, 1) := by decide +kernel
theorem dL_law_342 : decode code 342 = .ok (.aload_n 0, 1) := by decide +kernel
theorem dL_law_343 : decode code 343 = .ok (.iload_n 3, 1) := by decide +kernel
theorem dL_law_344 : decode code 344 = .ok (.iconst 3, 1) := by decide +kernel
theorem dL_law_345 : decode code 345 = .ok (.iadd, 1) := by decide +kernel
theorem dL_law_346 : decode code 346 = .ok (.iaload, 1) := by decide +kernel
theorem dL_law_347 : decode code 347 = .ok (.aload_n 0, 1) := by decide +kernel
theorem dL_law_348 : decode code 348 = .ok (.iload_n 3, 1) := by decide +kernel
theorem dL_law_349 : decode code 349 = .ok (.iconst 4, 1) := by decide +kernel
theorem dL_law_350 : decode code 350 = .ok (.iadd, 1) := by decide +kernel
theorem dL_law_351 : decode code 351 = .ok (.iaload, 1) := by decide +kernel
theorem dL_law_352 : decode code 352 = .ok (.invokevirtual 46, 3) := by decide +kernel
theorem dL_law_355 : decode code 355 = .ok (.aload_n 2, 1) := by decide +kernel
theorem dL_law_356 : decode code 356 = .ok (.aload_n 0, 1) := by decide +kernel
theorem dL_law_357 : decode code 357 = .ok (.iload_n 3, 1) := by decide +kernel
theorem dL_law_358 : decode code 358 = .ok (.iconst 1, 1) := by decide +kernel
theorem dL_law_359 : decode code 359 = .ok (.iadd, 1) := by decide +kernel
theorem dL_law_360 : decode code 360 = .ok (.iaload, 1) := by decide +kernel
theorem dL_law_361 : decode code 361 = .ok (.aload_n 0, 1) := by decide +kernel
theorem dL_law_362 : decode code 362 = .ok (.iload_n 3, 1) := by decide +kernel
theorem dL_law_363 : decode code 363 = .ok (.iconst 2, 1) := by decide +kernel
theorem dL_law_364 : decode code 364 = .ok (.iadd, 1) := by decide +kernel
theorem dL_law_365 : decode code 365 = .ok (.iaload, 1) := by decide +kernel
theorem dL_law_366 : decode code 366 = .ok (.aload_n 0, 1) := by decide +kernel
theorem dL_law_367 : decode code 367 = .ok (.iload_n 3, 1) := by decide +kernel
theorem dL_law_368 : decode code 368 = .ok (.iconst 3, 1) := by decide +kernel
theorem dL_law_369 : decode code 369 = .ok (.iadd, 1) := by decide +kernel
theorem dL_law_370 : decode code 370 = .ok (.iaload, 1) := by decide +kernel
theorem dL_law_371 : decode code 371 = .ok (.aload_n 0, 1) := by decide +kernel
theorem dL_law_372 : decode code 372 = .ok (.iload_n 3, 1) := by decide +kernel
theorem dL_law_373 : decode code 373 = .ok (.iconst 4, 1) := by decide +kernel
theorem dL_law_374 : decode code 374 = .ok (.iadd, 1) := by decide +kernel
theorem dL_law_375 : decode code 375 = .ok (.iaload, 1) := by decide +kernel
theorem dL_law_376 : decode code 376 = .ok (.invokevirtual 50, 3) := by decide +kernel
theorem dL_law_379 : decode code 379 = .ok (.if_icmp .eq 275, 3) := by decide +kernel
theorem dL_law_382 : decode code 382 = .ok (.iconst 0, 1) := by decide +kernel
theorem dL_law_383 : decode code 383 = .ok (.ireturn, 1) := by decide +kernel
theorem dL_law_384 : decode code 384 = .ok (.aload_n 1, 1) := by decide +kernel
theorem dL_law_385 : decode code 385 = .ok (.aload_n 0, 1) := by decide +kernel
theorem dL_law_386 : decode code 386 = .ok (.iload_n 3, 1) := by decide +kernel
theorem dL_law_387 : decode code 387 = .ok (.iconst 1, 1) := by decide +kernel
theorem dL_law_388 : decode code 388 = .ok (.iadd, 1) := by decide +kernel
theorem dL_law_389 : decode code 389 = .ok (.iaload, 1) := by decide +kernel
theorem dL_law_390 : decode code 390 = .ok (.invokevirtual 51, 3) := by decide +kernel
theorem dL_law_393 : decode code 393 = .ok (.aload_n 2, 1) := by decide +kernel
theorem dL_law_394 : decode code 394 = .ok (.aload_n 0, 1) := by decide +kernel
theorem dL_law_395 : decode code 395 = .ok (.iload_n 3, 1) := by decide +kernel
theorem dL_law_396 : decode code 396 = .ok (.iconst 1, 1) := by decide +kernel
theorem dL_law_397 : decode code 397 = .ok (.iadd, 1) := by decide +kernel
theorem dL_law_398 : decode code 398 = .ok (.iaload, 1) := by decide +kernel
theorem dL_law_399 : decode code 399 = .ok (.invokevirtual 54, 3) := by decide +kernel
theorem dL_law_402 : decode code 402 = .ok (.if_icmp .eq 252, 3) := by decide +kernel
theorem dL_law_405 : decode code 405 = .ok (.iconst 0, 1) := by decide +kernel
theorem dL_law_406 : decode code 406 = .ok (.ireturn, 1) := by decide +kernel
theorem dL_law_407 : decode code 407 = .ok (.aload_n 1, 1) := by decide +kernel
theorem dL_law_408 : decode code 408 = .ok (.invokevirtual 55, 3) := by decide +kernel
theorem dL_law_411 : decode code 411 = .ok (.aload_n 2, 1) := by decide +kernel
theorem dL_law_412 : decode code 412 = .ok (.invokevirtual 59, 3) := by decide +kernel
theorem dL_law_415 : decode code 415 = .ok (.if_icmp .eq 239, 3) := by decide +kernel
theorem dL_law_418 : decode code 418 = .ok (.iconst 0, 1) := by decide +kernel
theorem dL_law_419 : decode code 419 = .ok (.ireturn, 1) := by decide +kernel
theorem dL_law_420 : decode code 420 = .ok (.aload_n 1, 1) := by decide +kernel
theorem dL_law_421 : decode code 421 = .ok (.invokevirtual 60, 3) := by decide +kernel
theorem dL_law_424 : decode code 424 = .ok (.aload_n 2, 1) := by decide +kernel
theorem dL_law_425 : decode code 425 = .ok (.invokevirtual 63, 3) := by decide +kernel
theorem dL_law_428 : decode code 428 = .ok (.if_icmp .eq 226, 3) := by decide +kernel
theorem dL_law_431 : decode code 431 = .ok (.iconst 0, 1) := by decide +kernel
theorem dL_law_432 : decode code 432 = .ok (.ireturn, 1) := by decide +kernel
theorem dL_law_433 : decode code 433 = .ok (.aload_n 1, 1) := by decide +kernel
theorem dL_law_434 : decode code 434 = .ok (.aload_n 0, 1) := by decide +kernel
theorem dL_law_435 : decode code 435 = .ok (.iload_n 3, 1) := by decide +kernel
theorem dL_law_436 : decode code 436 = .ok (.iconst 1, 1) := by decide +kernel
theorem dL_law_437 : decode code 437 = .ok (.iadd, 1) := by decide +kernel
theorem dL_law_438 : decode code 438 = .ok (.iaload, 1) := by decide +kernel
theorem dL_law_439 : decode code 439 = .ok (.invokevirtual 64, 3) := by decide +kernel
theorem dL_law_442 : decode code 442 = .ok (.aload_n 2, 1) := by decide +kernel
theorem dL_law_443 : decode code 443 = .ok (.aload_n 0, 1) := by decide +kernel
theorem dL_law_444 : decode code 444 = .ok (.iload_n 3, 1) := by decide +kernel
theorem dL_law_445 : decode code 445 = .ok (.iconst 1, 1) := by decide +kernel
theorem dL_law_446 : decode code 446 = .ok (.iadd, 1) := by decide +kernel
theorem dL_law_447 : decode code 447 = .ok (.iaload, 1) := by decide +kernel
theorem dL_law_448 : decode code 448 = .ok (.invokevirtual 67, 3) := by decide +kernel
theorem dL_law_451 : decode code 451 = .ok (.if_icmp .eq 203, 3) := by decide +kernel
theorem dL_law_454 : decode code 454 = .ok (.iconst 0, 1) := by decide +kernel
theorem dL_law_455 : decode code 455 = .ok (.ireturn, 1) := by decide +kernel
theorem dL_law_456 : decode code 456 = .ok (.aload_n 1, 1) := by decide +kernel
theorem dL_law_457 : decode code 457 = .ok (.aload_n 0, 1) := by decide +kernel
theorem dL_law_458 : decode code 458 = .ok (.iload_n 3, 1) := by decide +kernel
theorem dL_law_459 : decode code 459 = .ok (.iconst 1, 1) := by decide +kernel
theorem dL_law_460 : decode code 460 = .ok (.iadd, 1) := by decide +kernel
theorem dL_law_461 : decode code 461 = .ok (.iaload, 1) := by decide +kernel
theorem dL_law_462 : decode code 462 = .ok (.invokevirtual 68, 3) := by decide +kernel
theorem dL_law_465 : decode code 465 = .ok (.aload_n 2, 1) := by decide +kernel
theorem dL_law_466 : decode code 466 = .ok (.aload_n 0, 1) := by decide +kernel
theorem dL_law_467 : decode code 467 = .ok (.iload_n 3, 1) := by decide +kernel
theorem dL_law_468 : decode code 468 = .ok (.iconst 1, 1) := by decide +kernel
theorem dL_law_469 : decode code 469 = .ok (.iadd, 1) := by decide +kernel
theorem dL_law_470 : decode code 470 = .ok (.iaload, 1) := by decide +kernel
theorem dL_law_471 : decode code 471 = .ok (.invokevirtual 71, 3) := by decide +kernel
theorem dL_law_474 : decode code 474 = .ok (.if_icmp .eq 180, 3) := by decide +kernel
theorem dL_law_477 : decode code 477 = .ok (.iconst 0, 1) := by decide +kernel
theorem dL_law_478 : decode code 478 = .ok (.ireturn, 1) := by decide +kernel
theorem dL_law_479 : decode code 479 = .ok (.aload_n 1, 1) := by decide +kernel
theorem dL_law_480 : decode code 480 = .ok (.aload_n 0, 1) := by decide +kernel
theorem dL_law_481 : decode code 481 = .ok (.iload_n 3, 1) := by decide +kernel
theorem dL_law_482 : decode code 482 = .ok (.iconst 1, 1) := by decide +kernel
theorem dL_law_483 : decode code 483 = .ok (.iadd, 1) := by decide +kernel
theorem dL_law_484 : decode code 484 = .ok (.iaload, 1) := by decide +kernel
theorem dL_law_485 : decode code 485 = .ok (.aload_n 0, 1) := by decide +kernel
theorem dL_law_486 : decode code 486 = .ok (.iload_n 3, 1) := by decide +kernel
theorem dL_law_487 : decode code 487 = .ok (.iconst 2, 1) := by decide +kernel
theorem dL_law_488 : decode code 488 = .ok (.iadd, 1) := by decide +kernel
theorem dL_law_489 : decode code 489 = .ok (.iaload, 1) := by decide +kernel
theorem dL_law_490 : decode code 490 = .ok (.invokevirtual 72, 3) := by decide +kernel
theorem dL_law_493 : decode code 493 = .ok (.aload_n 2, 1) := by decide +kernel
theorem dL_law_494 : decode code 494 = .ok (.aload_n 0, 1) := by decide +kernel
theorem dL_law_495 : decode code 495 = .ok (.iload_n 3, 1) := by decide +kernel
theorem dL_law_496 : decode code 496 = .ok (.iconst 1, 1) := by decide +kernel
theorem dL_law_497 : decode code 497 = .ok (.iadd, 1) := by decide +kernel
theorem dL_law_498 : decode code 498 = .ok (.iaload, 1) := by decide +kernel
theorem dL_law_499 : decode code 499 = .ok (.aload_n 0, 1) := by decide +kernel
theorem dL_law_500 : decode code 500 = .ok (.iload_n 3, 1) := by decide +kernel
theorem dL_law_501 : decode code 501 = .ok (.iconst 2, 1) := by decide +kernel
theorem dL_law_502 : decode code 502 = .ok (.iadd, 1) := by decide +kernel
theorem dL_law_503 : decode code 503 = .ok (.iaload, 1) := by decide +kernel
theorem dL_law_504 : decode code 504 = .ok (.invokevirtual 75, 3) := by decide +kernel
theorem dL_law_507 : decode code 507 = .ok (.if_icmp .eq 147, 3) := by decide +kernel
theorem dL_law_510 : decode code 510 = .ok (.iconst 0, 1) := by decide +kernel
theorem dL_law_511 : decode code 511 = .ok (.ireturn, 1) := by decide +kernel
theorem dL_law_512 : decode code 512 = .ok (.aload_n 1, 1) := by decide +kernel
theorem dL_law_513 : decode code 513 = .ok (.aload_n 0, 1) := by decide +kernel
theorem dL_law_514 : decode code 514 = .ok (.iload_n 3, 1) := by decide +kernel
theorem dL_law_515 : decode code 515 = .ok (.iconst 1, 1) := by decide +kernel
theorem dL_law_516 : decode code 516 = .ok (.iadd, 1) := by decide +kernel
theorem dL_law_517 : decode code 517 = .ok (.iaload, 1) := by decide +kernel
theorem dL_law_518 : decode code 518 = .ok (.aload_n 0, 1) := by decide +kernel
theorem dL_law_519 : decode code 519 = .ok (.iload_n 3, 1) := by decide +kernel
theorem dL_law_520 : decode code 520 = .ok (.iconst 2, 1) := by decide +kernel
theorem dL_law_521 : decode code 521 = .ok (.iadd, 1) := by decide +kernel
theorem dL_law_522 : decode code 522 = .ok (.iaload, 1) := by decide +kernel
theorem dL_law_523 : decode code 523 = .ok (.invokevirtual 76, 3) := by decide +kernel
theorem dL_law_526 : decode code 526 = .ok (.aload_n 2, 1) := by decide +kernel
theorem dL_law_527 : decode code 527 = .ok (.aload_n 0, 1) := by decide +kernel
theorem dL_law_528 : decode code 528 = .ok (.iload_n 3, 1) := by decide +kernel
theorem dL_law_529 : decode code 529 = .ok (.iconst 1, 1) := by decide +kernel
theorem dL_law_530 : decode code 530 = .ok (.iadd, 1) := by decide +kernel
theorem dL_law_531 : decode code 531 = .ok (.iaload, 1) := by decide +kernel
theorem dL_law_532 : decode code 532 = .ok (.aload_n 0, 1) := by decide +kernel
theorem dL_law_533 : decode code 533 = .ok (.iload_n 3, 1) := by decide +kernel
theorem dL_law_534 : decode code 534 = .ok (.iconst 2, 1) := by decide +kernel
theorem dL_law_535 : decode code 535 = .ok (.iadd, 1) := by decide +kernel
theorem dL_law_536 : decode code 536 = .ok (.iaload, 1) := by decide +kernel
theorem dL_law_537 : decode code 537 = .ok (.invokevirtual 79, 3) := by decide +kernel
theorem dL_law_540 : decode code 540 = .ok (.if_icmp .eq 114, 3) := by decide +kernel
theorem dL_law_543 : decode code 543 = .ok (.iconst 0, 1) := by decide +kernel
theorem dL_law_544 : decode code 544 = .ok (.ireturn, 1) := by decide +kernel
theorem dL_law_545 : decode code 545 = .ok (.aload_n 1, 1) := by decide +kernel
theorem dL_law_546 : decode code 546 = .ok (.aload_n 0, 1) := by decide +kernel
theorem dL_law_547 : decode code 547 = .ok (.iload_n 3, 1) := by decide +kernel
theorem dL_law_548 : decode code 548 = .ok (.iconst 1, 1) := by decide +kernel
theorem dL_law_549 : decode code 549 = .ok (.iadd, 1) := by decide +kernel
theorem dL_law_550 : decode code 550 = .ok (.iaload, 1) := by decide +kernel
theorem dL_law_551 : decode code 551 = .ok (.aload_n 0, 1) := by decide +kernel
theorem dL_law_552 : decode code 552 = .ok (.iload_n 3, 1) := by decide +kernel
theorem dL_law_553 : decode code 553 = .ok (.iconst 2, 1) := by decide +kernel
theorem dL_law_554 : decode code 554 = .ok (.iadd, 1) := by decide +kernel
theorem dL_law_555 : decode code 555 = .ok (.iaload, 1) := by decide +kernel
theorem dL_law_556 : decode code 556 = .ok (.invokevirtual 80, 3) := by decide +kernel
theorem dL_law_559 : decode code 559 = .ok (.aload_n 2, 1) := by decide +kernel
theorem dL_law_560 : decode code 560 = .ok (.aload_n 0, 1) := by decide +kernel
theorem dL_law_561 : decode code 561 = .ok (.iload_n 3, 1) := by decide +kernel
theorem dL_law_562 : decode code 562 = .ok (.iconst 1, 1) := by decide +kernel
theorem dL_law_563 : decode code 563 = .ok (.iadd, 1) := by decide +kernel
theorem dL_law_564 : decode code 564 = .ok (.iaload, 1) := by decide +kernel
theorem dL_law_565 : decode code 565 = .ok (.aload_n 0, 1) := by decide +kernel
theorem dL_law_566 : decode code 566 = .ok (.iload_n 3, 1) := by decide +kernel
theorem dL_law_567 : decode code 567 = .ok (.iconst 2, 1) := by decide +kernel
theorem dL_law_568 : decode code 568 = .ok (.iadd, 1) := by decide +kernel
theorem dL_law_569 : decode code 569 = .ok (.iaload, 1) := by decide +kernel
theorem dL_law_570 : decode code 570 = .ok (.invokevirtual 83, 3) := by decide +kernel
theorem dL_law_573 : decode code 573 = .ok (.if_icmp .eq 81, 3) := by decide +kernel
theorem dL_law_576 : decode code 576 = .ok (.iconst 0, 1) := by decide +kernel
theorem dL_law_577 : decode code 577 = .ok (.ireturn, 1) := by decide +kernel
theorem dL_law_578 : decode code 578 = .ok (.aload_n 1, 1) := by decide +kernel
theorem dL_law_579 : decode code 579 = .ok (.aload_n 0, 1) := by decide +kernel
theorem dL_law_580 : decode code 580 = .ok (.iload_n 3, 1) := by decide +kernel
theorem dL_law_581 : decode code 581 = .ok (.iconst 1, 1) := by decide +kernel
theorem dL_law_582 : decode code 582 = .ok (.iadd, 1) := by decide +kernel
theorem dL_law_583 : decode code 583 = .ok (.iaload, 1) := by decide +kernel
theorem dL_law_584 : decode code 584 = .ok (.aload_n 0, 1) := by decide +kernel
theorem dL_law_585 : decode code 585 = .ok (.iload_n 3, 1) := by decide +kernel
theorem dL_law_586 : decode code 586 = .ok (.iconst 2, 1) := by decide +kernel
theorem dL_law_587 : decode code 587 = .ok (.iadd, 1) := by decide +kernel
theorem dL_law_588 : decode code 588 = .ok (.iaload, 1) := by decide +kernel
theorem dL_law_589 : decode code 589 = .ok (.aload_n 0, 1) := by decide +kernel
theorem dL_law_590 : decode code 590 = .ok (.iload_n 3, 1) := by decide +kernel
theorem dL_law_591 : decode code 591 = .ok (.iconst 3, 1) := by decide +kernel
theorem dL_law_592 : decode code 592 = .ok (.iadd, 1) := by decide +kernel
theorem dL_law_593 : decode code 593 = .ok (.iaload, 1) := by decide +kernel
theorem dL_law_594 : decode code 594 = .ok (.invokevirtual 84, 3) := by decide +kernel
theorem dL_law_597 : decode code 597 = .ok (.aload_n 2, 1) := by decide +kernel
theorem dL_law_598 : decode code 598 = .ok (.aload_n 0, 1) := by decide +kernel
theorem dL_law_599 : decode code 599 = .ok (.iload_n 3, 1) := by decide +kernel
theorem dL_law_600 : decode code 600 = .ok (.iconst 1, 1) := by decide +kernel
theorem dL_law_601 : decode code 601 = .ok (.iadd, 1) := by decide +kernel
theorem dL_law_602 : decode code 602 = .ok (.iaload, 1) := by decide +kernel
theorem dL_law_603 : decode code 603 = .ok (.aload_n 0, 1) := by decide +kernel
theorem dL_law_604 : decode code 604 = .ok (.iload_n 3, 1) := by decide +kernel
theorem dL_law_605 : decode code 605 = .ok (.iconst 2, 1) := by decide +kernel
theorem dL_law_606 : decode code 606 = .ok (.iadd, 1) := by decide +kernel
theorem dL_law_607 : decode code 607 = .ok (.iaload, 1) := by decide +kernel
theorem dL_law_608 : decode code 608 = .ok (.aload_n 0, 1) := by decide +kernel
theorem dL_law_609 : decode code 609 = .ok (.iload_n 3, 1) := by decide +kernel
theorem dL_law_610 : decode code 610 = .ok (.iconst 3, 1) := by decide +kernel
theorem dL_law_611 : decode code 611 = .ok (.iadd, 1) := by decide +kernel
theorem dL_law_612 : decode code 612 = .ok (.iaload, 1) := by decide +kernel
theorem dL_law_613 : decode code 613 = .ok (.invokevirtual 88, 3) := by decide +kernel
theorem dL_law_616 : decode code 616 = .ok (.if_icmp .eq 38, 3) := by decide +kernel
theorem dL_law_619 : decode code 619 = .ok (.iconst 0, 1) := by decide +kernel
theorem dL_law_620 : decode code 620 = .ok (.ireturn, 1) := by decide +kernel
theorem dL_law_621 : decode code 621 = .ok (.aload_n 1, 1) := by decide +kernel
theorem dL_law_622 : decode code 622 = .ok (.aload_n 0, 1) := by decide +kernel
theorem dL_law_623 : decode code 623 = .ok (.iload_n 3, 1) := by decide +kernel
theorem dL_law_624 : decode code 624 = .ok (.iconst 1, 1) := by decide +kernel
theorem dL_law_625 : decode code 625 = .ok (.iadd, 1) := by decide +kernel
theorem dL_law_626 : decode code 626 = .ok (.iaload, 1) := by decide +kernel
theorem dL_law_627 : decode code 627 = .ok (.aload_n 0, 1) := by decide +kernel
theorem dL_law_628 : decode code 628 = .ok (.iload_n 3, 1) := by decide +kernel
theorem dL_law_629 : decode code 629 = .ok (.iconst 2, 1) := by decide +kernel
theorem dL_law_630 : decode code 630 = .ok (.iadd, 1) := by decide +kernel
theorem dL_law_631 : decode code 631 = .ok (.iaload, 1) := by decide +kernel
theorem dL_law_632 : decode code 632 = .ok (.invokevirtual 89, 3) := by decide +kernel
theorem dL_law_635 : decode code 635 = .ok (.aload_n 2, 1) := by decide +kernel
theorem dL_law_636 : decode code 636 = .ok (.aload_n 0, 1) := by decide +kernel
theorem dL_law_637 : decode code 637 = .ok (.iload_n 3, 1) := by decide +kernel
theorem dL_law_638 : decode code 638 = .ok (.iconst 1, 1) := by decide +kernel
theorem dL_law_639 : decode code 639 = .ok (.iadd, 1) := by decide +kernel
theorem dL_law_640 : decode code 640 = .ok (.iaload, 1) := by decide +kernel
theorem dL_law_641 : decode code 641 = .ok (.aload_n 0, 1) := by decide +kernel
theorem dL_law_642 : decode code 642 = .ok (.iload_n 3, 1) := by decide +kernel
theorem dL_law_643 : decode code 643 = .ok (.iconst 2, 1) := by decide +kernel
theorem dL_law_644 : decode code 644 = .ok (.iadd, 1) := by decide +kernel
theorem dL_law_645 : decode code 645 = .ok (.iaload, 1) := by decide +kernel
theorem dL_law_646 : decode code 646 = .ok (.invokevirtual 92, 3) := by decide +kernel
theorem dL_law_649 : decode code 649 = .ok (.if_icmp .eq 5, 3) := by decide +kernel
theorem dL_law_652 : decode code 652 = .ok (.iconst 0, 1) := by decide +kernel
theorem dL_law_653 : decode code 653 = .ok (.ireturn, 1) := by decide +kernel
theorem dL_law_654 : decode code 654 = .ok (.iinc 3 6, 3) := by decide +kernel
theorem dL_law_657 : decode code 657 = .ok (.goto (-639), 3) := by decide +kernel
theorem dL_law_660 : decode code 660 = .ok (.iconst 1, 1) := by decide +kernel
theorem dL_law_661 : decode code 661 = .ok (.ireturn, 1) := by decide +kernel
/-- what is known of the script: an int array of length L that nothing writes -/
def KX (K : a_KT) (L : Nat) (xs : Nat → Int32) : Prop := ∀ (s : State) (A : Nat → Prop) (σ : Nat → Nat), K s s.heap A σ → va_X (σ 2000000) L xs s s.heap ∧ σ 2000000 < s.heap.size ∧ ¬ A (σ 2000000)
section
variable {l : Launch} {K : a_KT} {g : a_GT} {d nc ns : Nat} {y : MethodName} {cc : ByteArray} {nL : Nat} {ret : Option FieldType} {pc : Nat} {ls st : List Value} {h : aH} {Q : Option Value → aH → Prop} {L : Nat} {xs : Nat → Int32}
theorem e_slen (hX : KX K L xs) (hd : decode cc pc = .ok (.arraylength, 1)) (k : E l K g d nc ns y cc nL ret (pc + 1) ls (.int (nI L) :: st) h Q) : E l K g d nc ns y cc nL ret pc ls (.ref 2000000 :: st) h Q := by
  intro p e s m args below meth c cx R hR1 hR2 σ A H locs lsA cells slots Qw hc hs ha hl hk
  obtain ⟨x1, x2, x3⟩ := hX s A σ ha.2.2.2.2
  exact va_slen cx.1 cx.2.1 x1 x2 x3 ha.2.2.1 hd (k p e s m args below meth c cx R hR1 hR2 σ A H locs lsA cells slots Qw hc hs ha hl hk)
theorem e_sld (hX : KX K L xs) {i : Int32} (hd : decode cc pc = .ok (.iaload, 1)) (hi : inb i L) (k : E l K g d nc ns y cc nL ret (pc + 1) ls (.int (xs i.toNatClampNeg) :: st) h Q) : E l K g d nc ns y cc nL ret pc ls (.int i :: .ref 2000000 :: st) h Q := by
  intro p e s m args below meth c cx R hR1 hR2 σ A H locs lsA cells slots Qw hc hs ha hl hk
  obtain ⟨x1, x2, x3⟩ := hX s A σ ha.2.2.2.2
  exact va_sld cx.1 cx.2.1 x1 x2 x3 ha.2.2.1 hi hd (k p e s m args below meth c cx R hR1 hR2 σ A H locs lsA cells slots Qw hc hs ha hl hk)
end
def mLaw (L : Nat) (xs : Nat → Int32) : Nat → iT → iT → jT → fT → Int32 → Option Int32
  | 0, _, _, _, _, _ => none
  | n + 1, I, B, J, F, x3 => if ((nI L) - 6) < x3 then some 1 else if inb x3 L then if ((xs x3.toNatClampNeg) &&& 31) = 0 then if inb (x3 + 1) L then if inb (x3 + 2) L then if inb (x3 + 3) L then if inb (x3 + 4) L then if inb (x3 + 5) L then (mX11_feed I (xs (x3 + 1).toNatClampNeg) (xs (x3 + 2).toNatClampNeg) (xs (x3 + 3).toNatClampNeg) (xs (x3 + 4).toNatClampNeg) (xs (x3 + 5).toNatClampNeg)).bind fun q1 => if inb (x3 + 1) L then if inb (x3 + 2) L then if inb (x3 + 3) L then if inb (x3 + 4) L then if inb (x3 + 5) L then (mX12_feed B (xs (x3 + 1).toNatClampNeg) (xs (x3 + 2).toNatClampNeg) (xs (x3 + 3).toNatClampNeg) (xs (x3 + 4).toNatClampNeg) (xs (x3 + 5).toNatClampNeg)).bind fun q2 => if q1.1 = q2.1 then mLaw L xs n q1.2 q2.2 J F (x3 + 6) else some 0 else none else none else none else none else none else none else none else none else none else none else if ((xs x3.toNatClampNeg) &&& 31) = 1 then if inb (x3 + 1) L then (mX11_end I (xs (x3 + 1).toNatClampNeg)).bind fun q3 => if inb (x3 + 1) L then (mX12_end B (xs (x3 + 1).toNatClampNeg)).bind fun q4 => if q3.1 = q4.1 then mLaw L xs n q3.2 q4.2 J F (x3 + 6) else some 0 else none else none else if ((xs x3.toNatClampNeg) &&& 31) = 2 then (mX11_load I F).bind fun q5 => (mX12_load B J).bind fun q7 => if q5.1 = q7.1 then mLaw L xs n q5.2.1 q7.2.1 q7.2.2 q5.2.2 (x3 + 6) else some 0 else if ((xs x3.toNatClampNeg) &&& 31) = 3 then if inb (x3 + 1) L then (mX11_fault I (xs (x3 + 1).toNatClampNeg)).bind fun q8 => if inb (x3 + 1) L then (mX12_fault B (xs (x3 + 1).toNatClampNeg)).bind fun q9 => if q8 = q9 then mLaw L xs n I B J F (x3 + 6) else some 0 else none else none else if ((xs x3.toNatClampNeg) &&& 31) = 4 then if inb (x3 + 1) L then (mX11_look I F (xs (x3 + 1).toNatClampNeg)).bind fun q10 => if inb (x3 + 1) L then (mX12_look B (xs (x3 + 1).toNatClampNeg)).bind fun q11 => if q10 = q11 then mLaw L xs n I B J F (x3 + 6) else some 0 else none else none else if ((xs x3.toNatClampNeg) &&& 31) = 5 then if inb (x3 + 1) L then if inb (x3 + 2) L then (mX11_def I F (xs (x3 + 1).toNatClampNeg) (xs (x3 + 2).toNatClampNeg)).bind fun q12 => if inb (x3 + 1) L then if inb (x3 + 2) L then (mX12_def B J (xs (x3 + 1).toNatClampNeg) (xs (x3 + 2).toNatClampNeg)).bind fun q13 => if q12 = q13 then mLaw L xs n I B J F (x3 + 6) else some 0 else none else none else none else none else if ((xs x3.toNatClampNeg) &&& 31) = 6 then if inb (x3 + 1) L then if inb (x3 + 2) L then (mX11_print I F (xs (x3 + 1).toNatClampNeg) (xs (x3 + 2).toNatClampNeg)).bind fun q14 => if inb (x3 + 1) L then if inb (x3 + 2) L then (mX12_print B J (xs (x3 + 1).toNatClampNeg) (xs (x3 + 2).toNatClampNeg)).bind fun q15 => if q14.1 = q15.1 then mLaw L xs n q14.2 q15.2 J F (x3 + 6) else some 0 else none else none else none else none else if ((xs x3.toNatClampNeg) &&& 31) = 7 then if inb (x3 + 1) L then if inb (x3 + 2) L then if inb (x3 + 3) L then if inb (x3 + 4) L then (mX11_same I F (xs (x3 + 1).toNatClampNeg) (xs (x3 + 2).toNatClampNeg) (xs (x3 + 3).toNatClampNeg) (xs (x3 + 4).toNatClampNeg)).bind fun q16 => if inb (x3 + 1) L then if inb (x3 + 2) L then if inb (x3 + 3) L then if inb (x3 + 4) L then (mX12_same B J (xs (x3 + 1).toNatClampNeg) (xs (x3 + 2).toNatClampNeg) (xs (x3 + 3).toNatClampNeg) (xs (x3 + 4).toNatClampNeg)).bind fun q17 => if q16 = q17 then mLaw L xs n I B J F (x3 + 6) else some 0 else none else none else none else none else none else none else none else none else if ((xs x3.toNatClampNeg) &&& 31) = 8 then if inb (x3 + 1) L then (mX11_out I (xs (x3 + 1).toNatClampNeg)).bind fun q18 => if inb (x3 + 1) L then (mX12_out B (xs (x3 + 1).toNatClampNeg)).bind fun q19 => if q18 = q19 then mLaw L xs n I B J F (x3 + 6) else some 0 else none else none else if ((xs x3.toNatClampNeg) &&& 31) = 9 then (mX11_begin I F).bind fun q20 => (mX12_begin B J).bind fun q22 => if q20.1 = q22.1 then mLaw L xs n q20.2.1 q22.2 J q20.2.2 (x3 + 6) else some 0 else if ((xs x3.toNatClampNeg) &&& 31) = 10 then (mX11_ready I).bind fun q23 => (mX12_ready B).bind fun q24 => if q23 = q24 then mLaw L xs n I B J F (x3 + 6) else some 0 else if ((xs x3.toNatClampNeg) &&& 31) = 11 then if inb (x3 + 1) L then (mX11_which I (xs (x3 + 1).toNatClampNeg)).bind fun q25 => if inb (x3 + 1) L then (mX12_which B (xs (x3 + 1).toNatClampNeg)).bind fun q26 => if q25 = q26 then mLaw L xs n I B J F (x3 + 6) else some 0 else none else none else if ((xs x3.toNatClampNeg) &&& 31) = 12 then if inb (x3 + 1) L then (mX11_step I F (xs (x3 + 1).toNatClampNeg)).bind fun q27 => if inb (x3 + 1) L then (mX12_step B J (xs (x3 + 1).toNatClampNeg)).bind fun q28 => if q27.1 = q28.1 then mLaw L xs n q27.2 q28.2.1 q28.2.2 F (x3 + 6) else some 0 else none else none else if ((xs x3.toNatClampNeg) &&& 31) = 13 then if inb (x3 + 1) L then if inb (x3 + 2) L then (mX11_run I F (xs (x3 + 1).toNatClampNeg) (xs (x3 + 2).toNatClampNeg)).bind fun q29 => if inb (x3 + 1) L then if inb (x3 + 2) L then (mX12_run B J (xs (x3 + 1).toNatClampNeg) (xs (x3 + 2).toNatClampNeg)).bind fun q30 => if q29.1 = q30.1 then mLaw L xs n q29.2 q30.2.1 q30.2.2 F (x3 + 6) else some 0 else none else none else none else none else if ((xs x3.toNatClampNeg) &&& 31) = 14 then if inb (x3 + 1) L then if inb (x3 + 2) L then (mX11_process I F (xs (x3 + 1).toNatClampNeg) (xs (x3 + 2).toNatClampNeg)).bind fun q31 => if inb (x3 + 1) L then if inb (x3 + 2) L then (mX12_process B (xs (x3 + 1).toNatClampNeg) (xs (x3 + 2).toNatClampNeg)).bind fun q32 => if q31 = q32 then mLaw L xs n I B J F (x3 + 6) else some 0 else none else none else none else none else if ((xs x3.toNatClampNeg) &&& 31) = 15 then if inb (x3 + 1) L then if inb (x3 + 2) L then (mX11_channel I (xs (x3 + 1).toNatClampNeg) (xs (x3 + 2).toNatClampNeg)).bind fun q33 => if inb (x3 + 1) L then if inb (x3 + 2) L then (mX12_channel B (xs (x3 + 1).toNatClampNeg) (xs (x3 + 2).toNatClampNeg)).bind fun q34 => if q33 = q34 then mLaw L xs n I B J F (x3 + 6) else some 0 else none else none else none else none else if ((xs x3.toNatClampNeg) &&& 31) = 16 then if inb (x3 + 1) L then if inb (x3 + 2) L then if inb (x3 + 3) L then (mX11_message I (xs (x3 + 1).toNatClampNeg) (xs (x3 + 2).toNatClampNeg) (xs (x3 + 3).toNatClampNeg)).bind fun q35 => if inb (x3 + 1) L then if inb (x3 + 2) L then if inb (x3 + 3) L then (mX12_message B J (xs (x3 + 1).toNatClampNeg) (xs (x3 + 2).toNatClampNeg) (xs (x3 + 3).toNatClampNeg)).bind fun q36 => if q35 = q36 then mLaw L xs n I B J F (x3 + 6) else some 0 else none else none else none else none else none else none else if ((xs x3.toNatClampNeg) &&& 31) = 17 then if inb (x3 + 1) L then if inb (x3 + 2) L then (mX11_said I (xs (x3 + 1).toNatClampNeg) (xs (x3 + 2).toNatClampNeg)).bind fun q37 => if inb (x3 + 1) L then if inb (x3 + 2) L then (mX12_said B (xs (x3 + 1).toNatClampNeg) (xs (x3 + 2).toNatClampNeg)).bind fun q38 => if q37 = q38 then mLaw L xs n I B J F (x3 + 6) else some 0 else none else none else none else none else mLaw L xs n I B J F (x3 + 6) else none
set_option maxRecDepth 100000 in
set_option maxHeartbeats 4000000 in
theorem tLaw {l : Launch} {K : a_KT} {g : a_GT} (hko : a_kok K) (hS : StrOK l K g) {L : Nat} {xs : Nat → Int32} (hX : KX K L xs) : ∀ (n : Nat) (I B : iT) (J : jT) (F : fT) (x3 : Int32) (hF : FK F) (q : Int32), mLaw L xs n I B J F x3 = some q → E l K g 1000 0 0 x code 4 ret 18 [.ref 2000000, .ref 1, .ref 186, .int x3] [] (hg I B J F) (fun r2 h2 => r2 = some (.int q)) := by
  intro n
  induction n with
  | zero => intro I B J F x3 hF q hm; cases hm
  | succ n ih =>
    intro I B J F x3 hF q hm
    rw [mLaw] at hm
    refine e_iload_n (i := 3) rfl dL_law_18 ?_
    refine e_aload_n (i := 0) rfl dL_law_19 ?_
    refine e_slen hX dL_law_20 ?_
    refine e_bipush (v := 6) (by decide) dL_law_21 ?_
    refine e_isub dL_law_23 ?_
    refine e_icmp_gt 660 dL_law_24 (by decide) (fun c_24 => ?_) (fun c_24 => ?_)
    · have hm := it_p c_24 hm
      refine e_iconst (v := 1) (by decide) dL_law_660 ?_
      refine e_zret dL_law_661 rfl rfl ?_
      have hm := some_in hm
      subst hm
      exact rfl
    · have hm := it_n c_24 hm
      refine e_aload_n (i := 0) rfl dL_law_27 ?_
      refine e_iload_n (i := 3) rfl dL_law_28 ?_
      obtain ⟨c_29, hm⟩ := gd_s hm
      refine e_sld hX dL_law_29 c_29 ?_
      refine e_bipush (v := 31) (by decide) dL_law_30 ?_
      refine e_iand dL_law_32 ?_
      by_cases c_33_0 : ((xs x3.toNatClampNeg) &&& 31) = 0
      · have hm := it_p c_33_0 hm
        refine e_tableIn 120 dL_law_33 (by rw [c_33_0]; decide) (by rw [c_33_0]; decide) (off := 87) (by rw [c_33_0]; decide) (by decide) ?_
        refine e_aload_n (i := 1) rfl dL_law_120 ?_
        refine e_aload_n (i := 0) rfl dL_law_121 ?_
        refine e_iload_n (i := 3) rfl dL_law_122 ?_
        refine e_iconst (v := 1) (by decide) dL_law_123 ?_
        refine e_iadd dL_law_124 ?_
        obtain ⟨c_125, hm⟩ := gd_s hm
        refine e_sld hX dL_law_125 c_125 ?_
        refine e_aload_n (i := 0) rfl dL_law_126 ?_
        refine e_iload_n (i := 3) rfl dL_law_127 ?_
        refine e_iconst (v := 2) (by decide) dL_law_128 ?_
        refine e_iadd dL_law_129 ?_
        obtain ⟨c_130, hm⟩ := gd_s hm
        refine e_sld hX dL_law_130 c_130 ?_
        refine e_aload_n (i := 0) rfl dL_law_131 ?_
        refine e_iload_n (i := 3) rfl dL_law_132 ?_
        refine e_iconst (v := 3) (by decide) dL_law_133 ?_
        refine e_iadd dL_law_134 ?_
        obtain ⟨c_135, hm⟩ := gd_s hm
        refine e_sld hX dL_law_135 c_135 ?_
        refine e_aload_n (i := 0) rfl dL_law_136 ?_
        refine e_iload_n (i := 3) rfl dL_law_137 ?_
        refine e_iconst (v := 4) (by decide) dL_law_138 ?_
        refine e_iadd dL_law_139 ?_
        obtain ⟨c_140, hm⟩ := gd_s hm
        refine e_sld hX dL_law_140 c_140 ?_
        refine e_aload_n (i := 0) rfl dL_law_141 ?_
        refine e_iload_n (i := 3) rfl dL_law_142 ?_
        refine e_iconst (v := 5) (by decide) dL_law_143 ?_
        refine e_iadd dL_law_144 ?_
        obtain ⟨c_145, hm⟩ := gd_s hm
        refine e_sld hX dL_law_145 c_145 ?_
        obtain ⟨q1, eq1, hm⟩ := ob_some hm
        refine e_cV5 hko dL_law_146 ml_RL_13 iz_1 (by decide) rfl (by decide) (Nat.le_of_ble_eq_true rfl) (tX11_feed hko I J F hF (xs (x3 + 1).toNatClampNeg) (xs (x3 + 2).toNatClampNeg) (xs (x3 + 3).toNatClampNeg) (xs (x3 + 4).toNatClampNeg) (xs (x3 + 5).toNatClampNeg) _ eq1) ?_
        rintro _ _ ⟨rfl, rfl⟩
        refine e_aload_n (i := 2) rfl dL_law_149 ?_
        refine e_aload_n (i := 0) rfl dL_law_150 ?_
        refine e_iload_n (i := 3) rfl dL_law_151 ?_
        refine e_iconst (v := 1) (by decide) dL_law_152 ?_
        refine e_iadd dL_law_153 ?_
        obtain ⟨c_154, hm⟩ := gd_s hm
        refine e_sld hX dL_law_154 c_154 ?_
        refine e_aload_n (i := 0) rfl dL_law_155 ?_
        refine e_iload_n (i := 3) rfl dL_law_156 ?_
        refine e_iconst (v := 2) (by decide) dL_law_157 ?_
        refine e_iadd dL_law_158 ?_
        obtain ⟨c_159, hm⟩ := gd_s hm
        refine e_sld hX dL_law_159 c_159 ?_
        refine e_aload_n (i := 0) rfl dL_law_160 ?_
        refine e_iload_n (i := 3) rfl dL_law_161 ?_
        refine e_iconst (v := 3) (by decide) dL_law_162 ?_
        refine e_iadd dL_law_163 ?_
        obtain ⟨c_164, hm⟩ := gd_s hm
        refine e_sld hX dL_law_164 c_164 ?_
        refine e_aload_n (i := 0) rfl dL_law_165 ?_
        refine e_iload_n (i := 3) rfl dL_law_166 ?_
        refine e_iconst (v := 4) (by decide) dL_law_167 ?_
        refine e_iadd dL_law_168 ?_
        obtain ⟨c_169, hm⟩ := gd_s hm
        refine e_sld hX dL_law_169 c_169 ?_
        refine e_aload_n (i := 0) rfl dL_law_170 ?_
        refine e_iload_n (i := 3) rfl dL_law_171 ?_
        refine e_iconst (v := 5) (by decide) dL_law_172 ?_
        refine e_iadd dL_law_173 ?_
        obtain ⟨c_174, hm⟩ := gd_s hm
        refine e_sld hX dL_law_174 c_174 ?_
        obtain ⟨q2, eq2, hm⟩ := ob_some hm
        refine e_cV5 hko dL_law_175 ml_RL_17 iz_186 (by decide) rfl (by decide) (Nat.le_of_ble_eq_true rfl) (tX12_feed hko B J F hF.1 (xs (x3 + 1).toNatClampNeg) (xs (x3 + 2).toNatClampNeg) (xs (x3 + 3).toNatClampNeg) (xs (x3 + 4).toNatClampNeg) (xs (x3 + 5).toNatClampNeg) _ eq2) ?_
        rintro _ _ ⟨rfl, rfl⟩
        refine e_icmp_eq 654 dL_law_178 (by decide) (fun c_178 => ?_) (fun c_178 => ?_)
        · have hm := it_p c_178 hm
          refine q_iinc (i := 3) (x3 + 6) rfl ic_6 rfl dL_law_654 ?_
          refine e_goto 18 dL_law_657 (by decide) ?_
          refine e_weak [.ref 2000000, .ref 1, .ref 186, .int (x3 + 6)] ⟨rfl, ⟨rfl, ⟨rfl, ⟨rfl, trivial⟩⟩⟩⟩ ?_
          exact ih q1.2 q2.2 J F (x3 + 6) hF _ hm
        · have hm := it_n c_178 hm
          refine e_iconst (v := 0) (by decide) dL_law_181 ?_
          refine e_zret dL_law_182 rfl rfl ?_
          have hm := some_in hm
          subst hm
          exact rfl
      have hm := it_n c_33_0 hm
      by_cases c_33_1 : ((xs x3.toNatClampNeg) &&& 31) = 1
      · have hm := it_p c_33_1 hm
        refine e_tableIn 183 dL_law_33 (by rw [c_33_1]; decide) (by rw [c_33_1]; decide) (off := 150) (by rw [c_33_1]; decide) (by decide) ?_
        refine e_aload_n (i := 1) rfl dL_law_183 ?_
        refine e_aload_n (i := 0) rfl dL_law_184 ?_
        refine e_iload_n (i := 3) rfl dL_law_185 ?_
        refine e_iconst (v := 1) (by decide) dL_law_186 ?_
        refine e_iadd dL_law_187 ?_
        obtain ⟨c_188, hm⟩ := gd_s hm
        refine e_sld hX dL_law_188 c_188 ?_
        obtain ⟨q3, eq3, hm⟩ := ob_some hm
        refine e_cV1 hko dL_law_189 ml_RL_18 iz_1 (by decide) rfl (by decide) (Nat.le_of_ble_eq_true rfl) (tX11_end hko I J F hF (xs (x3 + 1).toNatClampNeg) _ eq3) ?_
        rintro _ _ ⟨rfl, rfl⟩
        refine e_aload_n (i := 2) rfl dL_law_192 ?_
        refine e_aload_n (i := 0) rfl dL_law_193 ?_
        refine e_iload_n (i := 3) rfl dL_law_194 ?_
        refine e_iconst (v := 1) (by decide) dL_law_195 ?_
        refine e_iadd dL_law_196 ?_
        obtain ⟨c_197, hm⟩ := gd_s hm
        refine e_sld hX dL_law_197 c_197 ?_
        obtain ⟨q4, eq4, hm⟩ := ob_some hm
        refine e_cV1 hko dL_law_198 ml_RL_22 iz_186 (by decide) rfl (by decide) (Nat.le_of_ble_eq_true rfl) (tX12_end hko B J F hF.1 (xs (x3 + 1).toNatClampNeg) _ eq4) ?_
        rintro _ _ ⟨rfl, rfl⟩
        refine e_icmp_eq 654 dL_law_201 (by decide) (fun c_201 => ?_) (fun c_201 => ?_)
        · have hm := it_p c_201 hm
          refine q_iinc (i := 3) (x3 + 6) rfl ic_6 rfl dL_law_654 ?_
          refine e_goto 18 dL_law_657 (by decide) ?_
          refine e_weak [.ref 2000000, .ref 1, .ref 186, .int (x3 + 6)] ⟨rfl, ⟨rfl, ⟨rfl, ⟨rfl, trivial⟩⟩⟩⟩ ?_
          exact ih q3.2 q4.2 J F (x3 + 6) hF _ hm
        · have hm := it_n c_201 hm
          refine e_iconst (v := 0) (by decide) dL_law_204 ?_
          refine e_zret dL_law_205 rfl rfl ?_
          have hm := some_in hm
          subst hm
          exact rfl
      have hm := it_n c_33_1 hm
      by_cases c_33_2 : ((xs x3.toNatClampNeg) &&& 31) = 2
      · have hm := it_p c_33_2 hm
        refine e_tableIn 206 dL_law_33 (by rw [c_33_2]; decide) (by rw [c_33_2]; decide) (off := 173) (by rw [c_33_2]; decide) (by decide) ?_
        refine e_aload_n (i := 1) rfl dL_law_206 ?_
        obtain ⟨q5, eq5, hm⟩ := ob_some hm
        refine e_cV0 hko dL_law_207 ml_RL_23 iz_1 (by decide) rfl (by decide) (Nat.le_of_ble_eq_true rfl) (tX11_load hko hS I J F hF _ eq5) ?_
        rintro _ _ ⟨rfl, rfl, hF6⟩
        refine e_aload_n (i := 2) rfl dL_law_210 ?_
        obtain ⟨q7, eq7, hm⟩ := ob_some hm
        refine e_cV0 hko dL_law_211 ml_RL_27 iz_186 (by decide) rfl (by decide) (Nat.le_of_ble_eq_true rfl) (tX12_load hko B J q5.2.2 hF6.1 _ eq7) ?_
        rintro _ _ ⟨rfl, rfl⟩
        refine e_icmp_eq 654 dL_law_214 (by decide) (fun c_214 => ?_) (fun c_214 => ?_)
        · have hm := it_p c_214 hm
          refine q_iinc (i := 3) (x3 + 6) rfl ic_6 rfl dL_law_654 ?_
          refine e_goto 18 dL_law_657 (by decide) ?_
          refine e_weak [.ref 2000000, .ref 1, .ref 186, .int (x3 + 6)] ⟨rfl, ⟨rfl, ⟨rfl, ⟨rfl, trivial⟩⟩⟩⟩ ?_
          exact ih q5.2.1 q7.2.1 q7.2.2 q5.2.2 (x3 + 6) hF6 _ hm
        · have hm := it_n c_214 hm
          refine e_iconst (v := 0) (by decide) dL_law_217 ?_
          refine e_zret dL_law_218 rfl rfl ?_
          have hm := some_in hm
          subst hm
          exact rfl
      have hm := it_n c_33_2 hm
      by_cases c_33_3 : ((xs x3.toNatClampNeg) &&& 31) = 3
      · have hm := it_p c_33_3 hm
        refine e_tableIn 219 dL_law_33 (by rw [c_33_3]; decide) (by rw [c_33_3]; decide) (off := 186) (by rw [c_33_3]; decide) (by decide) ?_
        refine e_aload_n (i := 1) rfl dL_law_219 ?_
        refine e_aload_n (i := 0) rfl dL_law_220 ?_
        refine e_iload_n (i := 3) rfl dL_law_221 ?_
        refine e_iconst (v := 1) (by decide) dL_law_222 ?_
        refine e_iadd dL_law_223 ?_
        obtain ⟨c_224, hm⟩ := gd_s hm
        refine e_sld hX dL_law_224 c_224 ?_
        obtain ⟨q8, eq8, hm⟩ := ob_some hm
        refine e_cV1 hko dL_law_225 ml_RL_28 iz_1 (by decide) rfl (by decide) (Nat.le_of_ble_eq_true rfl) (tX11_fault hko I J F hF (xs (x3 + 1).toNatClampNeg) _ eq8) ?_
        rintro _ _ ⟨rfl, rfl⟩
        refine e_aload_n (i := 2) rfl dL_law_228 ?_
        refine e_aload_n (i := 0) rfl dL_law_229 ?_
        refine e_iload_n (i := 3) rfl dL_law_230 ?_
        refine e_iconst (v := 1) (by decide) dL_law_231 ?_
        refine e_iadd dL_law_232 ?_
        obtain ⟨c_233, hm⟩ := gd_s hm
        refine e_sld hX dL_law_233 c_233 ?_
        obtain ⟨q9, eq9, hm⟩ := ob_some hm
        refine e_cV1 hko dL_law_234 ml_RL_32 iz_186 (by decide) rfl (by decide) (Nat.le_of_ble_eq_true rfl) (tX12_fault hko B J F hF.1 (xs (x3 + 1).toNatClampNeg) _ eq9) ?_
        rintro _ _ ⟨rfl, rfl⟩
        refine e_icmp_eq 654 dL_law_237 (by decide) (fun c_237 => ?_) (fun c_237 => ?_)
        · have hm := it_p c_237 hm
          refine q_iinc (i := 3) (x3 + 6) rfl ic_6 rfl dL_law_654 ?_
          refine e_goto 18 dL_law_657 (by decide) ?_
          refine e_weak [.ref 2000000, .ref 1, .ref 186, .int (x3 + 6)] ⟨rfl, ⟨rfl, ⟨rfl, ⟨rfl, trivial⟩⟩⟩⟩ ?_
          exact ih I B J F (x3 + 6) hF _ hm
        · have hm := it_n c_237 hm
          refine e_iconst (v := 0) (by decide) dL_law_240 ?_
          refine e_zret dL_law_241 rfl rfl ?_
          have hm := some_in hm
          subst hm
          exact rfl
      have hm := it_n c_33_3 hm
      by_cases c_33_4 : ((xs x3.toNatClampNeg) &&& 31) = 4
      · have hm := it_p c_33_4 hm
        refine e_tableIn 242 dL_law_33 (by rw [c_33_4]; decide) (by rw [c_33_4]; decide) (off := 209) (by rw [c_33_4]; decide) (by decide) ?_
        refine e_aload_n (i := 1) rfl dL_law_242 ?_
        refine e_aload_n (i := 0) rfl dL_law_243 ?_
        refine e_iload_n (i := 3) rfl dL_law_244 ?_
        refine e_iconst (v := 1) (by decide) dL_law_245 ?_
        refine e_iadd dL_law_246 ?_
        obtain ⟨c_247, hm⟩ := gd_s hm
        refine e_sld hX dL_law_247 c_247 ?_
        obtain ⟨q10, eq10, hm⟩ := ob_some hm
        refine e_cV1 hko dL_law_248 ml_RL_33 iz_1 (by decide) rfl (by decide) (Nat.le_of_ble_eq_true rfl) (tX11_look hko I J F hF (xs (x3 + 1).toNatClampNeg) _ eq10) ?_
        rintro _ _ ⟨rfl, rfl⟩
        refine e_aload_n (i := 2) rfl dL_law_251 ?_
        refine e_aload_n (i := 0) rfl dL_law_252 ?_
        refine e_iload_n (i := 3) rfl dL_law_253 ?_
        refine e_iconst (v := 1) (by decide) dL_law_254 ?_
        refine e_iadd dL_law_255 ?_
        obtain ⟨c_256, hm⟩ := gd_s hm
        refine e_sld hX dL_law_256 c_256 ?_
        obtain ⟨q11, eq11, hm⟩ := ob_some hm
        refine e_cV1 hko dL_law_257 ml_RL_36 iz_186 (by decide) rfl (by decide) (Nat.le_of_ble_eq_true rfl) (tX12_look hko B J F hF.1 (xs (x3 + 1).toNatClampNeg) _ eq11) ?_
        rintro _ _ ⟨rfl, rfl⟩
        refine e_icmp_eq 654 dL_law_260 (by decide) (fun c_260 => ?_) (fun c_260 => ?_)
        · have hm := it_p c_260 hm
          refine q_iinc (i := 3) (x3 + 6) rfl ic_6 rfl dL_law_654 ?_
          refine e_goto 18 dL_law_657 (by decide) ?_
          refine e_weak [.ref 2000000, .ref 1, .ref 186, .int (x3 + 6)] ⟨rfl, ⟨rfl, ⟨rfl, ⟨rfl, trivial⟩⟩⟩⟩ ?_
          exact ih I B J F (x3 + 6) hF _ hm
        · have hm := it_n c_260 hm
          refine e_iconst (v := 0) (by decide) dL_law_263 ?_
          refine e_zret dL_law_264 rfl rfl ?_
          have hm := some_in hm
          subst hm
          exact rfl
      have hm := it_n c_33_4 hm
      by_cases c_33_5 : ((xs x3.toNatClampNeg) &&& 31) = 5
      · have hm := it_p c_33_5 hm
        refine e_tableIn 265 dL_law_33 (by rw [c_33_5]; decide) (by rw [c_33_5]; decide) (off := 232) (by rw [c_33_5]; decide) (by decide) ?_
        refine e_aload_n (i := 1) rfl dL_law_265 ?_
        refine e_aload_n (i := 0) rfl dL_law_266 ?_
        refine e_iload_n (i := 3) rfl dL_law_267 ?_
        refine e_iconst (v := 1) (by decide) dL_law_268 ?_
        refine e_iadd dL_law_269 ?_
        obtain ⟨c_270, hm⟩ := gd_s hm
        refine e_sld hX dL_law_270 c_270 ?_
        refine e_aload_n (i := 0) rfl dL_law_271 ?_
        refine e_iload_n (i := 3) rfl dL_law_272 ?_
        refine e_iconst (v := 2) (by decide) dL_law_273 ?_
        refine e_iadd dL_law_274 ?_
        obtain ⟨c_275, hm⟩ := gd_s hm
        refine e_sld hX dL_law_275 c_275 ?_
        obtain ⟨q12, eq12, hm⟩ := ob_some hm
        refine e_cV2 hko dL_law_276 ml_RL_37 iz_1 (by decide) rfl (by decide) (Nat.le_of_ble_eq_true rfl) (tX11_def hko I J F hF (xs (x3 + 1).toNatClampNeg) (xs (x3 + 2).toNatClampNeg) _ eq12) ?_
        rintro _ _ ⟨rfl, rfl⟩
        refine e_aload_n (i := 2) rfl dL_law_279 ?_
        refine e_aload_n (i := 0) rfl dL_law_280 ?_
        refine e_iload_n (i := 3) rfl dL_law_281 ?_
        refine e_iconst (v := 1) (by decide) dL_law_282 ?_
        refine e_iadd dL_law_283 ?_
        obtain ⟨c_284, hm⟩ := gd_s hm
        refine e_sld hX dL_law_284 c_284 ?_
        refine e_aload_n (i := 0) rfl dL_law_285 ?_
        refine e_iload_n (i := 3) rfl dL_law_286 ?_
        refine e_iconst (v := 2) (by decide) dL_law_287 ?_
        refine e_iadd dL_law_288 ?_
        obtain ⟨c_289, hm⟩ := gd_s hm
        refine e_sld hX dL_law_289 c_289 ?_
        obtain ⟨q13, eq13, hm⟩ := ob_some hm
        refine e_cV2 hko dL_law_290 ml_RL_41 iz_186 (by decide) rfl (by decide) (Nat.le_of_ble_eq_true rfl) (tX12_def hko B J F hF.1 (xs (x3 + 1).toNatClampNeg) (xs (x3 + 2).toNatClampNeg) _ eq13) ?_
        rintro _ _ ⟨rfl, rfl⟩
        refine e_icmp_eq 654 dL_law_293 (by decide) (fun c_293 => ?_) (fun c_293 => ?_)
        · have hm := it_p c_293 hm
          refine q_iinc (i := 3) (x3 + 6) rfl ic_6 rfl dL_law_654 ?_
          refine e_goto 18 dL_law_657 (by decide) ?_
          refine e_weak [.ref 2000000, .ref 1, .ref 186, .int (x3 + 6)] ⟨rfl, ⟨rfl, ⟨rfl, ⟨rfl, trivial⟩⟩⟩⟩ ?_
          exact ih I B J F (x3 + 6) hF _ hm
        · have hm := it_n c_293 hm
          refine e_iconst (v := 0) (by decide) dL_law_296 ?_
          refine e_zret dL_law_297 rfl rfl ?_
          have hm := some_in hm
          subst hm
          exact rfl
      have hm := it_n c_33_5 hm
      by_cases c_33_6 : ((xs x3.toNatClampNeg) &&& 31) = 6
      · have hm := it_p c_33_6 hm
        refine e_tableIn 298 dL_law_33 (by rw [c_33_6]; decide) (by rw [c_33_6]; decide) (off := 265) (by rw [c_33_6]; decide) (by decide) ?_
        refine e_aload_n (i := 1) rfl dL_law_298 ?_
        refine e_aload_n (i := 0) rfl dL_law_299 ?_
        refine e_iload_n (i := 3) rfl dL_law_300 ?_
        refine e_iconst (v := 1) (by decide) dL_law_301 ?_
        refine e_iadd dL_law_302 ?_
        obtain ⟨c_303, hm⟩ := gd_s hm
        refine e_sld hX dL_law_303 c_303 ?_
        refine e_aload_n (i := 0) rfl dL_law_304 ?_
        refine e_iload_n (i := 3) rfl dL_law_305 ?_
        refine e_iconst (v := 2) (by decide) dL_law_306 ?_
        refine e_iadd dL_law_307 ?_
        obtain ⟨c_308, hm⟩ := gd_s hm
        refine e_sld hX dL_law_308 c_308 ?_
        obtain ⟨q14, eq14, hm⟩ := ob_some hm
        refine e_cV2 hko dL_law_309 ml_RL_42 iz_1 (by decide) rfl (by decide) (Nat.le_of_ble_eq_true rfl) (tX11_print hko hS I J F hF (xs (x3 + 1).toNatClampNeg) (xs (x3 + 2).toNatClampNeg) _ eq14) ?_
        rintro _ _ ⟨rfl, rfl⟩
        refine e_aload_n (i := 2) rfl dL_law_312 ?_
        refine e_aload_n (i := 0) rfl dL_law_313 ?_
        refine e_iload_n (i := 3) rfl dL_law_314 ?_
        refine e_iconst (v := 1) (by decide) dL_law_315 ?_
        refine e_iadd dL_law_316 ?_
        obtain ⟨c_317, hm⟩ := gd_s hm
        refine e_sld hX dL_law_317 c_317 ?_
        refine e_aload_n (i := 0) rfl dL_law_318 ?_
        refine e_iload_n (i := 3) rfl dL_law_319 ?_
        refine e_iconst (v := 2) (by decide) dL_law_320 ?_
        refine e_iadd dL_law_321 ?_
        obtain ⟨c_322, hm⟩ := gd_s hm
        refine e_sld hX dL_law_322 c_322 ?_
        obtain ⟨q15, eq15, hm⟩ := ob_some hm
        refine e_cV2 hko dL_law_323 ml_RL_45 iz_186 (by decide) rfl (by decide) (Nat.le_of_ble_eq_true rfl) (tX12_print hko B J F hF.1 (xs (x3 + 1).toNatClampNeg) (xs (x3 + 2).toNatClampNeg) _ eq15) ?_
        rintro _ _ ⟨rfl, rfl⟩
        refine e_icmp_eq 654 dL_law_326 (by decide) (fun c_326 => ?_) (fun c_326 => ?_)
        · have hm := it_p c_326 hm
          refine q_iinc (i := 3) (x3 + 6) rfl ic_6 rfl dL_law_654 ?_
          refine e_goto 18 dL_law_657 (by decide) ?_
          refine e_weak [.ref 2000000, .ref 1, .ref 186, .int (x3 + 6)] ⟨rfl, ⟨rfl, ⟨rfl, ⟨rfl, trivial⟩⟩⟩⟩ ?_
          exact ih q14.2 q15.2 J F (x3 + 6) hF _ hm
        · have hm := it_n c_326 hm
          refine e_iconst (v := 0) (by decide) dL_law_329 ?_
          refine e_zret dL_law_330 rfl rfl ?_
          have hm := some_in hm
          subst hm
          exact rfl
      have hm := it_n c_33_6 hm
      by_cases c_33_7 : ((xs x3.toNatClampNeg) &&& 31) = 7
      · have hm := it_p c_33_7 hm
        refine e_tableIn 331 dL_law_33 (by rw [c_33_7]; decide) (by rw [c_33_7]; decide) (off := 298) (by rw [c_33_7]; decide) (by decide) ?_
        refine e_aload_n (i := 1) rfl dL_law_331 ?_
        refine e_aload_n (i := 0) rfl dL_law_332 ?_
        refine e_iload_n (i := 3) rfl dL_law_333 ?_
        refine e_iconst (v := 1) (by decide) dL_law_334 ?_
        refine e_iadd dL_law_335 ?_
        obtain ⟨c_336, hm⟩ := gd_s hm
        refine e_sld hX dL_law_336 c_336 ?_
        refine e_aload_n (i := 0) rfl dL_law_337 ?_
        refine e_iload_n (i := 3) rfl dL_law_338 ?_
        refine e_iconst (v := 2) (by decide) dL_law_339 ?_
        refine e_iadd dL_law_340 ?_
        obtain ⟨c_341, hm⟩ := gd_s hm
        refine e_sld hX dL_law_341 c_341 ?_
        refine e_aload_n (i := 0) rfl dL_law_342 ?_
        refine e_iload_n (i := 3) rfl dL_law_343 ?_
        refine e_iconst (v := 3) (by decide) dL_law_344 ?_
        refine e_iadd dL_law_345 ?_
        obtain ⟨c_346, hm⟩ := gd_s hm
        refine e_sld hX dL_law_346 c_346 ?_
        refine e_aload_n (i := 0) rfl dL_law_347 ?_
        refine e_iload_n (i := 3) rfl dL_law_348 ?_
        refine e_iconst (v := 4) (by decide) dL_law_349 ?_
        refine e_iadd dL_law_350 ?_
        obtain ⟨c_351, hm⟩ := gd_s hm
        refine e_sld hX dL_law_351 c_351 ?_
        obtain ⟨q16, eq16, hm⟩ := ob_some hm
        refine e_cV4 hko dL_law_352 ml_RL_46 iz_1 (by decide) rfl (by decide) (Nat.le_of_ble_eq_true rfl) (tX11_same hko I J F hF (xs (x3 + 1).toNatClampNeg) (xs (x3 + 2).toNatClampNeg) (xs (x3 + 3).toNatClampNeg) (xs (x3 + 4).toNatClampNeg) _ eq16) ?_
        rintro _ _ ⟨rfl, rfl⟩
        refine e_aload_n (i := 2) rfl dL_law_355 ?_
        refine e_aload_n (i := 0) rfl dL_law_356 ?_
        refine e_iload_n (i := 3) rfl dL_law_357 ?_
        refine e_iconst (v := 1) (by decide) dL_law_358 ?_
        refine e_iadd dL_law_359 ?_
        obtain ⟨c_360, hm⟩ := gd_s hm
        refine e_sld hX dL_law_360 c_360 ?_
        refine e_aload_n (i := 0) rfl dL_law_361 ?_
        refine e_iload_n (i := 3) rfl dL_law_362 ?_
        refine e_iconst (v := 2) (by decide) dL_law_363 ?_
        refine e_iadd dL_law_364 ?_
        obtain ⟨c_365, hm⟩ := gd_s hm
        refine e_sld hX dL_law_365 c_365 ?_
        refine e_aload_n (i := 0) rfl dL_law_366 ?_
        refine e_iload_n (i := 3) rfl dL_law_367 ?_
        refine e_iconst (v := 3) (by decide) dL_law_368 ?_
        refine e_iadd dL_law_369 ?_
        obtain ⟨c_370, hm⟩ := gd_s hm
        refine e_sld hX dL_law_370 c_370 ?_
        refine e_aload_n (i := 0) rfl dL_law_371 ?_
        refine e_iload_n (i := 3) rfl dL_law_372 ?_
        refine e_iconst (v := 4) (by decide) dL_law_373 ?_
        refine e_iadd dL_law_374 ?_
        obtain ⟨c_375, hm⟩ := gd_s hm
        refine e_sld hX dL_law_375 c_375 ?_
        obtain ⟨q17, eq17, hm⟩ := ob_some hm
        refine e_cV4 hko dL_law_376 ml_RL_50 iz_186 (by decide) rfl (by decide) (Nat.le_of_ble_eq_true rfl) (tX12_same hko B J F hF.1 (xs (x3 + 1).toNatClampNeg) (xs (x3 + 2).toNatClampNeg) (xs (x3 + 3).toNatClampNeg) (xs (x3 + 4).toNatClampNeg) _ eq17) ?_
        rintro _ _ ⟨rfl, rfl⟩
        refine e_icmp_eq 654 dL_law_379 (by decide) (fun c_379 => ?_) (fun c_379 => ?_)
        · have hm := it_p c_379 hm
          refine q_iinc (i := 3) (x3 + 6) rfl ic_6 rfl dL_law_654 ?_
          refine e_goto 18 dL_law_657 (by decide) ?_
          refine e_weak [.ref 2000000, .ref 1, .ref 186, .int (x3 + 6)] ⟨rfl, ⟨rfl, ⟨rfl, ⟨rfl, trivial⟩⟩⟩⟩ ?_
          exact ih I B J F (x3 + 6) hF _ hm
        · have hm := it_n c_379 hm
          refine e_iconst (v := 0) (by decide) dL_law_382 ?_
          refine e_zret dL_law_383 rfl rfl ?_
          have hm := some_in hm
          subst hm
          exact rfl
      have hm := it_n c_33_7 hm
      by_cases c_33_8 : ((xs x3.toNatClampNeg) &&& 31) = 8
      · have hm := it_p c_33_8 hm
        refine e_tableIn 384 dL_law_33 (by rw [c_33_8]; decide) (by rw [c_33_8]; decide) (off := 351) (by rw [c_33_8]; decide) (by decide) ?_
        refine e_aload_n (i := 1) rfl dL_law_384 ?_
        refine e_aload_n (i := 0) rfl dL_law_385 ?_
        refine e_iload_n (i := 3) rfl dL_law_386 ?_
        refine e_iconst (v := 1) (by decide) dL_law_387 ?_
        refine e_iadd dL_law_388 ?_
        obtain ⟨c_389, hm⟩ := gd_s hm
        refine e_sld hX dL_law_389 c_389 ?_
        obtain ⟨q18, eq18, hm⟩ := ob_some hm
        refine e_cV1 hko dL_law_390 ml_RL_51 iz_1 (by decide) rfl (by decide) (Nat.le_of_ble_eq_true rfl) (tX11_out hko I J F hF (xs (x3 + 1).toNatClampNeg) _ eq18) ?_
        rintro _ _ ⟨rfl, rfl⟩
        refine e_aload_n (i := 2) rfl dL_law_393 ?_
        refine e_aload_n (i := 0) rfl dL_law_394 ?_
        refine e_iload_n (i := 3) rfl dL_law_395 ?_
        refine e_iconst (v := 1) (by decide) dL_law_396 ?_
        refine e_iadd dL_law_397 ?_
        obtain ⟨c_398, hm⟩ := gd_s hm
        refine e_sld hX dL_law_398 c_398 ?_
        obtain ⟨q19, eq19, hm⟩ := ob_some hm
        refine e_cV1 hko dL_law_399 ml_RL_54 iz_186 (by decide) rfl (by decide) (Nat.le_of_ble_eq_true rfl) (tX12_out hko B J F hF.1 (xs (x3 + 1).toNatClampNeg) _ eq19) ?_
        rintro _ _ ⟨rfl, rfl⟩
        refine e_icmp_eq 654 dL_law_402 (by decide) (fun c_402 => ?_) (fun c_402 => ?_)
        · have hm := it_p c_402 hm
          refine q_iinc (i := 3) (x3 + 6) rfl ic_6 rfl dL_law_654 ?_
          refine e_goto 18 dL_law_657 (by decide) ?_
          refine e_weak [.ref 2000000, .ref 1, .ref 186, .int (x3 + 6)] ⟨rfl, ⟨rfl, ⟨rfl, ⟨rfl, trivial⟩⟩⟩⟩ ?_
          exact ih I B J F (x3 + 6) hF _ hm
        · have hm := it_n c_402 hm
          refine e_iconst (v := 0) (by decide) dL_law_405 ?_
          refine e_zret dL_law_406 rfl rfl ?_
          have hm := some_in hm
          subst hm
          exact rfl
      have hm := it_n c_33_8 hm
      by_cases c_33_9 : ((xs x3.toNatClampNeg) &&& 31) = 9
      · have hm := it_p c_33_9 hm
        refine e_tableIn 407 dL_law_33 (by rw [c_33_9]; decide) (by rw [c_33_9]; decide) (off := 374) (by rw [c_33_9]; decide) (by decide) ?_
        refine e_aload_n (i := 1) rfl dL_law_407 ?_
        obtain ⟨q20, eq20, hm⟩ := ob_some hm
        refine e_cV0 hko dL_law_408 ml_RL_55 iz_1 (by decide) rfl (by decide) (Nat.le_of_ble_eq_true rfl) (tX11_begin hko I J F hF _ eq20) ?_
        rintro _ _ ⟨rfl, rfl, hF21⟩
        refine e_aload_n (i := 2) rfl dL_law_411 ?_
        obtain ⟨q22, eq22, hm⟩ := ob_some hm
        refine e_cV0 hko dL_law_412 ml_RL_59 iz_186 (by decide) rfl (by decide) (Nat.le_of_ble_eq_true rfl) (tX12_begin hko B J q20.2.2 hF21.1 _ eq22) ?_
        rintro _ _ ⟨rfl, rfl⟩
        refine e_icmp_eq 654 dL_law_415 (by decide) (fun c_415 => ?_) (fun c_415 => ?_)
        · have hm := it_p c_415 hm
          refine q_iinc (i := 3) (x3 + 6) rfl ic_6 rfl dL_law_654 ?_
          refine e_goto 18 dL_law_657 (by decide) ?_
          refine e_weak [.ref 2000000, .ref 1, .ref 186, .int (x3 + 6)] ⟨rfl, ⟨rfl, ⟨rfl, ⟨rfl, trivial⟩⟩⟩⟩ ?_
          exact ih q20.2.1 q22.2 J q20.2.2 (x3 + 6) hF21 _ hm
        · have hm := it_n c_415 hm
          refine e_iconst (v := 0) (by decide) dL_law_418 ?_
          refine e_zret dL_law_419 rfl rfl ?_
          have hm := some_in hm
          subst hm
          exact rfl
      have hm := it_n c_33_9 hm
      by_cases c_33_10 : ((xs x3.toNatClampNeg) &&& 31) = 10
      · have hm := it_p c_33_10 hm
        refine e_tableIn 420 dL_law_33 (by rw [c_33_10]; decide) (by rw [c_33_10]; decide) (off := 387) (by rw [c_33_10]; decide) (by decide) ?_
        refine e_aload_n (i := 1) rfl dL_law_420 ?_
        obtain ⟨q23, eq23, hm⟩ := ob_some hm
        refine e_cV0 hko dL_law_421 ml_RL_60 iz_1 (by decide) rfl (by decide) (Nat.le_of_ble_eq_true rfl) (tX11_ready hko I J F hF _ eq23) ?_
        rintro _ _ ⟨rfl, rfl⟩
        refine e_aload_n (i := 2) rfl dL_law_424 ?_
        obtain ⟨q24, eq24, hm⟩ := ob_some hm
        refine e_cV0 hko dL_law_425 ml_RL_63 iz_186 (by decide) rfl (by decide) (Nat.le_of_ble_eq_true rfl) (tX12_ready hko B J F hF.1 _ eq24) ?_
        rintro _ _ ⟨rfl, rfl⟩
        refine e_icmp_eq 654 dL_law_428 (by decide) (fun c_428 => ?_) (fun c_428 => ?_)
        · have hm := it_p c_428 hm
          refine q_iinc (i := 3) (x3 + 6) rfl ic_6 rfl dL_law_654 ?_
          refine e_goto 18 dL_law_657 (by decide) ?_
          refine e_weak [.ref 2000000, .ref 1, .ref 186, .int (x3 + 6)] ⟨rfl, ⟨rfl, ⟨rfl, ⟨rfl, trivial⟩⟩⟩⟩ ?_
          exact ih I B J F (x3 + 6) hF _ hm
        · have hm := it_n c_428 hm
          refine e_iconst (v := 0) (by decide) dL_law_431 ?_
          refine e_zret dL_law_432 rfl rfl ?_
          have hm := some_in hm
          subst hm
          exact rfl
      have hm := it_n c_33_10 hm
      by_cases c_33_11 : ((xs x3.toNatClampNeg) &&& 31) = 11
      · have hm := it_p c_33_11 hm
        refine e_tableIn 433 dL_law_33 (by rw [c_33_11]; decide) (by rw [c_33_11]; decide) (off := 400) (by rw [c_33_11]; decide) (by decide) ?_
        refine e_aload_n (i := 1) rfl dL_law_433 ?_
        refine e_aload_n (i := 0) rfl dL_law_434 ?_
        refine e_iload_n (i := 3) rfl dL_law_435 ?_
        refine e_iconst (v := 1) (by decide) dL_law_436 ?_
        refine e_iadd dL_law_437 ?_
        obtain ⟨c_438, hm⟩ := gd_s hm
        refine e_sld hX dL_law_438 c_438 ?_
        obtain ⟨q25, eq25, hm⟩ := ob_some hm
        refine e_cV1 hko dL_law_439 ml_RL_64 iz_1 (by decide) rfl (by decide) (Nat.le_of_ble_eq_true rfl) (tX11_which hko I J F hF (xs (x3 + 1).toNatClampNeg) _ eq25) ?_
        rintro _ _ ⟨rfl, rfl⟩
        refine e_aload_n (i := 2) rfl dL_law_442 ?_
        refine e_aload_n (i := 0) rfl dL_law_443 ?_
        refine e_iload_n (i := 3) rfl dL_law_444 ?_
        refine e_iconst (v := 1) (by decide) dL_law_445 ?_
        refine e_iadd dL_law_446 ?_
        obtain ⟨c_447, hm⟩ := gd_s hm
        refine e_sld hX dL_law_447 c_447 ?_
        obtain ⟨q26, eq26, hm⟩ := ob_some hm
        refine e_cV1 hko dL_law_448 ml_RL_67 iz_186 (by decide) rfl (by decide) (Nat.le_of_ble_eq_true rfl) (tX12_which hko B J F hF.1 (xs (x3 + 1).toNatClampNeg) _ eq26) ?_
        rintro _ _ ⟨rfl, rfl⟩
        refine e_icmp_eq 654 dL_law_451 (by decide) (fun c_451 => ?_) (fun c_451 => ?_)
        · have hm := it_p c_451 hm
          refine q_iinc (i := 3) (x3 + 6) rfl ic_6 rfl dL_law_654 ?_
          refine e_goto 18 dL_law_657 (by decide) ?_
          refine e_weak [.ref 2000000, .ref 1, .ref 186, .int (x3 + 6)] ⟨rfl, ⟨rfl, ⟨rfl, ⟨rfl, trivial⟩⟩⟩⟩ ?_
          exact ih I B J F (x3 + 6) hF _ hm
        · have hm := it_n c_451 hm
          refine e_iconst (v := 0) (by decide) dL_law_454 ?_
          refine e_zret dL_law_455 rfl rfl ?_
          have hm := some_in hm
          subst hm
          exact rfl
      have hm := it_n c_33_11 hm
      by_cases c_33_12 : ((xs x3.toNatClampNeg) &&& 31) = 12
      · have hm := it_p c_33_12 hm
        refine e_tableIn 456 dL_law_33 (by rw [c_33_12]; decide) (by rw [c_33_12]; decide) (off := 423) (by rw [c_33_12]; decide) (by decide) ?_
        refine e_aload_n (i := 1) rfl dL_law_456 ?_
        refine e_aload_n (i := 0) rfl dL_law_457 ?_
        refine e_iload_n (i := 3) rfl dL_law_458 ?_
        refine e_iconst (v := 1) (by decide) dL_law_459 ?_
        refine e_iadd dL_law_460 ?_
        obtain ⟨c_461, hm⟩ := gd_s hm
        refine e_sld hX dL_law_461 c_461 ?_
        obtain ⟨q27, eq27, hm⟩ := ob_some hm
        refine e_cV1 hko dL_law_462 ml_RL_68 iz_1 (by decide) rfl (by decide) (Nat.le_of_ble_eq_true rfl) (tX11_step hko I J F hF (xs (x3 + 1).toNatClampNeg) _ eq27) ?_
        rintro _ _ ⟨rfl, rfl⟩
        refine e_aload_n (i := 2) rfl dL_law_465 ?_
        refine e_aload_n (i := 0) rfl dL_law_466 ?_
        refine e_iload_n (i := 3) rfl dL_law_467 ?_
        refine e_iconst (v := 1) (by decide) dL_law_468 ?_
        refine e_iadd dL_law_469 ?_
        obtain ⟨c_470, hm⟩ := gd_s hm
        refine e_sld hX dL_law_470 c_470 ?_
        obtain ⟨q28, eq28, hm⟩ := ob_some hm
        refine e_cV1 hko dL_law_471 ml_RL_71 iz_186 (by decide) rfl (by decide) (Nat.le_of_ble_eq_true rfl) (tX12_step hko B J F hF.1 (xs (x3 + 1).toNatClampNeg) _ eq28) ?_
        rintro _ _ ⟨rfl, rfl⟩
        refine e_icmp_eq 654 dL_law_474 (by decide) (fun c_474 => ?_) (fun c_474 => ?_)
        · have hm := it_p c_474 hm
          refine q_iinc (i := 3) (x3 + 6) rfl ic_6 rfl dL_law_654 ?_
          refine e_goto 18 dL_law_657 (by decide) ?_
          refine e_weak [.ref 2000000, .ref 1, .ref 186, .int (x3 + 6)] ⟨rfl, ⟨rfl, ⟨rfl, ⟨rfl, trivial⟩⟩⟩⟩ ?_
          exact ih q27.2 q28.2.1 q28.2.2 F (x3 + 6) hF _ hm
        · have hm := it_n c_474 hm
          refine e_iconst (v := 0) (by decide) dL_law_477 ?_
          refine e_zret dL_law_478 rfl rfl ?_
          have hm := some_in hm
          subst hm
          exact rfl
      have hm := it_n c_33_12 hm
      by_cases c_33_13 : ((xs x3.toNatClampNeg) &&& 31) = 13
      · have hm := it_p c_33_13 hm
        refine e_tableIn 479 dL_law_33 (by rw [c_33_13]; decide) (by rw [c_33_13]; decide) (off := 446) (by rw [c_33_13]; decide) (by decide) ?_
        refine e_aload_n (i := 1) rfl dL_law_479 ?_
        refine e_aload_n (i := 0) rfl dL_law_480 ?_
        refine e_iload_n (i := 3) rfl dL_law_481 ?_
        refine e_iconst (v := 1) (by decide) dL_law_482 ?_
        refine e_iadd dL_law_483 ?_
        obtain ⟨c_484, hm⟩ := gd_s hm
        refine e_sld hX dL_law_484 c_484 ?_
        refine e_aload_n (i := 0) rfl dL_law_485 ?_
        refine e_iload_n (i := 3) rfl dL_law_486 ?_
        refine e_iconst (v := 2) (by decide) dL_law_487 ?_
        refine e_iadd dL_law_488 ?_
        obtain ⟨c_489, hm⟩ := gd_s hm
        refine e_sld hX dL_law_489 c_489 ?_
        obtain ⟨q29, eq29, hm⟩ := ob_some hm
        refine e_cV2 hko dL_law_490 ml_RL_72 iz_1 (by decide) rfl (by decide) (Nat.le_of_ble_eq_true rfl) (tX11_run hko I J F hF (xs (x3 + 1).toNatClampNeg) (xs (x3 + 2).toNatClampNeg) _ eq29) ?_
        rintro _ _ ⟨rfl, rfl⟩
        refine e_aload_n (i := 2) rfl dL_law_493 ?_
        refine e_aload_n (i := 0) rfl dL_law_494 ?_
        refine e_iload_n (i := 3) rfl dL_law_495 ?_
        refine e_iconst (v := 1) (by decide) dL_law_496 ?_
        refine e_iadd dL_law_497 ?_
        obtain ⟨c_498, hm⟩ := gd_s hm
        refine e_sld hX dL_law_498 c_498 ?_
        refine e_aload_n (i := 0) rfl dL_law_499 ?_
        refine e_iload_n (i := 3) rfl dL_law_500 ?_
        refine e_iconst (v := 2) (by decide) dL_law_501 ?_
        refine e_iadd dL_law_502 ?_
        obtain ⟨c_503, hm⟩ := gd_s hm
        refine e_sld hX dL_law_503 c_503 ?_
        obtain ⟨q30, eq30, hm⟩ := ob_some hm
        refine e_cV2 hko dL_law_504 ml_RL_75 iz_186 (by decide) rfl (by decide) (Nat.le_of_ble_eq_true rfl) (tX12_run hko B J F hF.1 (xs (x3 + 1).toNatClampNeg) (xs (x3 + 2).toNatClampNeg) _ eq30) ?_
        rintro _ _ ⟨rfl, rfl⟩
        refine e_icmp_eq 654 dL_law_507 (by decide) (fun c_507 => ?_) (fun c_507 => ?_)
        · have hm := it_p c_507 hm
          refine q_iinc (i := 3) (x3 + 6) rfl ic_6 rfl dL_law_654 ?_
          refine e_goto 18 dL_law_657 (by decide) ?_
          refine e_weak [.ref 2000000, .ref 1, .ref 186, .int (x3 + 6)] ⟨rfl, ⟨rfl, ⟨rfl, ⟨rfl, trivial⟩⟩⟩⟩ ?_
          exact ih q29.2 q30.2.1 q30.2.2 F (x3 + 6) hF _ hm
        · have hm := it_n c_507 hm
          refine e_iconst (v := 0) (by decide) dL_law_510 ?_
          refine e_zret dL_law_511 rfl rfl ?_
          have hm := some_in hm
          subst hm
          exact rfl
      have hm := it_n c_33_13 hm
      by_cases c_33_14 : ((xs x3.toNatClampNeg) &&& 31) = 14
      · have hm := it_p c_33_14 hm
        refine e_tableIn 512 dL_law_33 (by rw [c_33_14]; decide) (by rw [c_33_14]; decide) (off := 479) (by rw [c_33_14]; decide) (by decide) ?_
        refine e_aload_n (i := 1) rfl dL_law_512 ?_
        refine e_aload_n (i := 0) rfl dL_law_513 ?_
        refine e_iload_n (i := 3) rfl dL_law_514 ?_
        refine e_iconst (v := 1) (by decide) dL_law_515 ?_
        refine e_iadd dL_law_516 ?_
        obtain ⟨c_517, hm⟩ := gd_s hm
        refine e_sld hX dL_law_517 c_517 ?_
        refine e_aload_n (i := 0) rfl dL_law_518 ?_
        refine e_iload_n (i := 3) rfl dL_law_519 ?_
        refine e_iconst (v := 2) (by decide) dL_law_520 ?_
        refine e_iadd dL_law_521 ?_
        obtain ⟨c_522, hm⟩ := gd_s hm
        refine e_sld hX dL_law_522 c_522 ?_
        obtain ⟨q31, eq31, hm⟩ := ob_some hm
        refine e_cV2 hko dL_law_523 ml_RL_76 iz_1 (by decide) rfl (by decide) (Nat.le_of_ble_eq_true rfl) (tX11_process hko I J F hF (xs (x3 + 1).toNatClampNeg) (xs (x3 + 2).toNatClampNeg) _ eq31) ?_
        rintro _ _ ⟨rfl, rfl⟩
        refine e_aload_n (i := 2) rfl dL_law_526 ?_
        refine e_aload_n (i := 0) rfl dL_law_527 ?_
        refine e_iload_n (i := 3) rfl dL_law_528 ?_
        refine e_iconst (v := 1) (by decide) dL_law_529 ?_
        refine e_iadd dL_law_530 ?_
        obtain ⟨c_531, hm⟩ := gd_s hm
        refine e_sld hX dL_law_531 c_531 ?_
        refine e_aload_n (i := 0) rfl dL_law_532 ?_
        refine e_iload_n (i := 3) rfl dL_law_533 ?_
        refine e_iconst (v := 2) (by decide) dL_law_534 ?_
        refine e_iadd dL_law_535 ?_
        obtain ⟨c_536, hm⟩ := gd_s hm
        refine e_sld hX dL_law_536 c_536 ?_
        obtain ⟨q32, eq32, hm⟩ := ob_some hm
        refine e_cV2 hko dL_law_537 ml_RL_79 iz_186 (by decide) rfl (by decide) (Nat.le_of_ble_eq_true rfl) (tX12_process hko B J F hF.1 (xs (x3 + 1).toNatClampNeg) (xs (x3 + 2).toNatClampNeg) _ eq32) ?_
        rintro _ _ ⟨rfl, rfl⟩
        refine e_icmp_eq 654 dL_law_540 (by decide) (fun c_540 => ?_) (fun c_540 => ?_)
        · have hm := it_p c_540 hm
          refine q_iinc (i := 3) (x3 + 6) rfl ic_6 rfl dL_law_654 ?_
          refine e_goto 18 dL_law_657 (by decide) ?_
          refine e_weak [.ref 2000000, .ref 1, .ref 186, .int (x3 + 6)] ⟨rfl, ⟨rfl, ⟨rfl, ⟨rfl, trivial⟩⟩⟩⟩ ?_
          exact ih I B J F (x3 + 6) hF _ hm
        · have hm := it_n c_540 hm
          refine e_iconst (v := 0) (by decide) dL_law_543 ?_
          refine e_zret dL_law_544 rfl rfl ?_
          have hm := some_in hm
          subst hm
          exact rfl
      have hm := it_n c_33_14 hm
      by_cases c_33_15 : ((xs x3.toNatClampNeg) &&& 31) = 15
      · have hm := it_p c_33_15 hm
        refine e_tableIn 545 dL_law_33 (by rw [c_33_15]; decide) (by rw [c_33_15]; decide) (off := 512) (by rw [c_33_15]; decide) (by decide) ?_
        refine e_aload_n (i := 1) rfl dL_law_545 ?_
        refine e_aload_n (i := 0) rfl dL_law_546 ?_
        refine e_iload_n (i := 3) rfl dL_law_547 ?_
        refine e_iconst (v := 1) (by decide) dL_law_548 ?_
        refine e_iadd dL_law_549 ?_
        obtain ⟨c_550, hm⟩ := gd_s hm
        refine e_sld hX dL_law_550 c_550 ?_
        refine e_aload_n (i := 0) rfl dL_law_551 ?_
        refine e_iload_n (i := 3) rfl dL_law_552 ?_
        refine e_iconst (v := 2) (by decide) dL_law_553 ?_
        refine e_iadd dL_law_554 ?_
        obtain ⟨c_555, hm⟩ := gd_s hm
        refine e_sld hX dL_law_555 c_555 ?_
        obtain ⟨q33, eq33, hm⟩ := ob_some hm
        refine e_cV2 hko dL_law_556 ml_RL_80 iz_1 (by decide) rfl (by decide) (Nat.le_of_ble_eq_true rfl) (tX11_channel hko I J F hF (xs (x3 + 1).toNatClampNeg) (xs (x3 + 2).toNatClampNeg) _ eq33) ?_
        rintro _ _ ⟨rfl, rfl⟩
        refine e_aload_n (i := 2) rfl dL_law_559 ?_
        refine e_aload_n (i := 0) rfl dL_law_560 ?_
        refine e_iload_n (i := 3) rfl dL_law_561 ?_
        refine e_iconst (v := 1) (by decide) dL_law_562 ?_
        refine e_iadd dL_law_563 ?_
        obtain ⟨c_564, hm⟩ := gd_s hm
        refine e_sld hX dL_law_564 c_564 ?_
        refine e_aload_n (i := 0) rfl dL_law_565 ?_
        refine e_iload_n (i := 3) rfl dL_law_566 ?_
        refine e_iconst (v := 2) (by decide) dL_law_567 ?_
        refine e_iadd dL_law_568 ?_
        obtain ⟨c_569, hm⟩ := gd_s hm
        refine e_sld hX dL_law_569 c_569 ?_
        obtain ⟨q34, eq34, hm⟩ := ob_some hm
        refine e_cV2 hko dL_law_570 ml_RL_83 iz_186 (by decide) rfl (by decide) (Nat.le_of_ble_eq_true rfl) (tX12_channel hko B J F hF.1 (xs (x3 + 1).toNatClampNeg) (xs (x3 + 2).toNatClampNeg) _ eq34) ?_
        rintro _ _ ⟨rfl, rfl⟩
        refine e_icmp_eq 654 dL_law_573 (by decide) (fun c_573 => ?_) (fun c_573 => ?_)
        · have hm := it_p c_573 hm
          refine q_iinc (i := 3) (x3 + 6) rfl ic_6 rfl dL_law_654 ?_
          refine e_goto 18 dL_law_657 (by decide) ?_
          refine e_weak [.ref 2000000, .ref 1, .ref 186, .int (x3 + 6)] ⟨rfl, ⟨rfl, ⟨rfl, ⟨rfl, trivial⟩⟩⟩⟩ ?_
          exact ih I B J F (x3 + 6) hF _ hm
        · have hm := it_n c_573 hm
          refine e_iconst (v := 0) (by decide) dL_law_576 ?_
          refine e_zret dL_law_577 rfl rfl ?_
          have hm := some_in hm
          subst hm
          exact rfl
      have hm := it_n c_33_15 hm
      by_cases c_33_16 : ((xs x3.toNatClampNeg) &&& 31) = 16
      · have hm := it_p c_33_16 hm
        refine e_tableIn 578 dL_law_33 (by rw [c_33_16]; decide) (by rw [c_33_16]; decide) (off := 545) (by rw [c_33_16]; decide) (by decide) ?_
        refine e_aload_n (i := 1) rfl dL_law_578 ?_
        refine e_aload_n (i := 0) rfl dL_law_579 ?_
        refine e_iload_n (i := 3) rfl dL_law_580 ?_
        refine e_iconst (v := 1) (by decide) dL_law_581 ?_
        refine e_iadd dL_law_582 ?_
        obtain ⟨c_583, hm⟩ := gd_s hm
        refine e_sld hX dL_law_583 c_583 ?_
        refine e_aload_n (i := 0) rfl dL_law_584 ?_
        refine e_iload_n (i := 3) rfl dL_law_585 ?_
        refine e_iconst (v := 2) (by decide) dL_law_586 ?_
        refine e_iadd dL_law_587 ?_
        obtain ⟨c_588, hm⟩ := gd_s hm
        refine e_sld hX dL_law_588 c_588 ?_
        refine e_aload_n (i := 0) rfl dL_law_589 ?_
        refine e_iload_n (i := 3) rfl dL_law_590 ?_
        refine e_iconst (v := 3) (by decide) dL_law_591 ?_
        refine e_iadd dL_law_592 ?_
        obtain ⟨c_593, hm⟩ := gd_s hm
        refine e_sld hX dL_law_593 c_593 ?_
        obtain ⟨q35, eq35, hm⟩ := ob_some hm
        refine e_cV3 hko dL_law_594 ml_RL_84 iz_1 (by decide) rfl (by decide) (Nat.le_of_ble_eq_true rfl) (tX11_message hko I J F hF (xs (x3 + 1).toNatClampNeg) (xs (x3 + 2).toNatClampNeg) (xs (x3 + 3).toNatClampNeg) _ eq35) ?_
        rintro _ _ ⟨rfl, rfl⟩
        refine e_aload_n (i := 2) rfl dL_law_597 ?_
        refine e_aload_n (i := 0) rfl dL_law_598 ?_
        refine e_iload_n (i := 3) rfl dL_law_599 ?_
        refine e_iconst (v := 1) (by decide) dL_law_600 ?_
        refine e_iadd dL_law_601 ?_
        obtain ⟨c_602, hm⟩ := gd_s hm
        refine e_sld hX dL_law_602 c_602 ?_
        refine e_aload_n (i := 0) rfl dL_law_603 ?_
        refine e_iload_n (i := 3) rfl dL_law_604 ?_
        refine e_iconst (v := 2) (by decide) dL_law_605 ?_
        refine e_iadd dL_law_606 ?_
        obtain ⟨c_607, hm⟩ := gd_s hm
        refine e_sld hX dL_law_607 c_607 ?_
        refine e_aload_n (i := 0) rfl dL_law_608 ?_
        refine e_iload_n (i := 3) rfl dL_law_609 ?_
        refine e_iconst (v := 3) (by decide) dL_law_610 ?_
        refine e_iadd dL_law_611 ?_
        obtain ⟨c_612, hm⟩ := gd_s hm
        refine e_sld hX dL_law_612 c_612 ?_
        obtain ⟨q36, eq36, hm⟩ := ob_some hm
        refine e_cV3 hko dL_law_613 ml_RL_88 iz_186 (by decide) rfl (by decide) (Nat.le_of_ble_eq_true rfl) (tX12_message hko B J F hF.1 (xs (x3 + 1).toNatClampNeg) (xs (x3 + 2).toNatClampNeg) (xs (x3 + 3).toNatClampNeg) _ eq36) ?_
        rintro _ _ ⟨rfl, rfl⟩
        refine e_icmp_eq 654 dL_law_616 (by decide) (fun c_616 => ?_) (fun c_616 => ?_)
        · have hm := it_p c_616 hm
          refine q_iinc (i := 3) (x3 + 6) rfl ic_6 rfl dL_law_654 ?_
          refine e_goto 18 dL_law_657 (by decide) ?_
          refine e_weak [.ref 2000000, .ref 1, .ref 186, .int (x3 + 6)] ⟨rfl, ⟨rfl, ⟨rfl, ⟨rfl, trivial⟩⟩⟩⟩ ?_
          exact ih I B J F (x3 + 6) hF _ hm
        · have hm := it_n c_616 hm
          refine e_iconst (v := 0) (by decide) dL_law_619 ?_
          refine e_zret dL_law_620 rfl rfl ?_
          have hm := some_in hm
          subst hm
          exact rfl
      have hm := it_n c_33_16 hm
      by_cases c_33_17 : ((xs x3.toNatClampNeg) &&& 31) = 17
      · have hm := it_p c_33_17 hm
        refine e_tableIn 621 dL_law_33 (by rw [c_33_17]; decide) (by rw [c_33_17]; decide) (off := 588) (by rw [c_33_17]; decide) (by decide) ?_
        refine e_aload_n (i := 1) rfl dL_law_621 ?_
        refine e_aload_n (i := 0) rfl dL_law_622 ?_
        refine e_iload_n (i := 3) rfl dL_law_623 ?_
        refine e_iconst (v := 1) (by decide) dL_law_624 ?_
        refine e_iadd dL_law_625 ?_
        obtain ⟨c_626, hm⟩ := gd_s hm
        refine e_sld hX dL_law_626 c_626 ?_
        refine e_aload_n (i := 0) rfl dL_law_627 ?_
        refine e_iload_n (i := 3) rfl dL_law_628 ?_
        refine e_iconst (v := 2) (by decide) dL_law_629 ?_
        refine e_iadd dL_law_630 ?_
        obtain ⟨c_631, hm⟩ := gd_s hm
        refine e_sld hX dL_law_631 c_631 ?_
        obtain ⟨q37, eq37, hm⟩ := ob_some hm
        refine e_cV2 hko dL_law_632 ml_RL_89 iz_1 (by decide) rfl (by decide) (Nat.le_of_ble_eq_true rfl) (tX11_said hko I J F hF (xs (x3 + 1).toNatClampNeg) (xs (x3 + 2).toNatClampNeg) _ eq37) ?_
        rintro _ _ ⟨rfl, rfl⟩
        refine e_aload_n (i := 2) rfl dL_law_635 ?_
        refine e_aload_n (i := 0) rfl dL_law_636 ?_
        refine e_iload_n (i := 3) rfl dL_law_637 ?_
        refine e_iconst (v := 1) (by decide) dL_law_638 ?_
        refine e_iadd dL_law_639 ?_
        obtain ⟨c_640, hm⟩ := gd_s hm
        refine e_sld hX dL_law_640 c_640 ?_
        refine e_aload_n (i := 0) rfl dL_law_641 ?_
        refine e_iload_n (i := 3) rfl dL_law_642 ?_
        refine e_iconst (v := 2) (by decide) dL_law_643 ?_
        refine e_iadd dL_law_644 ?_
        obtain ⟨c_645, hm⟩ := gd_s hm
        refine e_sld hX dL_law_645 c_645 ?_
        obtain ⟨q38, eq38, hm⟩ := ob_some hm
        refine e_cV2 hko dL_law_646 ml_RL_92 iz_186 (by decide) rfl (by decide) (Nat.le_of_ble_eq_true rfl) (tX12_said hko B J F hF.1 (xs (x3 + 1).toNatClampNeg) (xs (x3 + 2).toNatClampNeg) _ eq38) ?_
        rintro _ _ ⟨rfl, rfl⟩
        refine e_icmp_eq 654 dL_law_649 (by decide) (fun c_649 => ?_) (fun c_649 => ?_)
        · have hm := it_p c_649 hm
          refine q_iinc (i := 3) (x3 + 6) rfl ic_6 rfl dL_law_654 ?_
          refine e_goto 18 dL_law_657 (by decide) ?_
          refine e_weak [.ref 2000000, .ref 1, .ref 186, .int (x3 + 6)] ⟨rfl, ⟨rfl, ⟨rfl, ⟨rfl, trivial⟩⟩⟩⟩ ?_
          exact ih I B J F (x3 + 6) hF _ hm
        · have hm := it_n c_649 hm
          refine e_iconst (v := 0) (by decide) dL_law_652 ?_
          refine e_zret dL_law_653 rfl rfl ?_
          have hm := some_in hm
          subst hm
          exact rfl
      have hm := it_n c_33_17 hm
      have n_33_0 := lv_neT (a := 0) c_33_0 (by decide)
      have n_33_1 := lv_neT (a := 1) c_33_1 (by decide)
      have n_33_2 := lv_neT (a := 2) c_33_2 (by decide)
      have n_33_3 := lv_neT (a := 3) c_33_3 (by decide)
      have n_33_4 := lv_neT (a := 4) c_33_4 (by decide)
      have n_33_5 := lv_neT (a := 5) c_33_5 (by decide)
      have n_33_6 := lv_neT (a := 6) c_33_6 (by decide)
      have n_33_7 := lv_neT (a := 7) c_33_7 (by decide)
      have n_33_8 := lv_neT (a := 8) c_33_8 (by decide)
      have n_33_9 := lv_neT (a := 9) c_33_9 (by decide)
      have n_33_10 := lv_neT (a := 10) c_33_10 (by decide)
      have n_33_11 := lv_neT (a := 11) c_33_11 (by decide)
      have n_33_12 := lv_neT (a := 12) c_33_12 (by decide)
      have n_33_13 := lv_neT (a := 13) c_33_13 (by decide)
      have n_33_14 := lv_neT (a := 14) c_33_14 (by decide)
      have n_33_15 := lv_neT (a := 15) c_33_15 (by decide)
      have n_33_16 := lv_neT (a := 16) c_33_16 (by decide)
      have n_33_17 := lv_neT (a := 17) c_33_17 (by decide)
      refine e_tableOut 654 dL_law_33 (by omega) (by decide) ?_
      refine q_iinc (i := 3) (x3 + 6) rfl ic_6 rfl dL_law_654 ?_
      refine e_goto 18 dL_law_657 (by decide) ?_
      refine e_weak [.ref 2000000, .ref 1, .ref 186, .int (x3 + 6)] ⟨rfl, ⟨rfl, ⟨rfl, ⟨rfl, trivial⟩⟩⟩⟩ ?_
      exact ih I B J F (x3 + 6) hF _ hm
