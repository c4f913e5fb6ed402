/-! DECOMPILED: printed by wip/whole/gen_dec.py -/
theorem dX12_goesOn_0 : decode cX12_goesOn 0 = .ok (.aload_n 0, 1) := by decide +kernel
theorem dX12_goesOn_1 : decode cX12_goesOn 1 = .ok (.getfield 93, 3) := by decide +kernel
theorem dX12_goesOn_4 : decode cX12_goesOn 4 = .ok (.iload_n 1, 1) := by decide +kernel
theorem dX12_goesOn_5 : decode cX12_goesOn 5 = .ok (.iaload, 1) := by decide +kernel
theorem dX12_goesOn_6 : decode cX12_goesOn 6 = .ok (.istore_n 2, 1) := by decide +kernel
theorem dX12_goesOn_7 : decode cX12_goesOn 7 = .ok (.aload_n 0, 1) := by decide +kernel
theorem dX12_goesOn_8 : decode cX12_goesOn 8 = .ok (.getfield 20, 3) := by decide +kernel
theorem dX12_goesOn_11 : decode cX12_goesOn 11 = .ok (.iload_n 2, 1) := by decide +kernel
theorem dX12_goesOn_12 : decode cX12_goesOn 12 = .ok (.iaload, 1) := by decide +kernel
theorem dX12_goesOn_13 : decode cX12_goesOn 13 = .ok (.istore_n 3, 1) := by decide +kernel
theorem dX12_goesOn_14 : decode cX12_goesOn 14 = .ok (.aload_n 0, 1) := by decide +kernel
theorem dX12_goesOn_15 : decode cX12_goesOn 15 = .ok (.getfield 93, 3) := by decide +kernel
theorem dX12_goesOn_18 : decode cX12_goesOn 18 = .ok (.iload_n 1, 1) := by decide +kernel
theorem dX12_goesOn_19 : decode cX12_goesOn 19 = .ok (.aload_n 0, 1) := by decide +kernel
theorem dX12_goesOn_20 : decode cX12_goesOn 20 = .ok (.getfield 26, 3) := by decide +kernel
theorem dX12_goesOn_23 : decode cX12_goesOn 23 = .ok (.iload_n 2, 1) := by decide +kernel
theorem dX12_goesOn_24 : decode cX12_goesOn 24 = .ok (.iaload, 1) := by decide +kernel
theorem dX12_goesOn_25 : decode cX12_goesOn 25 = .ok (.iastore, 1) := by decide +kernel
theorem dX12_goesOn_26 : decode cX12_goesOn 26 = .ok (.aload_n 0, 1) := by decide +kernel
theorem dX12_goesOn_27 : decode cX12_goesOn 27 = .ok (.getfield 17, 3) := by decide +kernel
theorem dX12_goesOn_30 : decode cX12_goesOn 30 = .ok (.iload_n 2, 1) := by decide +kernel
theorem dX12_goesOn_31 : decode cX12_goesOn 31 = .ok (.iaload, 1) := by decide +kernel
theorem dX12_goesOn_32 : decode cX12_goesOn 32 = .ok (.tableswitch 395 40 50 #[60, 83, 110, 136, 171, 207, 252, 273, 345, 354, 386], 60) := by decide +kernel
theorem dX12_goesOn_92 : decode cX12_goesOn 92 = .ok (.aload_n 0, 1) := by decide +kernel
theorem dX12_goesOn_93 : decode cX12_goesOn 93 = .ok (.aload_n 0, 1) := by decide +kernel
theorem dX12_goesOn_94 : decode cX12_goesOn 94 = .ok (.iload_n 1, 1) := by decide +kernel
theorem dX12_goesOn_95 : decode cX12_goesOn 95 = .ok (.iload_n 3, 1) := by decide +kernel
theorem dX12_goesOn_96 : decode cX12_goesOn 96 = .ok (.invokevirtual 491, 3) := by decide +kernel
theorem dX12_goesOn_99 : decode cX12_goesOn 99 = .ok (.iconst 3, 1) := by decide +kernel
theorem dX12_goesOn_100 : decode cX12_goesOn 100 = .ok (.iconst 0, 1) := by decide +kernel
theorem dX12_goesOn_101 : decode cX12_goesOn 101 = .ok (.lconst 0, 1) := by decide +kernel
theorem dX12_goesOn_102 : decode cX12_goesOn 102 = .ok (.invokevirtual 494, 3) := by decide +kernel
theorem dX12_goesOn_105 : decode cX12_goesOn 105 = .ok (.aload_n 0, 1) := by decide +kernel
theorem dX12_goesOn_106 : decode cX12_goesOn 106 = .ok (.getfield 111, 3) := by decide +kernel
theorem dX12_goesOn_109 : decode cX12_goesOn 109 = .ok (.iload_n 1, 1) := by decide +kernel
theorem dX12_goesOn_110 : decode cX12_goesOn 110 = .ok (.iconst 1, 1) := by decide +kernel
theorem dX12_goesOn_111 : decode cX12_goesOn 111 = .ok (.bastore, 1) := by decide +kernel
theorem dX12_goesOn_112 : decode cX12_goesOn 112 = .ok (.goto 326, 3) := by decide +kernel
theorem dX12_goesOn_115 : decode cX12_goesOn 115 = .ok (.aload_n 0, 1) := by decide +kernel
theorem dX12_goesOn_116 : decode cX12_goesOn 116 = .ok (.aload_n 0, 1) := by decide +kernel
theorem dX12_goesOn_117 : decode cX12_goesOn 117 = .ok (.aload_n 0, 1) := by decide +kernel
theorem dX12_goesOn_118 : decode cX12_goesOn 118 = .ok (.iload_n 1, 1) := by decide +kernel
theorem dX12_goesOn_119 : decode cX12_goesOn 119 = .ok (.iload_n 3, 1) := by decide +kernel
theorem dX12_goesOn_120 : decode cX12_goesOn 120 = .ok (.invokevirtual 478, 3) := by decide +kernel
theorem dX12_goesOn_123 : decode cX12_goesOn 123 = .ok (.invokevirtual 498, 3) := by decide +kernel
theorem dX12_goesOn_126 : decode cX12_goesOn 126 = .ok (.putfield 501, 3) := by decide +kernel
theorem dX12_goesOn_129 : decode cX12_goesOn 129 = .ok (.aload_n 0, 1) := by decide +kernel
theorem dX12_goesOn_130 : decode cX12_goesOn 130 = .ok (.getfield 105, 3) := by decide +kernel
theorem dX12_goesOn_133 : decode cX12_goesOn 133 = .ok (.iload_n 1, 1) := by decide +kernel
theorem dX12_goesOn_134 : decode cX12_goesOn 134 = .ok (.dup2, 1) := by decide +kernel
theorem dX12_goesOn_135 : decode cX12_goesOn 135 = .ok (.iaload, 1) := by decide +kernel
theorem dX12_goesOn_136 : decode cX12_goesOn 136 = .ok (.iconst 1, 1) := by decide +kernel
theorem dX12_goesOn_137 : decode cX12_goesOn 137 = .ok (.isub, 1) := by decide +kernel
theorem dX12_goesOn_138 : decode cX12_goesOn 138 = .ok (.iastore, 1) := by decide +kernel
theorem dX12_goesOn_139 : decode cX12_goesOn 139 = .ok (.goto 299, 3) := by decide +kernel
theorem dX12_goesOn_142 : decode cX12_goesOn 142 = .ok (.aload_n 0, 1) := by decide +kernel
theorem dX12_goesOn_143 : decode cX12_goesOn 143 = .ok (.aload_n 0, 1) := by decide +kernel
theorem dX12_goesOn_144 : decode cX12_goesOn 144 = .ok (.iload_n 1, 1) := by decide +kernel
theorem dX12_goesOn_145 : decode cX12_goesOn 145 = .ok (.iload_n 3, 1) := by decide +kernel
theorem dX12_goesOn_146 : decode cX12_goesOn 146 = .ok (.invokevirtual 491, 3) := by decide +kernel
theorem dX12_goesOn_149 : decode cX12_goesOn 149 = .ok (.iconst 0, 1) := by decide +kernel
theorem dX12_goesOn_150 : decode cX12_goesOn 150 = .ok (.aload_n 0, 1) := by decide +kernel
theorem dX12_goesOn_151 : decode cX12_goesOn 151 = .ok (.iload_n 1, 1) := by decide +kernel
theorem dX12_goesOn_152 : decode cX12_goesOn 152 = .ok (.aload_n 0, 1) := by decide +kernel
theorem dX12_goesOn_153 : decode cX12_goesOn 153 = .ok (.getfield 23, 3) := by decide +kernel
theorem dX12_goesOn_156 : decode cX12_goesOn 156 = .ok (.iload_n 2, 1) := by decide +kernel
theorem dX12_goesOn_157 : decode cX12_goesOn 157 = .ok (.iaload, 1) := by decide +kernel
theorem dX12_goesOn_158 : decode cX12_goesOn 158 = .ok (.invokevirtual 462, 3) := by decide +kernel
theorem dX12_goesOn_161 : decode cX12_goesOn 161 = .ok (.lconst 0, 1) := by decide +kernel
theorem dX12_goesOn_162 : decode cX12_goesOn 162 = .ok (.invokevirtual 494, 3) := by decide +kernel
theorem dX12_goesOn_165 : decode cX12_goesOn 165 = .ok (.goto 273, 3) := by decide +kernel
theorem dX12_goesOn_168 : decode cX12_goesOn 168 = .ok (.aload_n 0, 1) := by decide +kernel
theorem dX12_goesOn_169 : decode cX12_goesOn 169 = .ok (.getfield 108, 3) := by decide +kernel
theorem dX12_goesOn_172 : decode cX12_goesOn 172 = .ok (.sipush 128, 3) := by decide +kernel
theorem dX12_goesOn_175 : decode cX12_goesOn 175 = .ok (.iload_n 1, 1) := by decide +kernel
theorem dX12_goesOn_176 : decode cX12_goesOn 176 = .ok (.imul, 1) := by decide +kernel
theorem dX12_goesOn_177 : decode cX12_goesOn 177 = .ok (.aload_n 0, 1) := by decide +kernel
theorem dX12_goesOn_178 : decode cX12_goesOn 178 = .ok (.getfield 23, 3) := by decide +kernel
theorem dX12_goesOn_181 : decode cX12_goesOn 181 = .ok (.iload_n 2, 1) := by decide +kernel
theorem dX12_goesOn_182 : decode cX12_goesOn 182 = .ok (.iaload, 1) := by decide +kernel
theorem dX12_goesOn_183 : decode cX12_goesOn 183 = .ok (.iadd, 1) := by decide +kernel
theorem dX12_goesOn_184 : decode cX12_goesOn 184 = .ok (.aload_n 0, 1) := by decide +kernel
theorem dX12_goesOn_185 : decode cX12_goesOn 185 = .ok (.getfield 127, 3) := by decide +kernel
theorem dX12_goesOn_188 : decode cX12_goesOn 188 = .ok (.aload_n 0, 1) := by decide +kernel
theorem dX12_goesOn_189 : decode cX12_goesOn 189 = .ok (.aload_n 0, 1) := by decide +kernel
theorem dX12_goesOn_190 : decode cX12_goesOn 190 = .ok (.iload_n 1, 1) := by decide +kernel
theorem dX12_goesOn_191 : decode cX12_goesOn 191 = .ok (.iload_n 3, 1) := by decide +kernel
theorem dX12_goesOn_192 : decode cX12_goesOn 192 = .ok (.invokevirtual 478, 3) := by decide +kernel
theorem dX12_goesOn_195 : decode cX12_goesOn 195 = .ok (.invokevirtual 498, 3) := by decide +kernel
theorem dX12_goesOn_198 : decode cX12_goesOn 198 = .ok (.iaload, 1) := by decide +kernel
theorem dX12_goesOn_199 : decode cX12_goesOn 199 = .ok (.iastore, 1) := by decide +kernel
theorem dX12_goesOn_200 : decode cX12_goesOn 200 = .ok (.goto 238, 3) := by decide +kernel
theorem dX12_goesOn_203 : decode cX12_goesOn 203 = .ok (.aload_n 0, 1) := by decide +kernel
theorem dX12_goesOn_204 : decode cX12_goesOn 204 = .ok (.aload_n 0, 1) := by decide +kernel
theorem dX12_goesOn_205 : decode cX12_goesOn 205 = .ok (.iload_n 1, 1) := by decide +kernel
theorem dX12_goesOn_206 : decode cX12_goesOn 206 = .ok (.iload_n 3, 1) := by decide +kernel
theorem dX12_goesOn_207 : decode cX12_goesOn 207 = .ok (.invokevirtual 491, 3) := by decide +kernel
theorem dX12_goesOn_210 : decode cX12_goesOn 210 = .ok (.iconst 1, 1) := by decide +kernel
theorem dX12_goesOn_211 : decode cX12_goesOn 211 = .ok (.aload_n 0, 1) := by decide +kernel
theorem dX12_goesOn_212 : decode cX12_goesOn 212 = .ok (.iload_n 1, 1) := by decide +kernel
theorem dX12_goesOn_213 : decode cX12_goesOn 213 = .ok (.aload_n 0, 1) := by decide +kernel
theorem dX12_goesOn_214 : decode cX12_goesOn 214 = .ok (.getfield 23, 3) := by decide +kernel
theorem dX12_goesOn_217 : decode cX12_goesOn 217 = .ok (.iload_n 2, 1) := by decide +kernel
theorem dX12_goesOn_218 : decode cX12_goesOn 218 = .ok (.iaload, 1) := by decide +kernel
theorem dX12_goesOn_219 : decode cX12_goesOn 219 = .ok (.invokevirtual 458, 3) := by decide +kernel
theorem dX12_goesOn_222 : decode cX12_goesOn 222 = .ok (.lconst 0, 1) := by decide +kernel
theorem dX12_goesOn_223 : decode cX12_goesOn 223 = .ok (.invokevirtual 494, 3) := by decide +kernel
theorem dX12_goesOn_226 : decode cX12_goesOn 226 = .ok (.aload_n 0, 1) := by decide +kernel
theorem dX12_goesOn_227 : decode cX12_goesOn 227 = .ok (.getfield 105, 3) := by decide +kernel
theorem dX12_goesOn_230 : decode cX12_goesOn 230 = .ok (.iload_n 1, 1) := by decide +kernel
theorem dX12_goesOn_231 : decode cX12_goesOn 231 = .ok (.dup2, 1) := by decide +kernel
theorem dX12_goesOn_232 : decode cX12_goesOn 232 = .ok (.iaload, 1) := by decide +kernel
theorem dX12_goesOn_233 : decode cX12_goesOn 233 = .ok (.iconst 1, 1) := by decide +kernel
theorem dX12_goesOn_234 : decode cX12_goesOn 234 = .ok (.isub, 1) := by decide +kernel
theorem dX12_goesOn_235 : decode cX12_goesOn 235 = .ok (.iastore, 1) := by decide +kernel
theorem dX12_goesOn_236 : decode cX12_goesOn 236 = .ok (.goto 202, 3) := by decide +kernel
theorem dX12_goesOn_239 : decode cX12_goesOn 239 = .ok (.aload_n 0, 1) := by decide +kernel
theorem dX12_goesOn_240 : decode cX12_goesOn 240 = .ok (.getfield 108, 3) := by decide +kernel
theorem dX12_goesOn_243 : decode cX12_goesOn 243 = .ok (.sipush 128, 3) := by decide +kernel
theorem dX12_goesOn_246 : decode cX12_goesOn 246 = .ok (.iload_n 1, 1) := by decide +kernel
theorem dX12_goesOn_247 : decode cX12_goesOn 247 = .ok (.imul, 1) := by decide +kernel
theorem dX12_goesOn_248 : decode cX12_goesOn 248 = .ok (.aload_n 0, 1) := by decide +kernel
theorem dX12_goesOn_249 : decode cX12_goesOn 249 = .ok (.getfield 23, 3) := by decide +kernel
theorem dX12_goesOn_252 : decode cX12_goesOn 252 = .ok (.iload_n 2, 1) := by decide +kernel
theorem dX12_goesOn_253 : decode cX12_goesOn 253 = .ok (.iaload, 1) := by decide +kernel
theorem dX12_goesOn_254 : decode cX12_goesOn 254 = .ok (.iadd, 1) := by decide +kernel
theorem dX12_goesOn_255 : decode cX12_goesOn 255 = .ok (.aload_n 0, 1) := by decide +kernel
theorem dX12_goesOn_256 : decode cX12_goesOn 256 = .ok (.getfield 127, 3) := by decide +kernel
theorem dX12_goesOn_259 : decode cX12_goesOn 259 = .ok (.aload_n 0, 1) := by decide +kernel
theorem dX12_goesOn_260 : decode cX12_goesOn 260 = .ok (.aload_n 0, 1) := by decide +kernel
theorem dX12_goesOn_261 : decode cX12_goesOn 261 = .ok (.iload_n 1, 1) := by decide +kernel
theorem dX12_goesOn_262 : decode cX12_goesOn 262 = .ok (.iload_n 3, 1) := by decide +kernel
theorem dX12_goesOn_263 : decode cX12_goesOn 263 = .ok (.invokevirtual 478, 3) := by decide +kernel
theorem dX12_goesOn_266 : decode cX12_goesOn 266 = .ok (.invokevirtual 498, 3) := by decide +kernel
theorem dX12_goesOn_269 : decode cX12_goesOn 269 = .ok (.iaload, 1) := by decide +kernel
theorem dX12_goesOn_270 : decode cX12_goesOn 270 = .ok (.iastore, 1) := by decide +kernel
theorem dX12_goesOn_271 : decode cX12_goesOn 271 = .ok (.aload_n 0, 1) := by decide +kernel
theorem dX12_goesOn_272 : decode cX12_goesOn 272 = .ok (.getfield 105, 3) := by decide +kernel
theorem dX12_goesOn_275 : decode cX12_goesOn 275 = .ok (.iload_n 1, 1) := by decide +kernel
theorem dX12_goesOn_276 : decode cX12_goesOn 276 = .ok (.dup2, 1) := by decide +kernel
theorem dX12_goesOn_277 : decode cX12_goesOn 277 = .ok (.iaload, 1) := by decide +kernel
theorem dX12_goesOn_278 : decode cX12_goesOn 278 = .ok (.iconst 1, 1) := by decide +kernel
theorem dX12_goesOn_279 : decode cX12_goesOn 279 = .ok (.iadd, 1) := by decide +kernel
theorem dX12_goesOn_280 : decode cX12_goesOn 280 = .ok (.iastore, 1) := by decide +kernel
theorem dX12_goesOn_281 : decode cX12_goesOn 281 = .ok (.goto 157, 3) := by decide +kernel
theorem dX12_goesOn_284 : decode cX12_goesOn 284 = .ok (.aload_n 0, 1) := by decide +kernel
theorem dX12_goesOn_285 : decode cX12_goesOn 285 = .ok (.aload_n 0, 1) := by decide +kernel
theorem dX12_goesOn_286 : decode cX12_goesOn 286 = .ok (.iload_n 1, 1) := by decide +kernel
theorem dX12_goesOn_287 : decode cX12_goesOn 287 = .ok (.iload_n 3, 1) := by decide +kernel
theorem dX12_goesOn_288 : decode cX12_goesOn 288 = .ok (.invokevirtual 491, 3) := by decide +kernel
theorem dX12_goesOn_291 : decode cX12_goesOn 291 = .ok (.iconst 2, 1) := by decide +kernel
theorem dX12_goesOn_292 : decode cX12_goesOn 292 = .ok (.iconst 0, 1) := by decide +kernel
theorem dX12_goesOn_293 : decode cX12_goesOn 293 = .ok (.aload_n 0, 1) := by decide +kernel
theorem dX12_goesOn_294 : decode cX12_goesOn 294 = .ok (.getfield 29, 3) := by decide +kernel
theorem dX12_goesOn_297 : decode cX12_goesOn 297 = .ok (.iload_n 2, 1) := by decide +kernel
theorem dX12_goesOn_298 : decode cX12_goesOn 298 = .ok (.laload, 1) := by decide +kernel
theorem dX12_goesOn_299 : decode cX12_goesOn 299 = .ok (.invokevirtual 494, 3) := by decide +kernel
theorem dX12_goesOn_302 : decode cX12_goesOn 302 = .ok (.goto 136, 3) := by decide +kernel
theorem dX12_goesOn_305 : decode cX12_goesOn 305 = .ok (.aload_n 0, 1) := by decide +kernel
theorem dX12_goesOn_306 : decode cX12_goesOn 306 = .ok (.getfield 133, 3) := by decide +kernel
theorem dX12_goesOn_309 : decode cX12_goesOn 309 = .ok (.aload_n 0, 1) := by decide +kernel
theorem dX12_goesOn_310 : decode cX12_goesOn 310 = .ok (.aload_n 0, 1) := by decide +kernel
theorem dX12_goesOn_311 : decode cX12_goesOn 311 = .ok (.iload_n 1, 1) := by decide +kernel
theorem dX12_goesOn_312 : decode cX12_goesOn 312 = .ok (.iload_n 3, 1) := by decide +kernel
theorem dX12_goesOn_313 : decode cX12_goesOn 313 = .ok (.invokevirtual 478, 3) := by decide +kernel
theorem dX12_goesOn_316 : decode cX12_goesOn 316 = .ok (.invokevirtual 498, 3) := by decide +kernel
theorem dX12_goesOn_319 : decode cX12_goesOn 319 = .ok (.laload, 1) := by decide +kernel
theorem dX12_goesOn_320 : decode cX12_goesOn 320 = .ok (.lstore 4, 2) := by decide +kernel
theorem dX12_goesOn_322 : decode cX12_goesOn 322 = .ok (.aload_n 0, 1) := by decide +kernel
theorem dX12_goesOn_323 : decode cX12_goesOn 323 = .ok (.getfield 23, 3) := by decide +kernel
theorem dX12_goesOn_326 : decode cX12_goesOn 326 = .ok (.iload_n 2, 1) := by decide +kernel
theorem dX12_goesOn_327 : decode cX12_goesOn 327 = .ok (.iaload, 1) := by decide +kernel
theorem dX12_goesOn_328 : decode cX12_goesOn 328 = .ok (.istore 6, 2) := by decide +kernel
theorem dX12_goesOn_330 : decode cX12_goesOn 330 = .ok (.iload 6, 2) := by decide +kernel
theorem dX12_goesOn_332 : decode cX12_goesOn 332 = .ok (.iconst (-1), 1) := by decide +kernel
theorem dX12_goesOn_333 : decode cX12_goesOn 333 = .ok (.if_icmp .eq 41, 3) := by decide +kernel
theorem dX12_goesOn_336 : decode cX12_goesOn 336 = .ok (.aload_n 0, 1) := by decide +kernel
theorem dX12_goesOn_337 : decode cX12_goesOn 337 = .ok (.getfield 29, 3) := by decide +kernel
theorem dX12_goesOn_340 : decode cX12_goesOn 340 = .ok (.iload 6, 2) := by decide +kernel
theorem dX12_goesOn_342 : decode cX12_goesOn 342 = .ok (.laload, 1) := by decide +kernel
theorem dX12_goesOn_343 : decode cX12_goesOn 343 = .ok (.lload 4, 2) := by decide +kernel
theorem dX12_goesOn_345 : decode cX12_goesOn 345 = .ok (.lcmp, 1) := by decide +kernel
theorem dX12_goesOn_346 : decode cX12_goesOn 346 = .ok (.ifCond .ne 16, 3) := by decide +kernel
theorem dX12_goesOn_349 : decode cX12_goesOn 349 = .ok (.aload_n 0, 1) := by decide +kernel
theorem dX12_goesOn_350 : decode cX12_goesOn 350 = .ok (.getfield 93, 3) := by decide +kernel
theorem dX12_goesOn_353 : decode cX12_goesOn 353 = .ok (.iload_n 1, 1) := by decide +kernel
theorem dX12_goesOn_354 : decode cX12_goesOn 354 = .ok (.aload_n 0, 1) := by decide +kernel
theorem dX12_goesOn_355 : decode cX12_goesOn 355 = .ok (.getfield 20, 3) := by decide +kernel
theorem dX12_goesOn_358 : decode cX12_goesOn 358 = .ok (.iload 6, 2) := by decide +kernel
theorem dX12_goesOn_360 : decode cX12_goesOn 360 = .ok (.iaload, 1) := by decide +kernel
theorem dX12_goesOn_361 : decode cX12_goesOn 361 = .ok (.iastore, 1) := by decide +kernel
theorem dX12_goesOn_362 : decode cX12_goesOn 362 = .ok (.aload_n 0, 1) := by decide +kernel
theorem dX12_goesOn_363 : decode cX12_goesOn 363 = .ok (.getfield 26, 3) := by decide +kernel
theorem dX12_goesOn_366 : decode cX12_goesOn 366 = .ok (.iload 6, 2) := by decide +kernel
theorem dX12_goesOn_368 : decode cX12_goesOn 368 = .ok (.iaload, 1) := by decide +kernel
theorem dX12_goesOn_369 : decode cX12_goesOn 369 = .ok (.istore 6, 2) := by decide +kernel
theorem dX12_goesOn_371 : decode cX12_goesOn 371 = .ok (.goto (-41), 3) := by decide +kernel
theorem dX12_goesOn_374 : decode cX12_goesOn 374 = .ok (.goto 64, 3) := by decide +kernel
theorem dX12_goesOn_377 : decode cX12_goesOn 377 = .ok (.aload_n 0, 1) := by decide +kernel
theorem dX12_goesOn_378 : decode cX12_goesOn 378 = .ok (.iload_n 1, 1) := by decide +kernel
theorem dX12_goesOn_379 : decode cX12_goesOn 379 = .ok (.iload_n 2, 1) := by decide +kernel
theorem dX12_goesOn_380 : decode cX12_goesOn 380 = .ok (.invokevirtual 504, 3) := by decide +kernel
theorem dX12_goesOn_383 : decode cX12_goesOn 383 = .ok (.goto 55, 3) := by decide +kernel
theorem dX12_goesOn_386 : decode cX12_goesOn 386 = .ok (.aload_n 0, 1) := by decide +kernel
theorem dX12_goesOn_387 : decode cX12_goesOn 387 = .ok (.iload_n 1, 1) := by decide +kernel
theorem dX12_goesOn_388 : decode cX12_goesOn 388 = .ok (.iload_n 1, 1) := by decide +kernel
theorem dX12_goesOn_389 : decode cX12_goesOn 389 = .ok (.aload_n 0, 1) := by decide +kernel
theorem dX12_goesOn_390 : decode cX12_goesOn 390 = .ok (.getfield 23, 3) := by decide +kernel
theorem dX12_goesOn_393 : decode cX12_goesOn 393 = .ok (.iload_n 2, 1) := by decide +kernel
theorem dX12_goesOn_394 : decode cX12_goesOn 394 = .ok (.iaload, 1) := by decide +kernel
theorem dX12_goesOn_395 : decode cX12_goesOn 395 = .ok (.iload_n 3, 1) := by decide +kernel
theorem dX12_goesOn_396 : decode cX12_goesOn 396 = .ok (.invokevirtual 507, 3) := by decide +kernel
theorem dX12_goesOn_399 : decode cX12_goesOn 399 = .ok (.istore 4, 2) := by decide +kernel
theorem dX12_goesOn_401 : decode cX12_goesOn 401 = .ok (.aload_n 0, 1) := by decide +kernel
theorem dX12_goesOn_402 : decode cX12_goesOn 402 = .ok (.getfield 105, 3) := by decide +kernel
theorem dX12_goesOn_405 : decode cX12_goesOn 405 = .ok (.iload_n 1, 1) := by decide +kernel
theorem dX12_goesOn_406 : decode cX12_goesOn 406 = .ok (.iload 4, 2) := by decide +kernel
theorem dX12_goesOn_408 : decode cX12_goesOn 408 = .ok (.iastore, 1) := by decide +kernel
theorem dX12_goesOn_409 : decode cX12_goesOn 409 = .ok (.aload_n 0, 1) := by decide +kernel
theorem dX12_goesOn_410 : decode cX12_goesOn 410 = .ok (.iload_n 1, 1) := by decide +kernel
theorem dX12_goesOn_411 : decode cX12_goesOn 411 = .ok (.iload_n 3, 1) := by decide +kernel
theorem dX12_goesOn_412 : decode cX12_goesOn 412 = .ok (.invokevirtual 448, 3) := by decide +kernel
theorem dX12_goesOn_415 : decode cX12_goesOn 415 = .ok (.goto 23, 3) := by decide +kernel
theorem dX12_goesOn_418 : decode cX12_goesOn 418 = .ok (.aload_n 0, 1) := by decide +kernel
theorem dX12_goesOn_419 : decode cX12_goesOn 419 = .ok (.iload_n 1, 1) := by decide +kernel
theorem dX12_goesOn_420 : decode cX12_goesOn 420 = .ok (.iload_n 2, 1) := by decide +kernel
theorem dX12_goesOn_421 : decode cX12_goesOn 421 = .ok (.invokevirtual 511, 3) := by decide +kernel
theorem dX12_goesOn_424 : decode cX12_goesOn 424 = .ok (.goto 14, 3) := by decide +kernel
theorem dX12_goesOn_427 : decode cX12_goesOn 427 = .ok (.aload_n 0, 1) := by decide +kernel
theorem dX12_goesOn_428 : decode cX12_goesOn 428 = .ok (.iload_n 1, 1) := by decide +kernel
theorem dX12_goesOn_429 : decode cX12_goesOn 429 = .ok (.aload_n 0, 1) := by decide +kernel
theorem dX12_goesOn_430 : decode cX12_goesOn 430 = .ok (.iload_n 1, 1) := by decide +kernel
theorem dX12_goesOn_431 : decode cX12_goesOn 431 = .ok (.iload_n 3, 1) := by decide +kernel
theorem dX12_goesOn_432 : decode cX12_goesOn 432 = .ok (.invokevirtual 462, 3) := by decide +kernel
theorem dX12_goesOn_435 : decode cX12_goesOn 435 = .ok (.invokevirtual 514, 3) := by decide +kernel
theorem dX12_goesOn_438 : decode cX12_goesOn 438 = .ok (.return_, 1) := by decide +kernel
def mX12_goesOn_362 (k330 : iT → jT → Int32 → Int32 → Int32 → Int64 → Int32 → Option (iT × jT)) (I : iT) (J : jT) (x1 : Int32) (x2 : Int32) (x3 : Int32) (w4 : Int64) (x6 : Int32) : Option (iT × jT) := if inb x6 2800 then k330 I J x1 x2 x3 w4 (I 191 x6.toNatClampNeg) else none
def mX12_goesOn_330 : Nat → iT → jT → Int32 → Int32 → Int32 → Int64 → Int32 → Option (iT × jT)
  | 0, _, _, _, _, _, _, _ => none
  | n + 1, I, J, x1, x2, x3, w4, x6 => if x6 = ((-1)) then some (I, J) else if inb x6 2800 then if (lg_cmp (J 192 x6.toNatClampNeg) w4) = 0 then if inb x6 2800 then if inb x1 80 then mX12_goesOn_362 (mX12_goesOn_330 n) (a_u2 I 213 x1.toNatClampNeg (I 189 x6.toNatClampNeg)) J x1 x2 x3 w4 x6 else none else none else mX12_goesOn_362 (mX12_goesOn_330 n) I J x1 x2 x3 w4 x6 else none
def mX12_goesOn (I : iT) (J : jT) (x1 : Int32) : Option (iT × jT) := if inb x1 80 then if inb (I 213 x1.toNatClampNeg) 2800 then if inb (I 213 x1.toNatClampNeg) 2800 then if inb x1 80 then if inb (I 213 x1.toNatClampNeg) 2800 then if ((a_u2 I 213 x1.toNatClampNeg (I 191 (I 213 x1.toNatClampNeg).toNatClampNeg)) 188 (I 213 x1.toNatClampNeg).toNatClampNeg) = 40 then (mX12_writes (a_u2 I 213 x1.toNatClampNeg (I 191 (I 213 x1.toNatClampNeg).toNatClampNeg)) x1 (I 189 (I 213 x1.toNatClampNeg).toNatClampNeg)).bind fun q1 => (mX12_lay (a_u2 I 213 x1.toNatClampNeg (I 191 (I 213 x1.toNatClampNeg).toNatClampNeg)) J q1 3 0 0).bind fun q2 => if inb x1 80 then some (a_u2 q2.1 219 x1.toNatClampNeg 1, q2.2) else none else if ((a_u2 I 213 x1.toNatClampNeg (I 191 (I 213 x1.toNatClampNeg).toNatClampNeg)) 188 (I 213 x1.toNatClampNeg).toNatClampNeg) = 41 then (mX12_reads (a_u2 I 213 x1.toNatClampNeg (I 191 (I 213 x1.toNatClampNeg).toNatClampNeg)) x1 (I 189 (I 213 x1.toNatClampNeg).toNatClampNeg)).bind fun q3 => (mX12_take (a_u2 I 213 x1.toNatClampNeg (I 191 (I 213 x1.toNatClampNeg).toNatClampNeg)) q3).bind fun q4 => if inb x1 80 then if inb x1 80 then some (a_u2 (a_u2 q4.2 186 78 q4.1) 217 x1.toNatClampNeg (((a_u2 q4.2 186 78 q4.1) 217 x1.toNatClampNeg) - 1), J) else none else none else if ((a_u2 I 213 x1.toNatClampNeg (I 191 (I 213 x1.toNatClampNeg).toNatClampNeg)) 188 (I 213 x1.toNatClampNeg).toNatClampNeg) = 42 then (mX12_writes (a_u2 I 213 x1.toNatClampNeg (I 191 (I 213 x1.toNatClampNeg).toNatClampNeg)) x1 (I 189 (I 213 x1.toNatClampNeg).toNatClampNeg)).bind fun q5 => if inb (I 213 x1.toNatClampNeg) 2800 then (mX12_worth SF (a_u2 I 213 x1.toNatClampNeg (I 191 (I 213 x1.toNatClampNeg).toNatClampNeg)) x1 ((a_u2 I 213 x1.toNatClampNeg (I 191 (I 213 x1.toNatClampNeg).toNatClampNeg)) 190 (I 213 x1.toNatClampNeg).toNatClampNeg)).bind fun q6 => (mX12_lay q6.2 J q5 0 q6.1 0).bind fun q7 => some (q7.1, q7.2) else none else if ((a_u2 I 213 x1.toNatClampNeg (I 191 (I 213 x1.toNatClampNeg).toNatClampNeg)) 188 (I 213 x1.toNatClampNeg).toNatClampNeg) = 43 then if inb (I 213 x1.toNatClampNeg) 2800 then (mX12_reads (a_u2 I 213 x1.toNatClampNeg (I 191 (I 213 x1.toNatClampNeg).toNatClampNeg)) x1 (I 189 (I 213 x1.toNatClampNeg).toNatClampNeg)).bind fun q8 => (mX12_take (a_u2 I 213 x1.toNatClampNeg (I 191 (I 213 x1.toNatClampNeg).toNatClampNeg)) q8).bind fun q9 => if inb q9.1 700 then if inb ((128 * x1) + ((a_u2 I 213 x1.toNatClampNeg (I 191 (I 213 x1.toNatClampNeg).toNatClampNeg)) 190 (I 213 x1.toNatClampNeg).toNatClampNeg)) 10240 then some (a_u2 q9.2 218 ((128 * x1) + ((a_u2 I 213 x1.toNatClampNeg (I 191 (I 213 x1.toNatClampNeg).toNatClampNeg)) 190 (I 213 x1.toNatClampNeg).toNatClampNeg)).toNatClampNeg (q9.2 224 q9.1.toNatClampNeg), J) else none else none else none else if ((a_u2 I 213 x1.toNatClampNeg (I 191 (I 213 x1.toNatClampNeg).toNatClampNeg)) 188 (I 213 x1.toNatClampNeg).toNatClampNeg) = 44 then (mX12_writes (a_u2 I 213 x1.toNatClampNeg (I 191 (I 213 x1.toNatClampNeg).toNatClampNeg)) x1 (I 189 (I 213 x1.toNatClampNeg).toNatClampNeg)).bind fun q10 => if inb (I 213 x1.toNatClampNeg) 2800 then (mX12_value (a_u2 I 213 x1.toNatClampNeg (I 191 (I 213 x1.toNatClampNeg).toNatClampNeg)) x1 ((a_u2 I 213 x1.toNatClampNeg (I 191 (I 213 x1.toNatClampNeg).toNatClampNeg)) 190 (I 213 x1.toNatClampNeg).toNatClampNeg)).bind fun q11 => (mX12_lay (a_u2 I 213 x1.toNatClampNeg (I 191 (I 213 x1.toNatClampNeg).toNatClampNeg)) J q10 1 q11 0).bind fun q12 => if inb x1 80 then if inb x1 80 then some (a_u2 q12.1 217 x1.toNatClampNeg ((q12.1 217 x1.toNatClampNeg) - 1), q12.2) else none else none else none else if ((a_u2 I 213 x1.toNatClampNeg (I 191 (I 213 x1.toNatClampNeg).toNatClampNeg)) 188 (I 213 x1.toNatClampNeg).toNatClampNeg) = 45 then if inb (I 213 x1.toNatClampNeg) 2800 then (mX12_reads (a_u2 I 213 x1.toNatClampNeg (I 191 (I 213 x1.toNatClampNeg).toNatClampNeg)) x1 (I 189 (I 213 x1.toNatClampNeg).toNatClampNeg)).bind fun q13 => (mX12_take (a_u2 I 213 x1.toNatClampNeg (I 191 (I 213 x1.toNatClampNeg).toNatClampNeg)) q13).bind fun q14 => if inb q14.1 700 then if inb ((128 * x1) + ((a_u2 I 213 x1.toNatClampNeg (I 191 (I 213 x1.toNatClampNeg).toNatClampNeg)) 190 (I 213 x1.toNatClampNeg).toNatClampNeg)) 10240 then if inb x1 80 then if inb x1 80 then some (a_u2 (a_u2 q14.2 218 ((128 * x1) + ((a_u2 I 213 x1.toNatClampNeg (I 191 (I 213 x1.toNatClampNeg).toNatClampNeg)) 190 (I 213 x1.toNatClampNeg).toNatClampNeg)).toNatClampNeg (q14.2 224 q14.1.toNatClampNeg)) 217 x1.toNatClampNeg (((a_u2 q14.2 218 ((128 * x1) + ((a_u2 I 213 x1.toNatClampNeg (I 191 (I 213 x1.toNatClampNeg).toNatClampNeg)) 190 (I 213 x1.toNatClampNeg).toNatClampNeg)).toNatClampNeg (q14.2 224 q14.1.toNatClampNeg)) 217 x1.toNatClampNeg) + 1), J) else none else none else none else none else none else if ((a_u2 I 213 x1.toNatClampNeg (I 191 (I 213 x1.toNatClampNeg).toNatClampNeg)) 188 (I 213 x1.toNatClampNeg).toNatClampNeg) = 46 then (mX12_writes (a_u2 I 213 x1.toNatClampNeg (I 191 (I 213 x1.toNatClampNeg).toNatClampNeg)) x1 (I 189 (I 213 x1.toNatClampNeg).toNatClampNeg)).bind fun q15 => if inb (I 213 x1.toNatClampNeg) 2800 then (mX12_lay (a_u2 I 213 x1.toNatClampNeg (I 191 (I 213 x1.toNatClampNeg).toNatClampNeg)) J q15 2 0 (J 192 (I 213 x1.toNatClampNeg).toNatClampNeg)).bind fun q16 => some (q16.1, q16.2) else none else if ((a_u2 I 213 x1.toNatClampNeg (I 191 (I 213 x1.toNatClampNeg).toNatClampNeg)) 188 (I 213 x1.toNatClampNeg).toNatClampNeg) = 47 then (mX12_reads (a_u2 I 213 x1.toNatClampNeg (I 191 (I 213 x1.toNatClampNeg).toNatClampNeg)) x1 (I 189 (I 213 x1.toNatClampNeg).toNatClampNeg)).bind fun q17 => (mX12_take (a_u2 I 213 x1.toNatClampNeg (I 191 (I 213 x1.toNatClampNeg).toNatClampNeg)) q17).bind fun q18 => if inb q18.1 700 then if inb (I 213 x1.toNatClampNeg) 2800 then mX12_goesOn_330 LF q18.2 J x1 (I 213 x1.toNatClampNeg) (I 189 (I 213 x1.toNatClampNeg).toNatClampNeg) (J 226 q18.1.toNatClampNeg) (q18.2 190 (I 213 x1.toNatClampNeg).toNatClampNeg) else none else none else if ((a_u2 I 213 x1.toNatClampNeg (I 191 (I 213 x1.toNatClampNeg).toNatClampNeg)) 188 (I 213 x1.toNatClampNeg).toNatClampNeg) = 48 then (mX12_makes (a_u2 I 213 x1.toNatClampNeg (I 191 (I 213 x1.toNatClampNeg).toNatClampNeg)) J x1 (I 213 x1.toNatClampNeg)).bind fun q19 => some (q19, J) else if ((a_u2 I 213 x1.toNatClampNeg (I 191 (I 213 x1.toNatClampNeg).toNatClampNeg)) 188 (I 213 x1.toNatClampNeg).toNatClampNeg) = 49 then if inb (I 213 x1.toNatClampNeg) 2800 then (mX12_tells (a_u2 I 213 x1.toNatClampNeg (I 191 (I 213 x1.toNatClampNeg).toNatClampNeg)) x1 x1 ((a_u2 I 213 x1.toNatClampNeg (I 191 (I 213 x1.toNatClampNeg).toNatClampNeg)) 190 (I 213 x1.toNatClampNeg).toNatClampNeg) (I 189 (I 213 x1.toNatClampNeg).toNatClampNeg)).bind fun q20 => if inb x1 80 then (mX12_enters (a_u2 q20.2 217 x1.toNatClampNeg q20.1) x1 (I 189 (I 213 x1.toNatClampNeg).toNatClampNeg)).bind fun q21 => some (q21, J) else none else none else if ((a_u2 I 213 x1.toNatClampNeg (I 191 (I 213 x1.toNatClampNeg).toNatClampNeg)) 188 (I 213 x1.toNatClampNeg).toNatClampNeg) = 50 then (mX12_joins (a_u2 I 213 x1.toNatClampNeg (I 191 (I 213 x1.toNatClampNeg).toNatClampNeg)) x1 (I 213 x1.toNatClampNeg)).bind fun q22 => some (q22, J) else (mX12_worth SF (a_u2 I 213 x1.toNatClampNeg (I 191 (I 213 x1.toNatClampNeg).toNatClampNeg)) x1 (I 189 (I 213 x1.toNatClampNeg).toNatClampNeg)).bind fun q23 => (mX12_says q23.2 x1 q23.1).bind fun q24 => some (q24, J) else none else none else none else none else none
set_option maxRecDepth 100000 in
set_option maxHeartbeats 4000000 in
theorem tX12_goesOn_362 {l : Launch} {K : a_KT} {g : a_GT} {IA : iT} (hko : a_kok K) {F : fT} {k330 : iT → jT → Int32 → Int32 → Int32 → Int64 → Int32 → Option (iT × jT)} (hk330 : ∀ (I : iT) (J : jT) (x1 : Int32) (x2 : Int32) (x3 : Int32) (w4 : Int64) (x6 : Int32) (_ : FOK F) (q : iT × jT), k330 I J x1 x2 x3 w4 x6 = some q → E l K g 454 0 0 yX12_goesOn cX12_goesOn 7 none 330 [.ref 186, .int x1, .int x2, .int x3, .long w4, .null, .int x6] [] (hg IA I J F) (fun r2 h2 => r2 = none ∧ h2 = hg IA q.1 q.2 F)) (I : iT) (J : jT) (x1 : Int32) (x2 : Int32) (x3 : Int32) (w4 : Int64) (x6 : Int32) (hF : FOK F) (q : iT × jT) (hm : mX12_goesOn_362 k330 I J x1 x2 x3 w4 x6 = some q) : E l K g 454 0 0 yX12_goesOn cX12_goesOn 7 none 362 [.ref 186, .int x1, .int x2, .int x3, .long w4, .null, .int x6] [] (hg IA I J F) (fun r2 h2 => r2 = none ∧ h2 = hg IA q.1 q.2 F) := by
  unfold mX12_goesOn_362 at hm
  refine e_aload_n (i := 0) rfl dX12_goesOn_362 ?_
  refine q_getF 12 14 191 dX12_goesOn_363 fl_RX12_26 rfl iz_186 (fr_186_14 hF) ?_
  refine e_iload (i := 6) rfl dX12_goesOn_366 ?_
  obtain ⟨c_368, hm⟩ := gd_s hm
  refine l_iald dX12_goesOn_368 iz_191 (inb_in ln_191 c_368) (by decide) ?_
  refine q_istore (i := 6) (by decide) rfl dX12_goesOn_369 ?_
  refine e_goto 330 dX12_goesOn_371 (by decide) ?_
  refine e_weak [.ref 186, .int x1, .int x2, .int x3, .long w4, .null, .int (I 191 x6.toNatClampNeg)] ⟨rfl, ⟨rfl, ⟨rfl, ⟨rfl, ⟨rfl, ⟨trivial, ⟨rfl, trivial⟩⟩⟩⟩⟩⟩⟩ ?_
  exact hk330 I J x1 x2 x3 w4 (I 191 x6.toNatClampNeg) hF _ hm
set_option maxRecDepth 100000 in
set_option maxHeartbeats 4000000 in
theorem tX12_goesOn_330 {l : Launch} {K : a_KT} {g : a_GT} {IA : iT} (hko : a_kok K) {F : fT} : ∀ (n : Nat) (I : iT) (J : jT) (x1 : Int32) (x2 : Int32) (x3 : Int32) (w4 : Int64) (x6 : Int32) (hF : FOK F) (q : iT × jT), mX12_goesOn_330 n I J x1 x2 x3 w4 x6 = some q → E l K g 454 0 0 yX12_goesOn cX12_goesOn 7 none 330 [.ref 186, .int x1, .int x2, .int x3, .long w4, .null, .int x6] [] (hg IA I J F) (fun r2 h2 => r2 = none ∧ h2 = hg IA q.1 q.2 F) := by
  intro n
  induction n with
  | zero => intro I J x1 x2 x3 w4 x6 hF q hm; cases hm
  | succ n ih =>
    intro I J x1 x2 x3 w4 x6 hF q hm
    rw [mX12_goesOn_330] at hm
    refine e_iload (i := 6) rfl dX12_goesOn_330 ?_
    refine e_iconst (v := (-1)) (by decide) dX12_goesOn_332 ?_
    refine e_icmp_eq 374 dX12_goesOn_333 (by decide) (fun c_333 => ?_) (fun c_333 => ?_)
    · have hm := it_p c_333 hm
      refine e_goto 438 dX12_goesOn_374 (by decide) ?_
      refine e_vret dX12_goesOn_438 rfl ?_
      have hm := some_in hm
      subst hm
      exact ⟨rfl, rfl⟩
    · have hm := it_n c_333 hm
      refine e_aload_n (i := 0) rfl dX12_goesOn_336 ?_
      refine q_getF 12 15 192 dX12_goesOn_337 fl_RX12_29 rfl iz_186 (fr_186_15 hF) ?_
      refine e_iload (i := 6) rfl dX12_goesOn_340 ?_
      obtain ⟨c_342, hm⟩ := gd_s hm
      refine q_lald dX12_goesOn_342 iz_192 (inb_in ln_192 c_342) ?_
      refine e_lload (i := 4) rfl dX12_goesOn_343 ?_
      refine e_lcmp dX12_goesOn_345 ?_
      refine e_if_ne 362 dX12_goesOn_346 (by decide) (fun c_346 => ?_) (fun c_346 => ?_)
      · have hm := it_n c_346 hm
        refine e_weak [.ref 186, .int x1, .int x2, .int x3, .long w4, .null, .int x6] ⟨rfl, ⟨rfl, ⟨rfl, ⟨rfl, ⟨rfl, ⟨trivial, ⟨rfl, trivial⟩⟩⟩⟩⟩⟩⟩ ?_
        exact tX12_goesOn_362 hko (ih) I J x1 x2 x3 w4 x6 hF _ hm
      · have hm := it_p c_346 hm
        refine e_aload_n (i := 0) rfl dX12_goesOn_349 ?_
        refine q_getF 12 53 213 dX12_goesOn_350 fl_RX12_93 rfl iz_186 (fr_186_53 hF) ?_
        refine e_iload_n (i := 1) rfl dX12_goesOn_353 ?_
        refine e_aload_n (i := 0) rfl dX12_goesOn_354 ?_
        refine q_getF 12 12 189 dX12_goesOn_355 fl_RX12_20 rfl iz_186 (fr_186_12 hF) ?_
        refine e_iload (i := 6) rfl dX12_goesOn_358 ?_
        obtain ⟨c_360, hm⟩ := gd_s hm
        refine l_iald dX12_goesOn_360 iz_189 (inb_in ln_189 c_360) (by decide) ?_
        obtain ⟨c_361, hm⟩ := gd_s hm
        refine l_iast dX12_goesOn_361 iz_213 (inb_in ln_213 c_361) (by decide) ?_
        refine e_weak [.ref 186, .int x1, .int x2, .int x3, .long w4, .null, .int x6] ⟨rfl, ⟨rfl, ⟨rfl, ⟨rfl, ⟨rfl, ⟨trivial, ⟨rfl, trivial⟩⟩⟩⟩⟩⟩⟩ ?_
        exact tX12_goesOn_362 hko (ih) (a_u2 I 213 x1.toNatClampNeg (I 189 x6.toNatClampNeg)) J x1 x2 x3 w4 x6 hF _ hm
set_option maxRecDepth 100000 in
set_option maxHeartbeats 4000000 in
theorem tX12_goesOn {l : Launch} {K : a_KT} {g : a_GT} {IA : iT} (hko : a_kok K) (I : iT) (J : jT) (F : fT) (hF : FOK F) (x1 : Int32) (q : iT × jT) (hm : mX12_goesOn I J x1 = some q) : C l K g 454 0 0 yX12_goesOn cX12_goesOn 7 none [.ref 186, .int x1] (hg IA I J F) (fun r2 h2 => r2 = none ∧ h2 = hg IA q.1 q.2 F) := by
  unfold mX12_goesOn at hm
  refine c_of [.ref 186, .int x1, .null, .null, .null, .null, .null] (by decide) (Nat.le_of_ble_eq_true rfl) rfl ?_
  refine e_aload_n (i := 0) rfl dX12_goesOn_0 ?_
  refine q_getF 12 53 213 dX12_goesOn_1 fl_RX12_93 rfl iz_186 (fr_186_53 hF) ?_
  refine e_iload_n (i := 1) rfl dX12_goesOn_4 ?_
  obtain ⟨c_5, hm⟩ := gd_s hm
  refine l_iald dX12_goesOn_5 iz_213 (inb_in ln_213 c_5) (by decide) ?_
  refine q_istore_n (i := 2) (by decide) rfl dX12_goesOn_6 ?_
  refine e_aload_n (i := 0) rfl dX12_goesOn_7 ?_
  refine q_getF 12 12 189 dX12_goesOn_8 fl_RX12_20 rfl iz_186 (fr_186_12 hF) ?_
  refine e_iload_n (i := 2) rfl dX12_goesOn_11 ?_
  obtain ⟨c_12, hm⟩ := gd_s hm
  refine l_iald dX12_goesOn_12 iz_189 (inb_in ln_189 c_12) (by decide) ?_
  refine q_istore_n (i := 3) (by decide) rfl dX12_goesOn_13 ?_
  refine e_aload_n (i := 0) rfl dX12_goesOn_14 ?_
  refine q_getF 12 53 213 dX12_goesOn_15 fl_RX12_93 rfl iz_186 (fr_186_53 hF) ?_
  refine e_iload_n (i := 1) rfl dX12_goesOn_18 ?_
  refine e_aload_n (i := 0) rfl dX12_goesOn_19 ?_
  refine q_getF 12 14 191 dX12_goesOn_20 fl_RX12_26 rfl iz_186 (fr_186_14 hF) ?_
  refine e_iload_n (i := 2) rfl dX12_goesOn_23 ?_
  obtain ⟨c_24, hm⟩ := gd_s hm
  refine l_iald dX12_goesOn_24 iz_191 (inb_in ln_191 c_24) (by decide) ?_
  obtain ⟨c_25, hm⟩ := gd_s hm
  refine l_iast dX12_goesOn_25 iz_213 (inb_in ln_213 c_25) (by decide) ?_
  refine e_aload_n (i := 0) rfl dX12_goesOn_26 ?_
  refine q_getF 12 11 188 dX12_goesOn_27 fl_RX12_17 rfl iz_186 (fr_186_11 hF) ?_
  refine e_iload_n (i := 2) rfl dX12_goesOn_30 ?_
  obtain ⟨c_31, hm⟩ := gd_s hm
  refine l_iald dX12_goesOn_31 iz_188 (inb_in ln_188 c_31) (by decide) ?_
  by_cases c_32_0 : ((a_u2 I 213 x1.toNatClampNeg (I 191 (I 213 x1.toNatClampNeg).toNatClampNeg)) 188 (I 213 x1.toNatClampNeg).toNatClampNeg) = 40
  · have hm := it_p c_32_0 hm
    refine e_tableIn 92 dX12_goesOn_32 (by rw [c_32_0]; decide) (by rw [c_32_0]; decide) (off := 60) (by rw [c_32_0]; decide) (by decide) ?_
    refine e_aload_n (i := 0) rfl dX12_goesOn_92 ?_
    refine e_aload_n (i := 0) rfl dX12_goesOn_93 ?_
    refine e_iload_n (i := 1) rfl dX12_goesOn_94 ?_
    refine e_iload_n (i := 3) rfl dX12_goesOn_95 ?_
    obtain ⟨q1, eq1, hm⟩ := ob_some hm
    refine e_cV2 hko dX12_goesOn_96 ml_RX12_491 iz_186 (by decide) rfl (by omega) (Nat.le_of_ble_eq_true rfl) (tX12_writes hko (a_u2 I 213 x1.toNatClampNeg (I 191 (I 213 x1.toNatClampNeg).toNatClampNeg)) J F hF x1 (I 189 (I 213 x1.toNatClampNeg).toNatClampNeg) _ eq1) ?_
    rintro _ _ ⟨rfl, rfl⟩
    refine e_iconst (v := 3) (by decide) dX12_goesOn_99 ?_
    refine e_iconst (v := 0) (by decide) dX12_goesOn_100 ?_
    refine e_lconst (v := 0) (by decide) dX12_goesOn_101 ?_
    obtain ⟨q2, eq2, hm⟩ := ob_some hm
    refine e_cV4 hko dX12_goesOn_102 ml_RX12_494 iz_186 (by decide) rfl (by omega) (Nat.le_of_ble_eq_true rfl) (tX12_lay hko (a_u2 I 213 x1.toNatClampNeg (I 191 (I 213 x1.toNatClampNeg).toNatClampNeg)) J F hF q1 3 0 0 _ eq2) ?_
    rintro _ _ ⟨rfl, rfl⟩
    refine e_aload_n (i := 0) rfl dX12_goesOn_105 ?_
    refine q_getF 12 59 219 dX12_goesOn_106 fl_RX12_111 rfl iz_186 (fr_186_59 hF) ?_
    refine e_iload_n (i := 1) rfl dX12_goesOn_109 ?_
    refine e_iconst (v := 1) (by decide) dX12_goesOn_110 ?_
    obtain ⟨c_111, hm⟩ := gd_s hm
    refine l_zast dX12_goesOn_111 iz_219 (inb_in ln_219 c_111) (by decide) (by decide) ?_
    refine e_goto 438 dX12_goesOn_112 (by decide) ?_
    refine e_vret dX12_goesOn_438 rfl ?_
    have hm := some_in hm
    subst hm
    exact ⟨rfl, rfl⟩
  have hm := it_n c_32_0 hm
  by_cases c_32_1 : ((a_u2 I 213 x1.toNatClampNeg (I 191 (I 213 x1.toNatClampNeg).toNatClampNeg)) 188 (I 213 x1.toNatClampNeg).toNatClampNeg) = 41
  · have hm := it_p c_32_1 hm
    refine e_tableIn 115 dX12_goesOn_32 (by rw [c_32_1]; decide) (by rw [c_32_1]; decide) (off := 83) (by rw [c_32_1]; decide) (by decide) ?_
    refine e_aload_n (i := 0) rfl dX12_goesOn_115 ?_
    refine e_aload_n (i := 0) rfl dX12_goesOn_116 ?_
    refine e_aload_n (i := 0) rfl dX12_goesOn_117 ?_
    refine e_iload_n (i := 1) rfl dX12_goesOn_118 ?_
    refine e_iload_n (i := 3) rfl dX12_goesOn_119 ?_
    obtain ⟨q3, eq3, hm⟩ := ob_some hm
    refine e_cV2 hko dX12_goesOn_120 ml_RX12_478 iz_186 (by decide) rfl (by omega) (Nat.le_of_ble_eq_true rfl) (tX12_reads hko (a_u2 I 213 x1.toNatClampNeg (I 191 (I 213 x1.toNatClampNeg).toNatClampNeg)) J F hF x1 (I 189 (I 213 x1.toNatClampNeg).toNatClampNeg) _ eq3) ?_
    rintro _ _ ⟨rfl, rfl⟩
    obtain ⟨q4, eq4, hm⟩ := ob_some hm
    refine e_cV1 hko dX12_goesOn_123 ml_RX12_498 iz_186 (by decide) rfl (by omega) (Nat.le_of_ble_eq_true rfl) (tX12_take hko (a_u2 I 213 x1.toNatClampNeg (I 191 (I 213 x1.toNatClampNeg).toNatClampNeg)) J F hF q3 _ eq4) ?_
    rintro _ _ ⟨rfl, rfl⟩
    refine l_putI 12 78 dX12_goesOn_126 fl_RX12_501 rfl rfl iz_186 (by decide) ?_
    refine e_aload_n (i := 0) rfl dX12_goesOn_129 ?_
    refine q_getF 12 57 217 dX12_goesOn_130 fl_RX12_105 rfl iz_186 (fr_186_57 hF) ?_
    refine e_iload_n (i := 1) rfl dX12_goesOn_133 ?_
    refine e_dup2 rfl rfl dX12_goesOn_134 ?_
    obtain ⟨c_135, hm⟩ := gd_s hm
    refine l_iald dX12_goesOn_135 iz_217 (inb_in ln_217 c_135) (by decide) ?_
    refine e_iconst (v := 1) (by decide) dX12_goesOn_136 ?_
    refine e_isub dX12_goesOn_137 ?_
    obtain ⟨c_138, hm⟩ := gd_s hm
    refine l_iast dX12_goesOn_138 iz_217 (inb_in ln_217 c_138) (by decide) ?_
    refine e_goto 438 dX12_goesOn_139 (by decide) ?_
    refine e_vret dX12_goesOn_438 rfl ?_
    have hm := some_in hm
    subst hm
    exact ⟨rfl, rfl⟩
  have hm := it_n c_32_1 hm
  by_cases c_32_2 : ((a_u2 I 213 x1.toNatClampNeg (I 191 (I 213 x1.toNatClampNeg).toNatClampNeg)) 188 (I 213 x1.toNatClampNeg).toNatClampNeg) = 42
  · have hm := it_p c_32_2 hm
    refine e_tableIn 142 dX12_goesOn_32 (by rw [c_32_2]; decide) (by rw [c_32_2]; decide) (off := 110) (by rw [c_32_2]; decide) (by decide) ?_
    refine e_aload_n (i := 0) rfl dX12_goesOn_142 ?_
    refine e_aload_n (i := 0) rfl dX12_goesOn_143 ?_
    refine e_iload_n (i := 1) rfl dX12_goesOn_144 ?_
    refine e_iload_n (i := 3) rfl dX12_goesOn_145 ?_
    obtain ⟨q5, eq5, hm⟩ := ob_some hm
    refine e_cV2 hko dX12_goesOn_146 ml_RX12_491 iz_186 (by decide) rfl (by omega) (Nat.le_of_ble_eq_true rfl) (tX12_writes hko (a_u2 I 213 x1.toNatClampNeg (I 191 (I 213 x1.toNatClampNeg).toNatClampNeg)) J F hF x1 (I 189 (I 213 x1.toNatClampNeg).toNatClampNeg) _ eq5) ?_
    rintro _ _ ⟨rfl, rfl⟩
    refine e_iconst (v := 0) (by decide) dX12_goesOn_149 ?_
    refine e_aload_n (i := 0) rfl dX12_goesOn_150 ?_
    refine e_iload_n (i := 1) rfl dX12_goesOn_151 ?_
    refine e_aload_n (i := 0) rfl dX12_goesOn_152 ?_
    refine q_getF 12 13 190 dX12_goesOn_153 fl_RX12_23 rfl iz_186 (fr_186_13 hF) ?_
    refine e_iload_n (i := 2) rfl dX12_goesOn_156 ?_
    obtain ⟨c_157, hm⟩ := gd_s hm
    refine l_iald dX12_goesOn_157 iz_190 (inb_in ln_190 c_157) (by decide) ?_
    obtain ⟨q6, eq6, hm⟩ := ob_some hm
    refine e_cV2 hko dX12_goesOn_158 ml_RX12_462 iz_186 (by decide) rfl (by omega) (Nat.le_of_ble_eq_true rfl) (tX12_worth hko (a_u2 I 213 x1.toNatClampNeg (I 191 (I 213 x1.toNatClampNeg).toNatClampNeg)) J F hF x1 ((a_u2 I 213 x1.toNatClampNeg (I 191 (I 213 x1.toNatClampNeg).toNatClampNeg)) 190 (I 213 x1.toNatClampNeg).toNatClampNeg) _ eq6) ?_
    rintro _ _ ⟨rfl, rfl⟩
    refine e_lconst (v := 0) (by decide) dX12_goesOn_161 ?_
    obtain ⟨q7, eq7, hm⟩ := ob_some hm
    refine e_cV4 hko dX12_goesOn_162 ml_RX12_494 iz_186 (by decide) rfl (by omega) (Nat.le_of_ble_eq_true rfl) (tX12_lay hko q6.2 J F hF q5 0 q6.1 0 _ eq7) ?_
    rintro _ _ ⟨rfl, rfl⟩
    refine e_goto 438 dX12_goesOn_165 (by decide) ?_
    refine e_vret dX12_goesOn_438 rfl ?_
    have hm := some_in hm
    subst hm
    exact ⟨rfl, rfl⟩
  have hm := it_n c_32_2 hm
  by_cases c_32_3 : ((a_u2 I 213 x1.toNatClampNeg (I 191 (I 213 x1.toNatClampNeg).toNatClampNeg)) 188 (I 213 x1.toNatClampNeg).toNatClampNeg) = 43
  · have hm := it_p c_32_3 hm
    refine e_tableIn 168 dX12_goesOn_32 (by rw [c_32_3]; decide) (by rw [c_32_3]; decide) (off := 136) (by rw [c_32_3]; decide) (by decide) ?_
    refine e_aload_n (i := 0) rfl dX12_goesOn_168 ?_
    refine q_getF 12 58 218 dX12_goesOn_169 fl_RX12_108 rfl iz_186 (fr_186_58 hF) ?_
    refine e_sipush (v := 128) (by decide) dX12_goesOn_172 ?_
    refine e_iload_n (i := 1) rfl dX12_goesOn_175 ?_
    refine e_imul dX12_goesOn_176 ?_
    refine e_aload_n (i := 0) rfl dX12_goesOn_177 ?_
    refine q_getF 12 13 190 dX12_goesOn_178 fl_RX12_23 rfl iz_186 (fr_186_13 hF) ?_
    refine e_iload_n (i := 2) rfl dX12_goesOn_181 ?_
    obtain ⟨c_182, hm⟩ := gd_s hm
    refine l_iald dX12_goesOn_182 iz_190 (inb_in ln_190 c_182) (by decide) ?_
    refine e_iadd dX12_goesOn_183 ?_
    refine e_aload_n (i := 0) rfl dX12_goesOn_184 ?_
    refine q_getF 12 70 224 dX12_goesOn_185 fl_RX12_127 rfl iz_186 (fr_186_70 hF) ?_
    refine e_aload_n (i := 0) rfl dX12_goesOn_188 ?_
    refine e_aload_n (i := 0) rfl dX12_goesOn_189 ?_
    refine e_iload_n (i := 1) rfl dX12_goesOn_190 ?_
    refine e_iload_n (i := 3) rfl dX12_goesOn_191 ?_
    obtain ⟨q8, eq8, hm⟩ := ob_some hm
    refine e_cV2 hko dX12_goesOn_192 ml_RX12_478 iz_186 (by decide) rfl (by omega) (Nat.le_of_ble_eq_true rfl) (tX12_reads hko (a_u2 I 213 x1.toNatClampNeg (I 191 (I 213 x1.toNatClampNeg).toNatClampNeg)) J F hF x1 (I 189 (I 213 x1.toNatClampNeg).toNatClampNeg) _ eq8) ?_
    rintro _ _ ⟨rfl, rfl⟩
    obtain ⟨q9, eq9, hm⟩ := ob_some hm
    refine e_cV1 hko dX12_goesOn_195 ml_RX12_498 iz_186 (by decide) rfl (by omega) (Nat.le_of_ble_eq_true rfl) (tX12_take hko (a_u2 I 213 x1.toNatClampNeg (I 191 (I 213 x1.toNatClampNeg).toNatClampNeg)) J F hF q8 _ eq9) ?_
    rintro _ _ ⟨rfl, rfl⟩
    obtain ⟨c_198, hm⟩ := gd_s hm
    refine l_iald dX12_goesOn_198 iz_224 (inb_in ln_224 c_198) (by decide) ?_
    obtain ⟨c_199, hm⟩ := gd_s hm
    refine l_iast dX12_goesOn_199 iz_218 (inb_in ln_218 c_199) (by decide) ?_
    refine e_goto 438 dX12_goesOn_200 (by decide) ?_
    refine e_vret dX12_goesOn_438 rfl ?_
    have hm := some_in hm
    subst hm
    exact ⟨rfl, rfl⟩
  have hm := it_n c_32_3 hm
  by_cases c_32_4 : ((a_u2 I 213 x1.toNatClampNeg (I 191 (I 213 x1.toNatClampNeg).toNatClampNeg)) 188 (I 213 x1.toNatClampNeg).toNatClampNeg) = 44
  · have hm := it_p c_32_4 hm
    refine e_tableIn 203 dX12_goesOn_32 (by rw [c_32_4]; decide) (by rw [c_32_4]; decide) (off := 171) (by rw [c_32_4]; decide) (by decide) ?_
    refine e_aload_n (i := 0) rfl dX12_goesOn_203 ?_
    refine e_aload_n (i := 0) rfl dX12_goesOn_204 ?_
    refine e_iload_n (i := 1) rfl dX12_goesOn_205 ?_
    refine e_iload_n (i := 3) rfl dX12_goesOn_206 ?_
    obtain ⟨q10, eq10, hm⟩ := ob_some hm
    refine e_cV2 hko dX12_goesOn_207 ml_RX12_491 iz_186 (by decide) rfl (by omega) (Nat.le_of_ble_eq_true rfl) (tX12_writes hko (a_u2 I 213 x1.toNatClampNeg (I 191 (I 213 x1.toNatClampNeg).toNatClampNeg)) J F hF x1 (I 189 (I 213 x1.toNatClampNeg).toNatClampNeg) _ eq10) ?_
    rintro _ _ ⟨rfl, rfl⟩
    refine e_iconst (v := 1) (by decide) dX12_goesOn_210 ?_
    refine e_aload_n (i := 0) rfl dX12_goesOn_211 ?_
    refine e_iload_n (i := 1) rfl dX12_goesOn_212 ?_
    refine e_aload_n (i := 0) rfl dX12_goesOn_213 ?_
    refine q_getF 12 13 190 dX12_goesOn_214 fl_RX12_23 rfl iz_186 (fr_186_13 hF) ?_
    refine e_iload_n (i := 2) rfl dX12_goesOn_217 ?_
    obtain ⟨c_218, hm⟩ := gd_s hm
    refine l_iald dX12_goesOn_218 iz_190 (inb_in ln_190 c_218) (by decide) ?_
    obtain ⟨q11, eq11, hm⟩ := ob_some hm
    refine e_cV2 hko dX12_goesOn_219 ml_RX12_458 iz_186 (by decide) rfl (by omega) (Nat.le_of_ble_eq_true rfl) (tX12_value hko (a_u2 I 213 x1.toNatClampNeg (I 191 (I 213 x1.toNatClampNeg).toNatClampNeg)) J F hF x1 ((a_u2 I 213 x1.toNatClampNeg (I 191 (I 213 x1.toNatClampNeg).toNatClampNeg)) 190 (I 213 x1.toNatClampNeg).toNatClampNeg) _ eq11) ?_
    rintro _ _ ⟨rfl, rfl⟩
    refine e_lconst (v := 0) (by decide) dX12_goesOn_222 ?_
    obtain ⟨q12, eq12, hm⟩ := ob_some hm
    refine e_cV4 hko dX12_goesOn_223 ml_RX12_494 iz_186 (by decide) rfl (by omega) (Nat.le_of_ble_eq_true rfl) (tX12_lay hko (a_u2 I 213 x1.toNatClampNeg (I 191 (I 213 x1.toNatClampNeg).toNatClampNeg)) J F hF q10 1 q11 0 _ eq12) ?_
    rintro _ _ ⟨rfl, rfl⟩
    refine e_aload_n (i := 0) rfl dX12_goesOn_226 ?_
    refine q_getF 12 57 217 dX12_goesOn_227 fl_RX12_105 rfl iz_186 (fr_186_57 hF) ?_
    refine e_iload_n (i := 1) rfl dX12_goesOn_230 ?_
    refine e_dup2 rfl rfl dX12_goesOn_231 ?_
    obtain ⟨c_232, hm⟩ := gd_s hm
    refine l_iald dX12_goesOn_232 iz_217 (inb_in ln_217 c_232) (by decide) ?_
    refine e_iconst (v := 1) (by decide) dX12_goesOn_233 ?_
    refine e_isub dX12_goesOn_234 ?_
    obtain ⟨c_235, hm⟩ := gd_s hm
    refine l_iast dX12_goesOn_235 iz_217 (inb_in ln_217 c_235) (by decide) ?_
    refine e_goto 438 dX12_goesOn_236 (by decide) ?_
    refine e_vret dX12_goesOn_438 rfl ?_
    have hm := some_in hm
    subst hm
    exact ⟨rfl, rfl⟩
  have hm := it_n c_32_4 hm
  by_cases c_32_5 : ((a_u2 I 213 x1.toNatClampNeg (I 191 (I 213 x1.toNatClampNeg).toNatClampNeg)) 188 (I 213 x1.toNatClampNeg).toNatClampNeg) = 45
  · have hm := it_p c_32_5 hm
    refine e_tableIn 239 dX12_goesOn_32 (by rw [c_32_5]; decide) (by rw [c_32_5]; decide) (off := 207) (by rw [c_32_5]; decide) (by decide) ?_
    refine e_aload_n (i := 0) rfl dX12_goesOn_239 ?_
    refine q_getF 12 58 218 dX12_goesOn_240 fl_RX12_108 rfl iz_186 (fr_186_58 hF) ?_
    refine e_sipush (v := 128) (by decide) dX12_goesOn_243 ?_
    refine e_iload_n (i := 1) rfl dX12_goesOn_246 ?_
    refine e_imul dX12_goesOn_247 ?_
    refine e_aload_n (i := 0) rfl dX12_goesOn_248 ?_
    refine q_getF 12 13 190 dX12_goesOn_249 fl_RX12_23 rfl iz_186 (fr_186_13 hF) ?_
    refine e_iload_n (i := 2) rfl dX12_goesOn_252 ?_
    obtain ⟨c_253, hm⟩ := gd_s hm
    refine l_iald dX12_goesOn_253 iz_190 (inb_in ln_190 c_253) (by decide) ?_
    refine e_iadd dX12_goesOn_254 ?_
    refine e_aload_n (i := 0) rfl dX12_goesOn_255 ?_
    refine q_getF 12 70 224 dX12_goesOn_256 fl_RX12_127 rfl iz_186 (fr_186_70 hF) ?_
    refine e_aload_n (i := 0) rfl dX12_goesOn_259 ?_
    refine e_aload_n (i := 0) rfl dX12_goesOn_260 ?_
    refine e_iload_n (i := 1) rfl dX12_goesOn_261 ?_
    refine e_iload_n (i := 3) rfl dX12_goesOn_262 ?_
    obtain ⟨q13, eq13, hm⟩ := ob_some hm
    refine e_cV2 hko dX12_goesOn_263 ml_RX12_478 iz_186 (by decide) rfl (by omega) (Nat.le_of_ble_eq_true rfl) (tX12_reads hko (a_u2 I 213 x1.toNatClampNeg (I 191 (I 213 x1.toNatClampNeg).toNatClampNeg)) J F hF x1 (I 189 (I 213 x1.toNatClampNeg).toNatClampNeg) _ eq13) ?_
    rintro _ _ ⟨rfl, rfl⟩
    obtain ⟨q14, eq14, hm⟩ := ob_some hm
    refine e_cV1 hko dX12_goesOn_266 ml_RX12_498 iz_186 (by decide) rfl (by omega) (Nat.le_of_ble_eq_true rfl) (tX12_take hko (a_u2 I 213 x1.toNatClampNeg (I 191 (I 213 x1.toNatClampNeg).toNatClampNeg)) J F hF q13 _ eq14) ?_
    rintro _ _ ⟨rfl, rfl⟩
    obtain ⟨c_269, hm⟩ := gd_s hm
    refine l_iald dX12_goesOn_269 iz_224 (inb_in ln_224 c_269) (by decide) ?_
    obtain ⟨c_270, hm⟩ := gd_s hm
    refine l_iast dX12_goesOn_270 iz_218 (inb_in ln_218 c_270) (by decide) ?_
    refine e_aload_n (i := 0) rfl dX12_goesOn_271 ?_
    refine q_getF 12 57 217 dX12_goesOn_272 fl_RX12_105 rfl iz_186 (fr_186_57 hF) ?_
    refine e_iload_n (i := 1) rfl dX12_goesOn_275 ?_
    refine e_dup2 rfl rfl dX12_goesOn_276 ?_
    obtain ⟨c_277, hm⟩ := gd_s hm
    refine l_iald dX12_goesOn_277 iz_217 (inb_in ln_217 c_277) (by decide) ?_
    refine e_iconst (v := 1) (by decide) dX12_goesOn_278 ?_
    refine e_iadd dX12_goesOn_279 ?_
    obtain ⟨c_280, hm⟩ := gd_s hm
    refine l_iast dX12_goesOn_280 iz_217 (inb_in ln_217 c_280) (by decide) ?_
    refine e_goto 438 dX12_goesOn_281 (by decide) ?_
    refine e_vret dX12_goesOn_438 rfl ?_
    have hm := some_in hm
    subst hm
    exact ⟨rfl, rfl⟩
  have hm := it_n c_32_5 hm
  by_cases c_32_6 : ((a_u2 I 213 x1.toNatClampNeg (I 191 (I 213 x1.toNatClampNeg).toNatClampNeg)) 188 (I 213 x1.toNatClampNeg).toNatClampNeg) = 46
  · have hm := it_p c_32_6 hm
    refine e_tableIn 284 dX12_goesOn_32 (by rw [c_32_6]; decide) (by rw [c_32_6]; decide) (off := 252) (by rw [c_32_6]; decide) (by decide) ?_
    refine e_aload_n (i := 0) rfl dX12_goesOn_284 ?_
    refine e_aload_n (i := 0) rfl dX12_goesOn_285 ?_
    refine e_iload_n (i := 1) rfl dX12_goesOn_286 ?_
    refine e_iload_n (i := 3) rfl dX12_goesOn_287 ?_
    obtain ⟨q15, eq15, hm⟩ := ob_some hm
    refine e_cV2 hko dX12_goesOn_288 ml_RX12_491 iz_186 (by decide) rfl (by omega) (Nat.le_of_ble_eq_true rfl) (tX12_writes hko (a_u2 I 213 x1.toNatClampNeg (I 191 (I 213 x1.toNatClampNeg).toNatClampNeg)) J F hF x1 (I 189 (I 213 x1.toNatClampNeg).toNatClampNeg) _ eq15) ?_
    rintro _ _ ⟨rfl, rfl⟩
    refine e_iconst (v := 2) (by decide) dX12_goesOn_291 ?_
    refine e_iconst (v := 0) (by decide) dX12_goesOn_292 ?_
    refine e_aload_n (i := 0) rfl dX12_goesOn_293 ?_
    refine q_getF 12 15 192 dX12_goesOn_294 fl_RX12_29 rfl iz_186 (fr_186_15 hF) ?_
    refine e_iload_n (i := 2) rfl dX12_goesOn_297 ?_
    obtain ⟨c_298, hm⟩ := gd_s hm
    refine q_lald dX12_goesOn_298 iz_192 (inb_in ln_192 c_298) ?_
    obtain ⟨q16, eq16, hm⟩ := ob_some hm
    refine e_cV4 hko dX12_goesOn_299 ml_RX12_494 iz_186 (by decide) rfl (by omega) (Nat.le_of_ble_eq_true rfl) (tX12_lay hko (a_u2 I 213 x1.toNatClampNeg (I 191 (I 213 x1.toNatClampNeg).toNatClampNeg)) J F hF q15 2 0 (J 192 (I 213 x1.toNatClampNeg).toNatClampNeg) _ eq16) ?_
    rintro _ _ ⟨rfl, rfl⟩
    refine e_goto 438 dX12_goesOn_302 (by decide) ?_
    refine e_vret dX12_goesOn_438 rfl ?_
    have hm := some_in hm
    subst hm
    exact ⟨rfl, rfl⟩
  have hm := it_n c_32_6 hm
  by_cases c_32_7 : ((a_u2 I 213 x1.toNatClampNeg (I 191 (I 213 x1.toNatClampNeg).toNatClampNeg)) 188 (I 213 x1.toNatClampNeg).toNatClampNeg) = 47
  · have hm := it_p c_32_7 hm
    refine e_tableIn 305 dX12_goesOn_32 (by rw [c_32_7]; decide) (by rw [c_32_7]; decide) (off := 273) (by rw [c_32_7]; decide) (by decide) ?_
    refine e_aload_n (i := 0) rfl dX12_goesOn_305 ?_
    refine q_getF 12 72 226 dX12_goesOn_306 fl_RX12_133 rfl iz_186 (fr_186_72 hF) ?_
    refine e_aload_n (i := 0) rfl dX12_goesOn_309 ?_
    refine e_aload_n (i := 0) rfl dX12_goesOn_310 ?_
    refine e_iload_n (i := 1) rfl dX12_goesOn_311 ?_
    refine e_iload_n (i := 3) rfl dX12_goesOn_312 ?_
    obtain ⟨q17, eq17, hm⟩ := ob_some hm
    refine e_cV2 hko dX12_goesOn_313 ml_RX12_478 iz_186 (by decide) rfl (by omega) (Nat.le_of_ble_eq_true rfl) (tX12_reads hko (a_u2 I 213 x1.toNatClampNeg (I 191 (I 213 x1.toNatClampNeg).toNatClampNeg)) J F hF x1 (I 189 (I 213 x1.toNatClampNeg).toNatClampNeg) _ eq17) ?_
    rintro _ _ ⟨rfl, rfl⟩
    obtain ⟨q18, eq18, hm⟩ := ob_some hm
    refine e_cV1 hko dX12_goesOn_316 ml_RX12_498 iz_186 (by decide) rfl (by omega) (Nat.le_of_ble_eq_true rfl) (tX12_take hko (a_u2 I 213 x1.toNatClampNeg (I 191 (I 213 x1.toNatClampNeg).toNatClampNeg)) J F hF q17 _ eq18) ?_
    rintro _ _ ⟨rfl, rfl⟩
    obtain ⟨c_319, hm⟩ := gd_s hm
    refine q_lald dX12_goesOn_319 iz_226 (inb_in ln_226 c_319) ?_
    refine e_lstore (i := 4) (by decide) dX12_goesOn_320 ?_
    refine e_aload_n (i := 0) rfl dX12_goesOn_322 ?_
    refine q_getF 12 13 190 dX12_goesOn_323 fl_RX12_23 rfl iz_186 (fr_186_13 hF) ?_
    refine e_iload_n (i := 2) rfl dX12_goesOn_326 ?_
    obtain ⟨c_327, hm⟩ := gd_s hm
    refine l_iald dX12_goesOn_327 iz_190 (inb_in ln_190 c_327) (by decide) ?_
    refine q_istore (i := 6) (by decide) rfl dX12_goesOn_328 ?_
    refine e_weak [.ref 186, .int x1, .int (I 213 x1.toNatClampNeg), .int (I 189 (I 213 x1.toNatClampNeg).toNatClampNeg), .long (J 226 q18.1.toNatClampNeg), .null, .int (q18.2 190 (I 213 x1.toNatClampNeg).toNatClampNeg)] ⟨rfl, ⟨rfl, ⟨rfl, ⟨rfl, ⟨rfl, ⟨trivial, ⟨rfl, trivial⟩⟩⟩⟩⟩⟩⟩ ?_
    exact tX12_goesOn_330 hko LF q18.2 J x1 (I 213 x1.toNatClampNeg) (I 189 (I 213 x1.toNatClampNeg).toNatClampNeg) (J 226 q18.1.toNatClampNeg) (q18.2 190 (I 213 x1.toNatClampNeg).toNatClampNeg) hF _ hm
  have hm := it_n c_32_7 hm
  by_cases c_32_8 : ((a_u2 I 213 x1.toNatClampNeg (I 191 (I 213 x1.toNatClampNeg).toNatClampNeg)) 188 (I 213 x1.toNatClampNeg).toNatClampNeg) = 48
  · have hm := it_p c_32_8 hm
    refine e_tableIn 377 dX12_goesOn_32 (by rw [c_32_8]; decide) (by rw [c_32_8]; decide) (off := 345) (by rw [c_32_8]; decide) (by decide) ?_
    refine e_aload_n (i := 0) rfl dX12_goesOn_377 ?_
    refine e_iload_n (i := 1) rfl dX12_goesOn_378 ?_
    refine e_iload_n (i := 2) rfl dX12_goesOn_379 ?_
    obtain ⟨q19, eq19, hm⟩ := ob_some hm
    refine e_cV2 hko dX12_goesOn_380 ml_RX12_504 iz_186 (by decide) rfl (by omega) (Nat.le_of_ble_eq_true rfl) (tX12_makes hko (a_u2 I 213 x1.toNatClampNeg (I 191 (I 213 x1.toNatClampNeg).toNatClampNeg)) J F hF x1 (I 213 x1.toNatClampNeg) _ eq19) ?_
    rintro _ _ ⟨rfl, rfl⟩
    refine e_goto 438 dX12_goesOn_383 (by decide) ?_
    refine e_vret dX12_goesOn_438 rfl ?_
    have hm := some_in hm
    subst hm
    exact ⟨rfl, rfl⟩
  have hm := it_n c_32_8 hm
  by_cases c_32_9 : ((a_u2 I 213 x1.toNatClampNeg (I 191 (I 213 x1.toNatClampNeg).toNatClampNeg)) 188 (I 213 x1.toNatClampNeg).toNatClampNeg) = 49
  · have hm := it_p c_32_9 hm
    refine e_tableIn 386 dX12_goesOn_32 (by rw [c_32_9]; decide) (by rw [c_32_9]; decide) (off := 354) (by rw [c_32_9]; decide) (by decide) ?_
    refine e_aload_n (i := 0) rfl dX12_goesOn_386 ?_
    refine e_iload_n (i := 1) rfl dX12_goesOn_387 ?_
    refine e_iload_n (i := 1) rfl dX12_goesOn_388 ?_
    refine e_aload_n (i := 0) rfl dX12_goesOn_389 ?_
    refine q_getF 12 13 190 dX12_goesOn_390 fl_RX12_23 rfl iz_186 (fr_186_13 hF) ?_
    refine e_iload_n (i := 2) rfl dX12_goesOn_393 ?_
    obtain ⟨c_394, hm⟩ := gd_s hm
    refine l_iald dX12_goesOn_394 iz_190 (inb_in ln_190 c_394) (by decide) ?_
    refine e_iload_n (i := 3) rfl dX12_goesOn_395 ?_
    obtain ⟨q20, eq20, hm⟩ := ob_some hm
    refine e_cV4 hko dX12_goesOn_396 ml_RX12_507 iz_186 (by decide) rfl (by omega) (Nat.le_of_ble_eq_true rfl) (tX12_tells hko (a_u2 I 213 x1.toNatClampNeg (I 191 (I 213 x1.toNatClampNeg).toNatClampNeg)) J F hF x1 x1 ((a_u2 I 213 x1.toNatClampNeg (I 191 (I 213 x1.toNatClampNeg).toNatClampNeg)) 190 (I 213 x1.toNatClampNeg).toNatClampNeg) (I 189 (I 213 x1.toNatClampNeg).toNatClampNeg) _ eq20) ?_
    rintro _ _ ⟨rfl, rfl⟩
    refine q_istore (i := 4) (by decide) rfl dX12_goesOn_399 ?_
    refine e_aload_n (i := 0) rfl dX12_goesOn_401 ?_
    refine q_getF 12 57 217 dX12_goesOn_402 fl_RX12_105 rfl iz_186 (fr_186_57 hF) ?_
    refine e_iload_n (i := 1) rfl dX12_goesOn_405 ?_
    refine e_iload (i := 4) rfl dX12_goesOn_406 ?_
    obtain ⟨c_408, hm⟩ := gd_s hm
    refine l_iast dX12_goesOn_408 iz_217 (inb_in ln_217 c_408) (by decide) ?_
    refine e_aload_n (i := 0) rfl dX12_goesOn_409 ?_
    refine e_iload_n (i := 1) rfl dX12_goesOn_410 ?_
    refine e_iload_n (i := 3) rfl dX12_goesOn_411 ?_
    obtain ⟨q21, eq21, hm⟩ := ob_some hm
    refine e_cV2 hko dX12_goesOn_412 ml_RX12_448 iz_186 (by decide) rfl (by omega) (Nat.le_of_ble_eq_true rfl) (tX12_enters hko (a_u2 q20.2 217 x1.toNatClampNeg q20.1) J F hF x1 (I 189 (I 213 x1.toNatClampNeg).toNatClampNeg) _ eq21) ?_
    rintro _ _ ⟨rfl, rfl⟩
    refine e_goto 438 dX12_goesOn_415 (by decide) ?_
    refine e_vret dX12_goesOn_438 rfl ?_
    have hm := some_in hm
    subst hm
    exact ⟨rfl, rfl⟩
  have hm := it_n c_32_9 hm
  by_cases c_32_10 : ((a_u2 I 213 x1.toNatClampNeg (I 191 (I 213 x1.toNatClampNeg).toNatClampNeg)) 188 (I 213 x1.toNatClampNeg).toNatClampNeg) = 50
  · have hm := it_p c_32_10 hm
    refine e_tableIn 418 dX12_goesOn_32 (by rw [c_32_10]; decide) (by rw [c_32_10]; decide) (off := 386) (by rw [c_32_10]; decide) (by decide) ?_
    refine e_aload_n (i := 0) rfl dX12_goesOn_418 ?_
    refine e_iload_n (i := 1) rfl dX12_goesOn_419 ?_
    refine e_iload_n (i := 2) rfl dX12_goesOn_420 ?_
    obtain ⟨q22, eq22, hm⟩ := ob_some hm
    refine e_cV2 hko dX12_goesOn_421 ml_RX12_511 iz_186 (by decide) rfl (by omega) (Nat.le_of_ble_eq_true rfl) (tX12_joins hko (a_u2 I 213 x1.toNatClampNeg (I 191 (I 213 x1.toNatClampNeg).toNatClampNeg)) J F hF x1 (I 213 x1.toNatClampNeg) _ eq22) ?_
    rintro _ _ ⟨rfl, rfl⟩
    refine e_goto 438 dX12_goesOn_424 (by decide) ?_
    refine e_vret dX12_goesOn_438 rfl ?_
    have hm := some_in hm
    subst hm
    exact ⟨rfl, rfl⟩
  have hm := it_n c_32_10 hm
  have n_32_0 := lv_neT (a := 40) c_32_0 (by decide)
  have n_32_1 := lv_neT (a := 41) c_32_1 (by decide)
  have n_32_2 := lv_neT (a := 42) c_32_2 (by decide)
  have n_32_3 := lv_neT (a := 43) c_32_3 (by decide)
  have n_32_4 := lv_neT (a := 44) c_32_4 (by decide)
  have n_32_5 := lv_neT (a := 45) c_32_5 (by decide)
  have n_32_6 := lv_neT (a := 46) c_32_6 (by decide)
  have n_32_7 := lv_neT (a := 47) c_32_7 (by decide)
  have n_32_8 := lv_neT (a := 48) c_32_8 (by decide)
  have n_32_9 := lv_neT (a := 49) c_32_9 (by decide)
  have n_32_10 := lv_neT (a := 50) c_32_10 (by decide)
  refine e_tableOut 427 dX12_goesOn_32 (by omega) (by decide) ?_
  refine e_aload_n (i := 0) rfl dX12_goesOn_427 ?_
  refine e_iload_n (i := 1) rfl dX12_goesOn_428 ?_
  refine e_aload_n (i := 0) rfl dX12_goesOn_429 ?_
  refine e_iload_n (i := 1) rfl dX12_goesOn_430 ?_
  refine e_iload_n (i := 3) rfl dX12_goesOn_431 ?_
  obtain ⟨q23, eq23, hm⟩ := ob_some hm
  refine e_cV2 hko dX12_goesOn_432 ml_RX12_462 iz_186 (by decide) rfl (by omega) (Nat.le_of_ble_eq_true rfl) (tX12_worth hko (a_u2 I 213 x1.toNatClampNeg (I 191 (I 213 x1.toNatClampNeg).toNatClampNeg)) J F hF x1 (I 189 (I 213 x1.toNatClampNeg).toNatClampNeg) _ eq23) ?_
  rintro _ _ ⟨rfl, rfl⟩
  obtain ⟨q24, eq24, hm⟩ := ob_some hm
  refine e_cV2 hko dX12_goesOn_435 ml_RX12_514 iz_186 (by decide) rfl (by omega) (Nat.le_of_ble_eq_true rfl) (tX12_says hko q23.2 J F hF x1 q23.1 _ eq24) ?_
  rintro _ _ ⟨rfl, rfl⟩
  refine e_vret dX12_goesOn_438 rfl ?_
  have hm := some_in hm
  subst hm
  exact ⟨rfl, rfl⟩
theorem dX12_isReading_0 : decode cX12_isReading 0 = .ok (.iload_n 0, 1) := by decide +kernel
theorem dX12_isReading_1 : decode cX12_isReading 1 = .ok (.bipush 43, 2) := by decide +kernel
theorem dX12_isReading_3 : decode cX12_isReading 3 = .ok (.if_icmp .eq 21, 3) := by decide +kernel
theorem dX12_isReading_6 : decode cX12_isReading 6 = .ok (.iload_n 0, 1) := by decide +kernel
theorem dX12_isReading_7 : decode cX12_isReading 7 = .ok (.bipush 45, 2) := by decide +kernel
theorem dX12_isReading_9 : decode cX12_isReading 9 = .ok (.if_icmp .eq 15, 3) := by decide +kernel
theorem dX12_isReading_12 : decode cX12_isReading 12 = .ok (.iload_n 0, 1) := by decide +kernel
theorem dX12_isReading_13 : decode cX12_isReading 13 = .ok (.bipush 47, 2) := by decide +kernel
theorem dX12_isReading_15 : decode cX12_isReading 15 = .ok (.if_icmp .eq 9, 3) := by decide +kernel
theorem dX12_isReading_18 : decode cX12_isReading 18 = .ok (.iload_n 0, 1) := by decide +kernel
theorem dX12_isReading_19 : decode cX12_isReading 19 = .ok (.bipush 41, 2) := by decide +kernel
theorem dX12_isReading_21 : decode cX12_isReading 21 = .ok (.if_icmp .ne 7, 3) := by decide +kernel
theorem dX12_isReading_24 : decode cX12_isReading 24 = .ok (.iconst 1, 1) := by decide +kernel
theorem dX12_isReading_25 : decode cX12_isReading 25 = .ok (.goto 4, 3) := by decide +kernel
theorem dX12_isReading_28 : decode cX12_isReading 28 = .ok (.iconst 0, 1) := by decide +kernel
theorem dX12_isReading_29 : decode cX12_isReading 29 = .ok (.ireturn, 1) := by decide +kernel
def mX12_isReading_24 (x0 : Int32) : Option (Int32) := some 1
def mX12_isReading (x0 : Int32) : Option (Int32) := if x0 = 43 then mX12_isReading_24 x0 else if x0 = 45 then mX12_isReading_24 x0 else if x0 = 47 then mX12_isReading_24 x0 else if x0 = 41 then mX12_isReading_24 x0 else some 0
set_option maxRecDepth 100000 in
set_option maxHeartbeats 4000000 in
theorem tX12_isReading_24 {l : Launch} {K : a_KT} {g : a_GT} {IA : iT} (hko : a_kok K) {I : iT} {J : jT} {F : fT} (x0 : Int32) (hF : FOK F) (q : Int32) (hm : mX12_isReading_24 x0 = some q) : E l K g 0 0 0 yX12_isReading cX12_isReading 1 (some .boolean) 24 [.int x0] [] (hg IA I J F) (fun r2 h2 => r2 = some (.int q) ∧ h2 = hg IA I J F) := by
  unfold mX12_isReading_24 at hm
  refine e_iconst (v := 1) (by decide) dX12_isReading_24 ?_
  refine e_goto 29 dX12_isReading_25 (by decide) ?_
  refine e_zret dX12_isReading_29 rfl rfl ?_
  have hm := some_in hm
  subst hm
  exact ⟨rfl, rfl⟩
set_option maxRecDepth 100000 in
set_option maxHeartbeats 4000000 in
theorem tX12_isReading {l : Launch} {K : a_KT} {g : a_GT} {IA : iT} (hko : a_kok K) (I : iT) (J : jT) (F : fT) (hF : FOK F) (x0 : Int32) (q : Int32) (hm : mX12_isReading x0 = some q) : C l K g 0 0 0 yX12_isReading cX12_isReading 1 (some .boolean) [.int x0] (hg IA I J F) (fun r2 h2 => r2 = some (.int q) ∧ h2 = hg IA I J F) := by
  unfold mX12_isReading at hm
  refine c_of [.int x0] (by decide) (Nat.le_of_ble_eq_true rfl) rfl ?_
  refine e_iload_n (i := 0) rfl dX12_isReading_0 ?_
  refine e_bipush (v := 43) (by decide) dX12_isReading_1 ?_
  refine e_icmp_eq 24 dX12_isReading_3 (by decide) (fun c_3 => ?_) (fun c_3 => ?_)
  · have hm := it_p c_3 hm
    refine e_weak [.int x0] ⟨rfl, trivial⟩ ?_
    exact tX12_isReading_24 hko x0 hF _ hm
  · have hm := it_n c_3 hm
    refine e_iload_n (i := 0) rfl dX12_isReading_6 ?_
    refine e_bipush (v := 45) (by decide) dX12_isReading_7 ?_
    refine e_icmp_eq 24 dX12_isReading_9 (by decide) (fun c_9 => ?_) (fun c_9 => ?_)
    · have hm := it_p c_9 hm
      refine e_weak [.int x0] ⟨rfl, trivial⟩ ?_
      exact tX12_isReading_24 hko x0 hF _ hm
    · have hm := it_n c_9 hm
      refine e_iload_n (i := 0) rfl dX12_isReading_12 ?_
      refine e_bipush (v := 47) (by decide) dX12_isReading_13 ?_
      refine e_icmp_eq 24 dX12_isReading_15 (by decide) (fun c_15 => ?_) (fun c_15 => ?_)
      · have hm := it_p c_15 hm
        refine e_weak [.int x0] ⟨rfl, trivial⟩ ?_
        exact tX12_isReading_24 hko x0 hF _ hm
      · have hm := it_n c_15 hm
        refine e_iload_n (i := 0) rfl dX12_isReading_18 ?_
        refine e_bipush (v := 41) (by decide) dX12_isReading_19 ?_
        refine e_icmp_ne 28 dX12_isReading_21 (by decide) (fun c_21 => ?_) (fun c_21 => ?_)
        · have hm := it_n c_21 hm
          refine e_iconst (v := 0) (by decide) dX12_isReading_28 ?_
          refine e_zret dX12_isReading_29 rfl rfl ?_
          have hm := some_in hm
          subst hm
          exact ⟨rfl, rfl⟩
        · have hm := it_p c_21 hm
          refine e_weak [.int x0] ⟨rfl, trivial⟩ ?_
          exact tX12_isReading_24 hko x0 hF _ hm
theorem dX12_typeText_0 : decode cX12_typeText 0 = .ok (.aload_n 0, 1) := by decide +kernel
theorem dX12_typeText_1 : decode cX12_typeText 1 = .ok (.invokevirtual 236, 3) := by decide +kernel
theorem dX12_typeText_4 : decode cX12_typeText 4 = .ok (.aload_n 0, 1) := by decide +kernel
theorem dX12_typeText_5 : decode cX12_typeText 5 = .ok (.getfield 210, 3) := by decide +kernel
theorem dX12_typeText_8 : decode cX12_typeText 8 = .ok (.iconst 2, 1) := by decide +kernel
theorem dX12_typeText_9 : decode cX12_typeText 9 = .ok (.if_icmp .eq 13, 3) := by decide +kernel
theorem dX12_typeText_12 : decode cX12_typeText 12 = .ok (.aload_n 0, 1) := by decide +kernel
theorem dX12_typeText_13 : decode cX12_typeText 13 = .ok (.iconst 1, 1) := by decide +kernel
theorem dX12_typeText_14 : decode cX12_typeText 14 = .ok (.aload_n 0, 1) := by decide +kernel
theorem dX12_typeText_15 : decode cX12_typeText 15 = .ok (.getfield 207, 3) := by decide +kernel
theorem dX12_typeText_18 : decode cX12_typeText 18 = .ok (.invokevirtual 232, 3) := by decide +kernel
theorem dX12_typeText_21 : decode cX12_typeText 21 = .ok (.ireturn, 1) := by decide +kernel
theorem dX12_typeText_22 : decode cX12_typeText 22 = .ok (.aload_n 0, 1) := by decide +kernel
theorem dX12_typeText_23 : decode cX12_typeText 23 = .ok (.aload_n 0, 1) := by decide +kernel
theorem dX12_typeText_24 : decode cX12_typeText 24 = .ok (.getfield 162, 3) := by decide +kernel
theorem dX12_typeText_27 : decode cX12_typeText 27 = .ok (.invokevirtual 271, 3) := by decide +kernel
theorem dX12_typeText_30 : decode cX12_typeText 30 = .ok (.iconst (-1), 1) := by decide +kernel
theorem dX12_typeText_31 : decode cX12_typeText 31 = .ok (.if_icmp .eq 13, 3) := by decide +kernel
theorem dX12_typeText_34 : decode cX12_typeText 34 = .ok (.aload_n 0, 1) := by decide +kernel
theorem dX12_typeText_35 : decode cX12_typeText 35 = .ok (.iconst 2, 1) := by decide +kernel
theorem dX12_typeText_36 : decode cX12_typeText 36 = .ok (.aload_n 0, 1) := by decide +kernel
theorem dX12_typeText_37 : decode cX12_typeText 37 = .ok (.getfield 207, 3) := by decide +kernel
theorem dX12_typeText_40 : decode cX12_typeText 40 = .ok (.invokevirtual 232, 3) := by decide +kernel
theorem dX12_typeText_43 : decode cX12_typeText 43 = .ok (.ireturn, 1) := by decide +kernel
theorem dX12_typeText_44 : decode cX12_typeText 44 = .ok (.aload_n 0, 1) := by decide +kernel
theorem dX12_typeText_45 : decode cX12_typeText 45 = .ok (.getfield 66, 3) := by decide +kernel
theorem dX12_typeText_48 : decode cX12_typeText 48 = .ok (.aload_n 0, 1) := by decide +kernel
theorem dX12_typeText_49 : decode cX12_typeText 49 = .ok (.getfield 251, 3) := by decide +kernel
theorem dX12_typeText_52 : decode cX12_typeText 52 = .ok (.iaload, 1) := by decide +kernel
theorem dX12_typeText_53 : decode cX12_typeText 53 = .ok (.bipush 12, 2) := by decide +kernel
theorem dX12_typeText_55 : decode cX12_typeText 55 = .ok (.if_icmp .ne 13, 3) := by decide +kernel
theorem dX12_typeText_58 : decode cX12_typeText 58 = .ok (.aload_n 0, 1) := by decide +kernel
theorem dX12_typeText_59 : decode cX12_typeText 59 = .ok (.iconst 5, 1) := by decide +kernel
theorem dX12_typeText_60 : decode cX12_typeText 60 = .ok (.aload_n 0, 1) := by decide +kernel
theorem dX12_typeText_61 : decode cX12_typeText 61 = .ok (.getfield 207, 3) := by decide +kernel
theorem dX12_typeText_64 : decode cX12_typeText 64 = .ok (.invokevirtual 232, 3) := by decide +kernel
theorem dX12_typeText_67 : decode cX12_typeText 67 = .ok (.ireturn, 1) := by decide +kernel
theorem dX12_typeText_68 : decode cX12_typeText 68 = .ok (.aload_n 0, 1) := by decide +kernel
theorem dX12_typeText_69 : decode cX12_typeText 69 = .ok (.getfield 162, 3) := by decide +kernel
theorem dX12_typeText_72 : decode cX12_typeText 72 = .ok (.lstore_n 1, 1) := by decide +kernel
theorem dX12_typeText_73 : decode cX12_typeText 73 = .ok (.aload_n 0, 1) := by decide +kernel
theorem dX12_typeText_74 : decode cX12_typeText 74 = .ok (.invokevirtual 236, 3) := by decide +kernel
theorem dX12_typeText_77 : decode cX12_typeText 77 = .ok (.aload_n 0, 1) := by decide +kernel
theorem dX12_typeText_78 : decode cX12_typeText 78 = .ok (.bipush 61, 2) := by decide +kernel
theorem dX12_typeText_80 : decode cX12_typeText 80 = .ok (.invokevirtual 278, 3) := by decide +kernel
theorem dX12_typeText_83 : decode cX12_typeText 83 = .ok (.ifCond .eq 10, 3) := by decide +kernel
theorem dX12_typeText_86 : decode cX12_typeText 86 = .ok (.aload_n 0, 1) := by decide +kernel
theorem dX12_typeText_87 : decode cX12_typeText 87 = .ok (.invokevirtual 393, 3) := by decide +kernel
theorem dX12_typeText_90 : decode cX12_typeText 90 = .ok (.ifCond .ne 5, 3) := by decide +kernel
theorem dX12_typeText_93 : decode cX12_typeText 93 = .ok (.iconst 0, 1) := by decide +kernel
theorem dX12_typeText_94 : decode cX12_typeText 94 = .ok (.ireturn, 1) := by decide +kernel
theorem dX12_typeText_95 : decode cX12_typeText 95 = .ok (.bipush 12, 2) := by decide +kernel
theorem dX12_typeText_97 : decode cX12_typeText 97 = .ok (.aload_n 0, 1) := by decide +kernel
theorem dX12_typeText_98 : decode cX12_typeText 98 = .ok (.getfield 251, 3) := by decide +kernel
theorem dX12_typeText_101 : decode cX12_typeText 101 = .ok (.imul, 1) := by decide +kernel
theorem dX12_typeText_102 : decode cX12_typeText 102 = .ok (.aload_n 0, 1) := by decide +kernel
theorem dX12_typeText_103 : decode cX12_typeText 103 = .ok (.getfield 66, 3) := by decide +kernel
theorem dX12_typeText_106 : decode cX12_typeText 106 = .ok (.aload_n 0, 1) := by decide +kernel
theorem dX12_typeText_107 : decode cX12_typeText 107 = .ok (.getfield 251, 3) := by decide +kernel
theorem dX12_typeText_110 : decode cX12_typeText 110 = .ok (.iaload, 1) := by decide +kernel
theorem dX12_typeText_111 : decode cX12_typeText 111 = .ok (.iadd, 1) := by decide +kernel
theorem dX12_typeText_112 : decode cX12_typeText 112 = .ok (.istore_n 3, 1) := by decide +kernel
theorem dX12_typeText_113 : decode cX12_typeText 113 = .ok (.aload_n 0, 1) := by decide +kernel
theorem dX12_typeText_114 : decode cX12_typeText 114 = .ok (.getfield 33, 3) := by decide +kernel
theorem dX12_typeText_117 : decode cX12_typeText 117 = .ok (.iload_n 3, 1) := by decide +kernel
theorem dX12_typeText_118 : decode cX12_typeText 118 = .ok (.lload_n 1, 1) := by decide +kernel
theorem dX12_typeText_119 : decode cX12_typeText 119 = .ok (.lastore, 1) := by decide +kernel
theorem dX12_typeText_120 : decode cX12_typeText 120 = .ok (.aload_n 0, 1) := by decide +kernel
theorem dX12_typeText_121 : decode cX12_typeText 121 = .ok (.getfield 45, 3) := by decide +kernel
theorem dX12_typeText_124 : decode cX12_typeText 124 = .ok (.iload_n 3, 1) := by decide +kernel
theorem dX12_typeText_125 : decode cX12_typeText 125 = .ok (.aload_n 0, 1) := by decide +kernel
theorem dX12_typeText_126 : decode cX12_typeText 126 = .ok (.getfield 268, 3) := by decide +kernel
theorem dX12_typeText_129 : decode cX12_typeText 129 = .ok (.iastore, 1) := by decide +kernel
theorem dX12_typeText_130 : decode cX12_typeText 130 = .ok (.aload_n 0, 1) := by decide +kernel
theorem dX12_typeText_131 : decode cX12_typeText 131 = .ok (.getfield 66, 3) := by decide +kernel
theorem dX12_typeText_134 : decode cX12_typeText 134 = .ok (.aload_n 0, 1) := by decide +kernel
theorem dX12_typeText_135 : decode cX12_typeText 135 = .ok (.getfield 251, 3) := by decide +kernel
theorem dX12_typeText_138 : decode cX12_typeText 138 = .ok (.dup2, 1) := by decide +kernel
theorem dX12_typeText_139 : decode cX12_typeText 139 = .ok (.iaload, 1) := by decide +kernel
theorem dX12_typeText_140 : decode cX12_typeText 140 = .ok (.iconst 1, 1) := by decide +kernel
theorem dX12_typeText_141 : decode cX12_typeText 141 = .ok (.iadd, 1) := by decide +kernel
theorem dX12_typeText_142 : decode cX12_typeText 142 = .ok (.iastore, 1) := by decide +kernel
theorem dX12_typeText_143 : decode cX12_typeText 143 = .ok (.aload_n 0, 1) := by decide +kernel
theorem dX12_typeText_144 : decode cX12_typeText 144 = .ok (.bipush 59, 2) := by decide +kernel
theorem dX12_typeText_146 : decode cX12_typeText 146 = .ok (.invokevirtual 278, 3) := by decide +kernel
theorem dX12_typeText_149 : decode cX12_typeText 149 = .ok (.ireturn, 1) := by decide +kernel
def mX12_typeText (I : iT) (J : jT) : Option (Int32 × iT × jT) := (mX12_look0 I J).bind fun q1 => if (q1.1 186 3) = 2 then (mX12_findType q1.1 q1.2 (q1.2 186 6)).bind fun q2 => if q2 = ((-1)) then if inb (q1.1 186 32) 2 then if (q1.1 204 (q1.1 186 32).toNatClampNeg) = 12 then (mX12_bad q1.1 5 (q1.1 186 4)).bind fun q7 => if q7.1 = 0 ∨ q7.1 = 1 then some (q7.1, q7.2, q1.2) else none else (mX12_look0 q1.1 q1.2).bind fun q3 => (mX12_need q3.1 q3.2 61).bind fun q4 => if q4.1 = 0 then some (0, q4.2.1, q4.2.2) else (mX12_wholeType q4.2.1 q4.2.2).bind fun q5 => if q5.1 = 0 then some (0, q5.2.1, q5.2.2) else if inb (q5.2.1 186 32) 2 then if inb ((12 * (q5.2.1 186 32)) + (q5.2.1 204 (q5.2.1 186 32).toNatClampNeg)) 24 then if inb ((12 * (q5.2.1 186 32)) + (q5.2.1 204 (q5.2.1 186 32).toNatClampNeg)) 24 then if inb ((a_u2 q5.2.1 197 ((12 * (q5.2.1 186 32)) + (q5.2.1 204 (q5.2.1 186 32).toNatClampNeg)).toNatClampNeg (q5.2.1 186 36)) 186 32) 2 then if inb ((a_u2 q5.2.1 197 ((12 * (q5.2.1 186 32)) + (q5.2.1 204 (q5.2.1 186 32).toNatClampNeg)).toNatClampNeg (q5.2.1 186 36)) 186 32) 2 then (mX12_need (a_u2 (a_u2 q5.2.1 197 ((12 * (q5.2.1 186 32)) + (q5.2.1 204 (q5.2.1 186 32).toNatClampNeg)).toNatClampNeg (q5.2.1 186 36)) 204 ((a_u2 q5.2.1 197 ((12 * (q5.2.1 186 32)) + (q5.2.1 204 (q5.2.1 186 32).toNatClampNeg)).toNatClampNeg (q5.2.1 186 36)) 186 32).toNatClampNeg (((a_u2 q5.2.1 197 ((12 * (q5.2.1 186 32)) + (q5.2.1 204 (q5.2.1 186 32).toNatClampNeg)).toNatClampNeg (q5.2.1 186 36)) 204 ((a_u2 q5.2.1 197 ((12 * (q5.2.1 186 32)) + (q5.2.1 204 (q5.2.1 186 32).toNatClampNeg)).toNatClampNeg (q5.2.1 186 36)) 186 32).toNatClampNeg) + 1)) (a_u2 q5.2.2 193 ((12 * (q5.2.1 186 32)) + (q5.2.1 204 (q5.2.1 186 32).toNatClampNeg)).toNatClampNeg (q1.2 186 6)) 59).bind fun q6 => if q6.1 = 0 ∨ q6.1 = 1 then some (q6.1, q6.2.1, q6.2.2) else none else none else none else none else none else none else none else (mX12_bad q1.1 2 (q1.1 186 4)).bind fun q8 => if q8.1 = 0 ∨ q8.1 = 1 then some (q8.1, q8.2, q1.2) else none else (mX12_bad q1.1 1 (q1.1 186 4)).bind fun q9 => if q9.1 = 0 ∨ q9.1 = 1 then some (q9.1, q9.2, q1.2) else none
set_option maxRecDepth 100000 in
set_option maxHeartbeats 4000000 in
theorem tX12_typeText {l : Launch} {K : a_KT} {g : a_GT} {IA : iT} (hko : a_kok K) (I : iT) (J : jT) (F : fT) (hF : FOK F) (q : Int32 × iT × jT) (hm : mX12_typeText I J = some q) : C l K g 903 0 0 yX12_typeText cX12_typeText 4 (some .boolean) [.ref 186] (hg IA I J F) (fun r2 h2 => r2 = some (.int q.1) ∧ h2 = hg IA q.2.1 q.2.2 F) := by
  unfold mX12_typeText at hm
  refine c_of [.ref 186, .null, .null, .null] (by decide) (Nat.le_of_ble_eq_true rfl) rfl ?_
  refine e_aload_n (i := 0) rfl dX12_typeText_0 ?_
  obtain ⟨q1, eq1, hm⟩ := ob_some hm
  refine e_cV0 hko dX12_typeText_1 ml_RX12_236 iz_186 (by decide) rfl (by omega) (Nat.le_of_ble_eq_true rfl) (tX12_look0 hko I J F hF _ eq1) ?_
  rintro _ _ ⟨rfl, rfl⟩
  refine e_aload_n (i := 0) rfl dX12_typeText_4 ?_
  refine l_getI 12 3 dX12_typeText_5 fl_RX12_210 rfl iz_186 (by decide) ?_
  refine e_iconst (v := 2) (by decide) dX12_typeText_8 ?_
  refine e_icmp_eq 22 dX12_typeText_9 (by decide) (fun c_9 => ?_) (fun c_9 => ?_)
  · have hm := it_p c_9 hm
    refine e_aload_n (i := 0) rfl dX12_typeText_22 ?_
    refine e_aload_n (i := 0) rfl dX12_typeText_23 ?_
    refine q_getJ 12 6 dX12_typeText_24 fl_RX12_162 rfl iz_186 ?_
    obtain ⟨q2, eq2, hm⟩ := ob_some hm
    refine e_cV1 hko dX12_typeText_27 ml_RX12_271 iz_186 (by decide) rfl (by omega) (Nat.le_of_ble_eq_true rfl) (tX12_findType hko q1.1 q1.2 F hF (q1.2 186 6) _ eq2) ?_
    rintro _ _ ⟨rfl, rfl⟩
    refine e_iconst (v := (-1)) (by decide) dX12_typeText_30 ?_
    refine e_icmp_eq 44 dX12_typeText_31 (by decide) (fun c_31 => ?_) (fun c_31 => ?_)
    · have hm := it_p c_31 hm
      refine e_aload_n (i := 0) rfl dX12_typeText_44 ?_
      refine q_getF 12 29 204 dX12_typeText_45 fl_RX12_66 rfl iz_186 (fr_186_29 hF) ?_
      refine e_aload_n (i := 0) rfl dX12_typeText_48 ?_
      refine l_getI 12 32 dX12_typeText_49 fl_RX12_251 rfl iz_186 (by decide) ?_
      obtain ⟨c_52, hm⟩ := gd_s hm
      refine l_iald dX12_typeText_52 iz_204 (inb_in ln_204 c_52) (by decide) ?_
      refine e_bipush (v := 12) (by decide) dX12_typeText_53 ?_
      refine e_icmp_ne 68 dX12_typeText_55 (by decide) (fun c_55 => ?_) (fun c_55 => ?_)
      · have hm := it_n c_55 hm
        refine e_aload_n (i := 0) rfl dX12_typeText_68 ?_
        refine q_getJ 12 6 dX12_typeText_69 fl_RX12_162 rfl iz_186 ?_
        refine e_lstore_n (i := 1) (by decide) dX12_typeText_72 ?_
        refine e_aload_n (i := 0) rfl dX12_typeText_73 ?_
        obtain ⟨q3, eq3, hm⟩ := ob_some hm
        refine e_cV0 hko dX12_typeText_74 ml_RX12_236 iz_186 (by decide) rfl (by omega) (Nat.le_of_ble_eq_true rfl) (tX12_look0 hko q1.1 q1.2 F hF _ eq3) ?_
        rintro _ _ ⟨rfl, rfl⟩
        refine e_aload_n (i := 0) rfl dX12_typeText_77 ?_
        refine e_bipush (v := 61) (by decide) dX12_typeText_78 ?_
        obtain ⟨q4, eq4, hm⟩ := ob_some hm
        refine e_cV1 hko dX12_typeText_80 ml_RX12_278 iz_186 (by decide) rfl (by omega) (Nat.le_of_ble_eq_true rfl) (tX12_need hko q3.1 q3.2 F hF 61 _ eq4) ?_
        rintro _ _ ⟨rfl, rfl⟩
        refine e_if_eq 93 dX12_typeText_83 (by decide) (fun c_83 => ?_) (fun c_83 => ?_)
        · have hm := it_p c_83 hm
          refine e_iconst (v := 0) (by decide) dX12_typeText_93 ?_
          refine e_zret dX12_typeText_94 rfl rfl ?_
          have hm := some_in hm
          subst hm
          exact ⟨rfl, rfl⟩
        · have hm := it_n c_83 hm
          refine e_aload_n (i := 0) rfl dX12_typeText_86 ?_
          obtain ⟨q5, eq5, hm⟩ := ob_some hm
          refine e_cV0 hko dX12_typeText_87 ml_RX12_393 iz_186 (by decide) rfl (by omega) (Nat.le_of_ble_eq_true rfl) (tX12_wholeType hko q4.2.1 q4.2.2 F hF _ eq5) ?_
          rintro _ _ ⟨rfl, rfl⟩
          refine e_if_ne 95 dX12_typeText_90 (by decide) (fun c_90 => ?_) (fun c_90 => ?_)
          · have hm := it_n c_90 hm
            refine e_bipush (v := 12) (by decide) dX12_typeText_95 ?_
            refine e_aload_n (i := 0) rfl dX12_typeText_97 ?_
            refine l_getI 12 32 dX12_typeText_98 fl_RX12_251 rfl iz_186 (by decide) ?_
            refine e_imul dX12_typeText_101 ?_
            refine e_aload_n (i := 0) rfl dX12_typeText_102 ?_
            refine q_getF 12 29 204 dX12_typeText_103 fl_RX12_66 rfl iz_186 (fr_186_29 hF) ?_
            refine e_aload_n (i := 0) rfl dX12_typeText_106 ?_
            refine l_getI 12 32 dX12_typeText_107 fl_RX12_251 rfl iz_186 (by decide) ?_
            obtain ⟨c_110, hm⟩ := gd_s hm
            refine l_iald dX12_typeText_110 iz_204 (inb_in ln_204 c_110) (by decide) ?_
            refine e_iadd dX12_typeText_111 ?_
            refine q_istore_n (i := 3) (by decide) rfl dX12_typeText_112 ?_
            refine e_aload_n (i := 0) rfl dX12_typeText_113 ?_
            refine q_getF 12 18 193 dX12_typeText_114 fl_RX12_33 rfl iz_186 (fr_186_18 hF) ?_
            refine e_iload_n (i := 3) rfl dX12_typeText_117 ?_
            refine e_lload_n (i := 1) rfl dX12_typeText_118 ?_
            obtain ⟨c_119, hm⟩ := gd_s hm
            refine q_last dX12_typeText_119 iz_193 (inb_in ln_193 c_119) ?_
            refine e_aload_n (i := 0) rfl dX12_typeText_120 ?_
            refine q_getF 12 22 197 dX12_typeText_121 fl_RX12_45 rfl iz_186 (fr_186_22 hF) ?_
            refine e_iload_n (i := 3) rfl dX12_typeText_124 ?_
            refine e_aload_n (i := 0) rfl dX12_typeText_125 ?_
            refine l_getI 12 36 dX12_typeText_126 fl_RX12_268 rfl iz_186 (by decide) ?_
            obtain ⟨c_129, hm⟩ := gd_s hm
            refine l_iast dX12_typeText_129 iz_197 (inb_in ln_197 c_129) (by decide) ?_
            refine e_aload_n (i := 0) rfl dX12_typeText_130 ?_
            refine q_getF 12 29 204 dX12_typeText_131 fl_RX12_66 rfl iz_186 (fr_186_29 hF) ?_
            refine e_aload_n (i := 0) rfl dX12_typeText_134 ?_
            refine l_getI 12 32 dX12_typeText_135 fl_RX12_251 rfl iz_186 (by decide) ?_
            refine e_dup2 rfl rfl dX12_typeText_138 ?_
            obtain ⟨c_139, hm⟩ := gd_s hm
            refine l_iald dX12_typeText_139 iz_204 (inb_in ln_204 c_139) (by decide) ?_
            refine e_iconst (v := 1) (by decide) dX12_typeText_140 ?_
            refine e_iadd dX12_typeText_141 ?_
            obtain ⟨c_142, hm⟩ := gd_s hm
            refine l_iast dX12_typeText_142 iz_204 (inb_in ln_204 c_142) (by decide) ?_
            refine e_aload_n (i := 0) rfl dX12_typeText_143 ?_
            refine e_bipush (v := 59) (by decide) dX12_typeText_144 ?_
            obtain ⟨q6, eq6, hm⟩ := ob_some hm
            refine e_cV1 hko dX12_typeText_146 ml_RX12_278 iz_186 (by decide) rfl (by omega) (Nat.le_of_ble_eq_true rfl) (tX12_need hko (a_u2 (a_u2 q5.2.1 197 ((12 * (q5.2.1 186 32)) + (q5.2.1 204 (q5.2.1 186 32).toNatClampNeg)).toNatClampNeg (q5.2.1 186 36)) 204 ((a_u2 q5.2.1 197 ((12 * (q5.2.1 186 32)) + (q5.2.1 204 (q5.2.1 186 32).toNatClampNeg)).toNatClampNeg (q5.2.1 186 36)) 186 32).toNatClampNeg (((a_u2 q5.2.1 197 ((12 * (q5.2.1 186 32)) + (q5.2.1 204 (q5.2.1 186 32).toNatClampNeg)).toNatClampNeg (q5.2.1 186 36)) 204 ((a_u2 q5.2.1 197 ((12 * (q5.2.1 186 32)) + (q5.2.1 204 (q5.2.1 186 32).toNatClampNeg)).toNatClampNeg (q5.2.1 186 36)) 186 32).toNatClampNeg) + 1)) (a_u2 q5.2.2 193 ((12 * (q5.2.1 186 32)) + (q5.2.1 204 (q5.2.1 186 32).toNatClampNeg)).toNatClampNeg (q1.2 186 6)) F hF 59 _ eq6) ?_
            rintro _ _ ⟨rfl, rfl⟩
            obtain ⟨c_149, hm⟩ := gd_s hm
            refine e_zret dX12_typeText_149 rfl (zz_nar c_149) ?_
            have hm := some_in hm
            subst hm
            exact ⟨rfl, rfl⟩
          · have hm := it_p c_90 hm
            refine e_iconst (v := 0) (by decide) dX12_typeText_93 ?_
            refine e_zret dX12_typeText_94 rfl rfl ?_
            have hm := some_in hm
            subst hm
            exact ⟨rfl, rfl⟩
      · have hm := it_p c_55 hm
        refine e_aload_n (i := 0) rfl dX12_typeText_58 ?_
        refine e_iconst (v := 5) (by decide) dX12_typeText_59 ?_
        refine e_aload_n (i := 0) rfl dX12_typeText_60 ?_
        refine l_getI 12 4 dX12_typeText_61 fl_RX12_207 rfl iz_186 (by decide) ?_
        obtain ⟨q7, eq7, hm⟩ := ob_some hm
        refine e_cV2 hko dX12_typeText_64 ml_RX12_232 iz_186 (by decide) rfl (by omega) (Nat.le_of_ble_eq_true rfl) (tX12_bad hko q1.1 q1.2 F hF 5 (q1.1 186 4) _ eq7) ?_
        rintro _ _ ⟨rfl, rfl⟩
        obtain ⟨c_67, hm⟩ := gd_s hm
        refine e_zret dX12_typeText_67 rfl (zz_nar c_67) ?_
        have hm := some_in hm
        subst hm
        exact ⟨rfl, rfl⟩
    · have hm := it_n c_31 hm
      refine e_aload_n (i := 0) rfl dX12_typeText_34 ?_
      refine e_iconst (v := 2) (by decide) dX12_typeText_35 ?_
      refine e_aload_n (i := 0) rfl dX12_typeText_36 ?_
      refine l_getI 12 4 dX12_typeText_37 fl_RX12_207 rfl iz_186 (by decide) ?_
      obtain ⟨q8, eq8, hm⟩ := ob_some hm
      refine e_cV2 hko dX12_typeText_40 ml_RX12_232 iz_186 (by decide) rfl (by omega) (Nat.le_of_ble_eq_true rfl) (tX12_bad hko q1.1 q1.2 F hF 2 (q1.1 186 4) _ eq8) ?_
      rintro _ _ ⟨rfl, rfl⟩
      obtain ⟨c_43, hm⟩ := gd_s hm
      refine e_zret dX12_typeText_43 rfl (zz_nar c_43) ?_
      have hm := some_in hm
      subst hm
      exact ⟨rfl, rfl⟩
  · have hm := it_n c_9 hm
    refine e_aload_n (i := 0) rfl dX12_typeText_12 ?_
    refine e_iconst (v := 1) (by decide) dX12_typeText_13 ?_
    refine e_aload_n (i := 0) rfl dX12_typeText_14 ?_
    refine l_getI 12 4 dX12_typeText_15 fl_RX12_207 rfl iz_186 (by decide) ?_
    obtain ⟨q9, eq9, hm⟩ := ob_some hm
    refine e_cV2 hko dX12_typeText_18 ml_RX12_232 iz_186 (by decide) rfl (by omega) (Nat.le_of_ble_eq_true rfl) (tX12_bad hko q1.1 q1.2 F hF 1 (q1.1 186 4) _ eq9) ?_
    rintro _ _ ⟨rfl, rfl⟩
    obtain ⟨c_21, hm⟩ := gd_s hm
    refine e_zret dX12_typeText_21 rfl (zz_nar c_21) ?_
    have hm := some_in hm
    subst hm
    exact ⟨rfl, rfl⟩
theorem dX12_text_0 : decode cX12_text 0 = .ok (.aload_n 0, 1) := by decide +kernel
theorem dX12_text_1 : decode cX12_text 1 = .ok (.getfield 210, 3) := by decide +kernel
theorem dX12_text_4 : decode cX12_text 4 = .ok (.bipush 100, 2) := by decide +kernel
theorem dX12_text_6 : decode cX12_text 6 = .ok (.if_icmp .ne 12, 3) := by decide +kernel
theorem dX12_text_9 : decode cX12_text 9 = .ok (.aload_n 0, 1) := by decide +kernel
theorem dX12_text_10 : decode cX12_text 10 = .ok (.invokevirtual 399, 3) := by decide +kernel
theorem dX12_text_13 : decode cX12_text 13 = .ok (.ifCond .ne (-13), 3) := by decide +kernel
theorem dX12_text_16 : decode cX12_text 16 = .ok (.iconst 0, 1) := by decide +kernel
theorem dX12_text_17 : decode cX12_text 17 = .ok (.ireturn, 1) := by decide +kernel
theorem dX12_text_18 : decode cX12_text 18 = .ok (.aload_n 0, 1) := by decide +kernel
theorem dX12_text_19 : decode cX12_text 19 = .ok (.invokevirtual 402, 3) := by decide +kernel
theorem dX12_text_22 : decode cX12_text 22 = .ok (.ifCond .ne 5, 3) := by decide +kernel
theorem dX12_text_25 : decode cX12_text 25 = .ok (.iconst 0, 1) := by decide +kernel
theorem dX12_text_26 : decode cX12_text 26 = .ok (.ireturn, 1) := by decide +kernel
theorem dX12_text_27 : decode cX12_text 27 = .ok (.aload_n 0, 1) := by decide +kernel
theorem dX12_text_28 : decode cX12_text 28 = .ok (.getfield 210, 3) := by decide +kernel
theorem dX12_text_31 : decode cX12_text 31 = .ok (.ifCond .ne (-13), 3) := by decide +kernel
theorem dX12_text_34 : decode cX12_text 34 = .ok (.bipush 12, 2) := by decide +kernel
theorem dX12_text_36 : decode cX12_text 36 = .ok (.aload_n 0, 1) := by decide +kernel
theorem dX12_text_37 : decode cX12_text 37 = .ok (.getfield 251, 3) := by decide +kernel
theorem dX12_text_40 : decode cX12_text 40 = .ok (.imul, 1) := by decide +kernel
theorem dX12_text_41 : decode cX12_text 41 = .ok (.aload_n 0, 1) := by decide +kernel
theorem dX12_text_42 : decode cX12_text 42 = .ok (.getfield 69, 3) := by decide +kernel
theorem dX12_text_45 : decode cX12_text 45 = .ok (.aload_n 0, 1) := by decide +kernel
theorem dX12_text_46 : decode cX12_text 46 = .ok (.getfield 251, 3) := by decide +kernel
theorem dX12_text_49 : decode cX12_text 49 = .ok (.iaload, 1) := by decide +kernel
theorem dX12_text_50 : decode cX12_text 50 = .ok (.iadd, 1) := by decide +kernel
theorem dX12_text_51 : decode cX12_text 51 = .ok (.iconst 1, 1) := by decide +kernel
theorem dX12_text_52 : decode cX12_text 52 = .ok (.isub, 1) := by decide +kernel
theorem dX12_text_53 : decode cX12_text 53 = .ok (.istore_n 1, 1) := by decide +kernel
theorem dX12_text_54 : decode cX12_text 54 = .ok (.aload_n 0, 1) := by decide +kernel
theorem dX12_text_55 : decode cX12_text 55 = .ok (.getfield 48, 3) := by decide +kernel
theorem dX12_text_58 : decode cX12_text 58 = .ok (.iload_n 1, 1) := by decide +kernel
theorem dX12_text_59 : decode cX12_text 59 = .ok (.iaload, 1) := by decide +kernel
theorem dX12_text_60 : decode cX12_text 60 = .ok (.ifCond .eq 18, 3) := by decide +kernel
theorem dX12_text_63 : decode cX12_text 63 = .ok (.aload_n 0, 1) := by decide +kernel
theorem dX12_text_64 : decode cX12_text 64 = .ok (.bipush 7, 2) := by decide +kernel
theorem dX12_text_66 : decode cX12_text 66 = .ok (.aload_n 0, 1) := by decide +kernel
theorem dX12_text_67 : decode cX12_text 67 = .ok (.getfield 63, 3) := by decide +kernel
theorem dX12_text_70 : decode cX12_text 70 = .ok (.iload_n 1, 1) := by decide +kernel
theorem dX12_text_71 : decode cX12_text 71 = .ok (.iaload, 1) := by decide +kernel
theorem dX12_text_72 : decode cX12_text 72 = .ok (.invokevirtual 232, 3) := by decide +kernel
theorem dX12_text_75 : decode cX12_text 75 = .ok (.ifCond .eq 7, 3) := by decide +kernel
theorem dX12_text_78 : decode cX12_text 78 = .ok (.iconst 1, 1) := by decide +kernel
theorem dX12_text_79 : decode cX12_text 79 = .ok (.goto 4, 3) := by decide +kernel
theorem dX12_text_82 : decode cX12_text 82 = .ok (.iconst 0, 1) := by decide +kernel
theorem dX12_text_83 : decode cX12_text 83 = .ok (.ireturn, 1) := by decide +kernel
def mX12_text_78 (I : iT) (J : jT) (x1 : Int32) : Option (Int32 × iT × jT) := some (1, I, J)
def mX12_text_18 : Nat → iT → jT → Option (Int32 × iT × jT)
  | 0, _, _ => none
  | n + 1, I, J => (mX12_defText I J).bind fun q1 => if q1.1 = 0 then some (0, q1.2.1, q1.2.2) else if (q1.2.1 186 3) = 0 then if inb (q1.2.1 186 32) 2 then if inb (((12 * (q1.2.1 186 32)) + (q1.2.1 205 (q1.2.1 186 32).toNatClampNeg)) - 1) 24 then if (q1.2.1 198 (((12 * (q1.2.1 186 32)) + (q1.2.1 205 (q1.2.1 186 32).toNatClampNeg)) - 1).toNatClampNeg) = 0 then mX12_text_78 q1.2.1 q1.2.2 (((12 * (q1.2.1 186 32)) + (q1.2.1 205 (q1.2.1 186 32).toNatClampNeg)) - 1) else if inb (((12 * (q1.2.1 186 32)) + (q1.2.1 205 (q1.2.1 186 32).toNatClampNeg)) - 1) 24 then (mX12_bad q1.2.1 7 (q1.2.1 203 (((12 * (q1.2.1 186 32)) + (q1.2.1 205 (q1.2.1 186 32).toNatClampNeg)) - 1).toNatClampNeg)).bind fun q2 => if q2.1 = 0 then some (0, q2.2, q1.2.2) else mX12_text_78 q2.2 q1.2.2 (((12 * (q1.2.1 186 32)) + (q1.2.1 205 (q1.2.1 186 32).toNatClampNeg)) - 1) else none else none else none else mX12_text_18 n q1.2.1 q1.2.2
def mX12_text_0 : Nat → iT → jT → Option (Int32 × iT × jT)
  | 0, _, _ => none
  | n + 1, I, J => if (I 186 3) = 100 then (mX12_typeText I J).bind fun q3 => if q3.1 = 0 then some (0, q3.2.1, q3.2.2) else mX12_text_0 n q3.2.1 q3.2.2 else mX12_text_18 LF I J
def mX12_text (I : iT) (J : jT) : Option (Int32 × iT × jT) := mX12_text_0 LF I J
set_option maxRecDepth 100000 in
set_option maxHeartbeats 4000000 in
theorem tX12_text_78 {l : Launch} {K : a_KT} {g : a_GT} {IA : iT} (hko : a_kok K) {F : fT} (I : iT) (J : jT) (x1 : Int32) (hF : FOK F) (q : Int32 × iT × jT) (hm : mX12_text_78 I J x1 = some q) : E l K g 910 0 0 yX12_text cX12_text 2 (some .boolean) 78 [.ref 186, .int x1] [] (hg IA I J F) (fun r2 h2 => r2 = some (.int q.1) ∧ h2 = hg IA q.2.1 q.2.2 F) := by
  unfold mX12_text_78 at hm
  refine e_iconst (v := 1) (by decide) dX12_text_78 ?_
  refine e_goto 83 dX12_text_79 (by decide) ?_
  refine e_zret dX12_text_83 rfl rfl ?_
  have hm := some_in hm
  subst hm
  exact ⟨rfl, rfl⟩
set_option maxRecDepth 100000 in
set_option maxHeartbeats 4000000 in
theorem tX12_text_18 {l : Launch} {K : a_KT} {g : a_GT} {IA : iT} (hko : a_kok K) {F : fT} : ∀ (n : Nat) (I : iT) (J : jT) (hF : FOK F) (q : Int32 × iT × jT), mX12_text_18 n I J = some q → E l K g 910 0 0 yX12_text cX12_text 2 (some .boolean) 18 [.ref 186, .null] [] (hg IA I J F) (fun r2 h2 => r2 = some (.int q.1) ∧ h2 = hg IA q.2.1 q.2.2 F) := by
  intro n
  induction n with
  | zero => intro I J hF q hm; cases hm
  | succ n ih =>
    intro I J hF q hm
    rw [mX12_text_18] at hm
    refine e_aload_n (i := 0) rfl dX12_text_18 ?_
    obtain ⟨q1, eq1, hm⟩ := ob_some hm
    refine e_cV0 hko dX12_text_19 ml_RX12_402 iz_186 (by decide) rfl (by omega) (Nat.le_of_ble_eq_true rfl) (tX12_defText hko I J F hF _ eq1) ?_
    rintro _ _ ⟨rfl, rfl⟩
    refine e_if_ne 27 dX12_text_22 (by decide) (fun c_22 => ?_) (fun c_22 => ?_)
    · have hm := it_n c_22 hm
      refine e_aload_n (i := 0) rfl dX12_text_27 ?_
      refine l_getI 12 3 dX12_text_28 fl_RX12_210 rfl iz_186 (by decide) ?_
      refine e_if_ne 18 dX12_text_31 (by decide) (fun c_31 => ?_) (fun c_31 => ?_)
      · have hm := it_n c_31 hm
        refine e_weak [.ref 186, .null] ⟨rfl, ⟨trivial, trivial⟩⟩ ?_
        exact ih q1.2.1 q1.2.2 hF _ hm
      · have hm := it_p c_31 hm
        refine e_bipush (v := 12) (by decide) dX12_text_34 ?_
        refine e_aload_n (i := 0) rfl dX12_text_36 ?_
        refine l_getI 12 32 dX12_text_37 fl_RX12_251 rfl iz_186 (by decide) ?_
        refine e_imul dX12_text_40 ?_
        refine e_aload_n (i := 0) rfl dX12_text_41 ?_
        refine q_getF 12 30 205 dX12_text_42 fl_RX12_69 rfl iz_186 (fr_186_30 hF) ?_
        refine e_aload_n (i := 0) rfl dX12_text_45 ?_
        refine l_getI 12 32 dX12_text_46 fl_RX12_251 rfl iz_186 (by decide) ?_
        obtain ⟨c_49, hm⟩ := gd_s hm
        refine l_iald dX12_text_49 iz_205 (inb_in ln_205 c_49) (by decide) ?_
        refine e_iadd dX12_text_50 ?_
        refine e_iconst (v := 1) (by decide) dX12_text_51 ?_
        refine e_isub dX12_text_52 ?_
        refine q_istore_n (i := 1) (by decide) rfl dX12_text_53 ?_
        refine e_aload_n (i := 0) rfl dX12_text_54 ?_
        refine q_getF 12 23 198 dX12_text_55 fl_RX12_48 rfl iz_186 (fr_186_23 hF) ?_
        refine e_iload_n (i := 1) rfl dX12_text_58 ?_
        obtain ⟨c_59, hm⟩ := gd_s hm
        refine l_iald dX12_text_59 iz_198 (inb_in ln_198 c_59) (by decide) ?_
        refine e_if_eq 78 dX12_text_60 (by decide) (fun c_60 => ?_) (fun c_60 => ?_)
        · have hm := it_p c_60 hm
          refine e_weak [.ref 186, .int (((12 * (q1.2.1 186 32)) + (q1.2.1 205 (q1.2.1 186 32).toNatClampNeg)) - 1)] ⟨rfl, ⟨rfl, trivial⟩⟩ ?_
          exact tX12_text_78 hko q1.2.1 q1.2.2 (((12 * (q1.2.1 186 32)) + (q1.2.1 205 (q1.2.1 186 32).toNatClampNeg)) - 1) hF _ hm
        · have hm := it_n c_60 hm
          refine e_aload_n (i := 0) rfl dX12_text_63 ?_
          refine e_bipush (v := 7) (by decide) dX12_text_64 ?_
          refine e_aload_n (i := 0) rfl dX12_text_66 ?_
          refine q_getF 12 28 203 dX12_text_67 fl_RX12_63 rfl iz_186 (fr_186_28 hF) ?_
          refine e_iload_n (i := 1) rfl dX12_text_70 ?_
          obtain ⟨c_71, hm⟩ := gd_s hm
          refine l_iald dX12_text_71 iz_203 (inb_in ln_203 c_71) (by decide) ?_
          obtain ⟨q2, eq2, hm⟩ := ob_some hm
          refine e_cV2 hko dX12_text_72 ml_RX12_232 iz_186 (by decide) rfl (by omega) (Nat.le_of_ble_eq_true rfl) (tX12_bad hko q1.2.1 q1.2.2 F hF 7 (q1.2.1 203 (((12 * (q1.2.1 186 32)) + (q1.2.1 205 (q1.2.1 186 32).toNatClampNeg)) - 1).toNatClampNeg) _ eq2) ?_
          rintro _ _ ⟨rfl, rfl⟩
          refine e_if_eq 82 dX12_text_75 (by decide) (fun c_75 => ?_) (fun c_75 => ?_)
          · have hm := it_p c_75 hm
            refine e_iconst (v := 0) (by decide) dX12_text_82 ?_
            refine e_zret dX12_text_83 rfl rfl ?_
            have hm := some_in hm
            subst hm
            exact ⟨rfl, rfl⟩
          · have hm := it_n c_75 hm
            refine e_weak [.ref 186, .int (((12 * (q1.2.1 186 32)) + (q1.2.1 205 (q1.2.1 186 32).toNatClampNeg)) - 1)] ⟨rfl, ⟨rfl, trivial⟩⟩ ?_
            exact tX12_text_78 hko q2.2 q1.2.2 (((12 * (q1.2.1 186 32)) + (q1.2.1 205 (q1.2.1 186 32).toNatClampNeg)) - 1) hF _ hm
    · have hm := it_p c_22 hm
      refine e_iconst (v := 0) (by decide) dX12_text_25 ?_
      refine e_zret dX12_text_26 rfl rfl ?_
      have hm := some_in hm
      subst hm
      exact ⟨rfl, rfl⟩
set_option maxRecDepth 100000 in
set_option maxHeartbeats 4000000 in
theorem tX12_text_0 {l : Launch} {K : a_KT} {g : a_GT} {IA : iT} (hko : a_kok K) {F : fT} : ∀ (n : Nat) (I : iT) (J : jT) (hF : FOK F) (q : Int32 × iT × jT), mX12_text_0 n I J = some q → E l K g 910 0 0 yX12_text cX12_text 2 (some .boolean) 0 [.ref 186, .null] [] (hg IA I J F) (fun r2 h2 => r2 = some (.int q.1) ∧ h2 = hg IA q.2.1 q.2.2 F) := by
  intro n
  induction n with
  | zero => intro I J hF q hm; cases hm
  | succ n ih =>
    intro I J hF q hm
    rw [mX12_text_0] at hm
    refine e_aload_n (i := 0) rfl dX12_text_0 ?_
    refine l_getI 12 3 dX12_text_1 fl_RX12_210 rfl iz_186 (by decide) ?_
    refine e_bipush (v := 100) (by decide) dX12_text_4 ?_
    refine e_icmp_ne 18 dX12_text_6 (by decide) (fun c_6 => ?_) (fun c_6 => ?_)
    · have hm := it_n c_6 hm
      refine e_weak [.ref 186, .null] ⟨rfl, ⟨trivial, trivial⟩⟩ ?_
      exact tX12_text_18 hko LF I J hF _ hm
    · have hm := it_p c_6 hm
      refine e_aload_n (i := 0) rfl dX12_text_9 ?_
      obtain ⟨q3, eq3, hm⟩ := ob_some hm
      refine e_cV0 hko dX12_text_10 ml_RX12_399 iz_186 (by decide) rfl (by omega) (Nat.le_of_ble_eq_true rfl) (tX12_typeText hko I J F hF _ eq3) ?_
      rintro _ _ ⟨rfl, rfl⟩
      refine e_if_ne 0 dX12_text_13 (by decide) (fun c_13 => ?_) (fun c_13 => ?_)
      · have hm := it_n c_13 hm
        refine e_weak [.ref 186, .null] ⟨rfl, ⟨trivial, trivial⟩⟩ ?_
        exact ih q3.2.1 q3.2.2 hF _ hm
      · have hm := it_p c_13 hm
        refine e_iconst (v := 0) (by decide) dX12_text_16 ?_
        refine e_zret dX12_text_17 rfl rfl ?_
        have hm := some_in hm
        subst hm
        exact ⟨rfl, rfl⟩
set_option maxRecDepth 100000 in
set_option maxHeartbeats 4000000 in
theorem tX12_text {l : Launch} {K : a_KT} {g : a_GT} {IA : iT} (hko : a_kok K) (I : iT) (J : jT) (F : fT) (hF : FOK F) (q : Int32 × iT × jT) (hm : mX12_text I J = some q) : C l K g 910 0 0 yX12_text cX12_text 2 (some .boolean) [.ref 186] (hg IA I J F) (fun r2 h2 => r2 = some (.int q.1) ∧ h2 = hg IA q.2.1 q.2.2 F) := by
  unfold mX12_text at hm
  refine c_of [.ref 186, .null] (by decide) (Nat.le_of_ble_eq_true rfl) rfl ?_
  refine e_weak [.ref 186, .null] ⟨rfl, ⟨trivial, trivial⟩⟩ ?_
  exact tX12_text_0 hko LF I J hF _ hm
theorem dX12_load_0 : decode cX12_load 0 = .ok (.aload_n 0, 1) := by decide +kernel
theorem dX12_load_1 : decode cX12_load 1 = .ok (.iconst 1, 1) := by decide +kernel
theorem dX12_load_2 : decode cX12_load 2 = .ok (.aload_n 0, 1) := by decide +kernel
theorem dX12_load_3 : decode cX12_load 3 = .ok (.getfield 405, 3) := by decide +kernel
theorem dX12_load_6 : decode cX12_load 6 = .ok (.isub, 1) := by decide +kernel
theorem dX12_load_7 : decode cX12_load 7 = .ok (.putfield 251, 3) := by decide +kernel
theorem dX12_load_10 : decode cX12_load 10 = .ok (.aload_n 0, 1) := by decide +kernel
theorem dX12_load_11 : decode cX12_load 11 = .ok (.sipush 1400, 3) := by decide +kernel
theorem dX12_load_14 : decode cX12_load 14 = .ok (.aload_n 0, 1) := by decide +kernel
theorem dX12_load_15 : decode cX12_load 15 = .ok (.getfield 251, 3) := by decide +kernel
theorem dX12_load_18 : decode cX12_load 18 = .ok (.imul, 1) := by decide +kernel
theorem dX12_load_19 : decode cX12_load 19 = .ok (.putfield 239, 3) := by decide +kernel
theorem dX12_load_22 : decode cX12_load 22 = .ok (.aload_n 0, 1) := by decide +kernel
theorem dX12_load_23 : decode cX12_load 23 = .ok (.iconst 0, 1) := by decide +kernel
theorem dX12_load_24 : decode cX12_load 24 = .ok (.putfield 242, 3) := by decide +kernel
theorem dX12_load_27 : decode cX12_load 27 = .ok (.aload_n 0, 1) := by decide +kernel
theorem dX12_load_28 : decode cX12_load 28 = .ok (.getfield 66, 3) := by decide +kernel
theorem dX12_load_31 : decode cX12_load 31 = .ok (.aload_n 0, 1) := by decide +kernel
theorem dX12_load_32 : decode cX12_load 32 = .ok (.getfield 251, 3) := by decide +kernel
theorem dX12_load_35 : decode cX12_load 35 = .ok (.iconst 0, 1) := by decide +kernel
theorem dX12_load_36 : decode cX12_load 36 = .ok (.iastore, 1) := by decide +kernel
theorem dX12_load_37 : decode cX12_load 37 = .ok (.aload_n 0, 1) := by decide +kernel
theorem dX12_load_38 : decode cX12_load 38 = .ok (.getfield 69, 3) := by decide +kernel
theorem dX12_load_41 : decode cX12_load 41 = .ok (.aload_n 0, 1) := by decide +kernel
theorem dX12_load_42 : decode cX12_load 42 = .ok (.getfield 251, 3) := by decide +kernel
theorem dX12_load_45 : decode cX12_load 45 = .ok (.iconst 0, 1) := by decide +kernel
theorem dX12_load_46 : decode cX12_load 46 = .ok (.iastore, 1) := by decide +kernel
theorem dX12_load_47 : decode cX12_load 47 = .ok (.aload_n 0, 1) := by decide +kernel
theorem dX12_load_48 : decode cX12_load 48 = .ok (.iconst 0, 1) := by decide +kernel
theorem dX12_load_49 : decode cX12_load 49 = .ok (.putfield 223, 3) := by decide +kernel
theorem dX12_load_52 : decode cX12_load 52 = .ok (.aload_n 0, 1) := by decide +kernel
theorem dX12_load_53 : decode cX12_load 53 = .ok (.iconst 0, 1) := by decide +kernel
theorem dX12_load_54 : decode cX12_load 54 = .ok (.putfield 200, 3) := by decide +kernel
theorem dX12_load_57 : decode cX12_load 57 = .ok (.aload_n 0, 1) := by decide +kernel
theorem dX12_load_58 : decode cX12_load 58 = .ok (.invokevirtual 236, 3) := by decide +kernel
theorem dX12_load_61 : decode cX12_load 61 = .ok (.aload_n 0, 1) := by decide +kernel
theorem dX12_load_62 : decode cX12_load 62 = .ok (.invokevirtual 408, 3) := by decide +kernel
theorem dX12_load_65 : decode cX12_load 65 = .ok (.istore_n 1, 1) := by decide +kernel
theorem dX12_load_66 : decode cX12_load 66 = .ok (.aload_n 0, 1) := by decide +kernel
theorem dX12_load_67 : decode cX12_load 67 = .ok (.iload_n 1, 1) := by decide +kernel
theorem dX12_load_68 : decode cX12_load 68 = .ok (.ifCond .eq 7, 3) := by decide +kernel
theorem dX12_load_71 : decode cX12_load 71 = .ok (.iconst 0, 1) := by decide +kernel
theorem dX12_load_72 : decode cX12_load 72 = .ok (.goto 7, 3) := by decide +kernel
theorem dX12_load_75 : decode cX12_load 75 = .ok (.aload_n 0, 1) := by decide +kernel
theorem dX12_load_76 : decode cX12_load 76 = .ok (.getfield 223, 3) := by decide +kernel
theorem dX12_load_79 : decode cX12_load 79 = .ok (.putfield 411, 3) := by decide +kernel
theorem dX12_load_82 : decode cX12_load 82 = .ok (.aload_n 0, 1) := by decide +kernel
theorem dX12_load_83 : decode cX12_load 83 = .ok (.iload_n 1, 1) := by decide +kernel
theorem dX12_load_84 : decode cX12_load 84 = .ok (.ifCond .eq 7, 3) := by decide +kernel
theorem dX12_load_87 : decode cX12_load 87 = .ok (.iconst (-1), 1) := by decide +kernel
theorem dX12_load_88 : decode cX12_load 88 = .ok (.goto 7, 3) := by decide +kernel
theorem dX12_load_91 : decode cX12_load 91 = .ok (.aload_n 0, 1) := by decide +kernel
theorem dX12_load_92 : decode cX12_load 92 = .ok (.getfield 226, 3) := by decide +kernel
theorem dX12_load_95 : decode cX12_load 95 = .ok (.putfield 13, 3) := by decide +kernel
theorem dX12_load_98 : decode cX12_load 98 = .ok (.aload_n 0, 1) := by decide +kernel
theorem dX12_load_99 : decode cX12_load 99 = .ok (.iconst 0, 1) := by decide +kernel
theorem dX12_load_100 : decode cX12_load 100 = .ok (.putfield 151, 3) := by decide +kernel
theorem dX12_load_103 : decode cX12_load 103 = .ok (.iload_n 1, 1) := by decide +kernel
theorem dX12_load_104 : decode cX12_load 104 = .ok (.ifCond .ne 5, 3) := by decide +kernel
theorem dX12_load_107 : decode cX12_load 107 = .ok (.iconst (-1), 1) := by decide +kernel
theorem dX12_load_108 : decode cX12_load 108 = .ok (.ireturn, 1) := by decide +kernel
theorem dX12_load_109 : decode cX12_load 109 = .ok (.aload_n 0, 1) := by decide +kernel
theorem dX12_load_110 : decode cX12_load 110 = .ok (.aload_n 0, 1) := by decide +kernel
theorem dX12_load_111 : decode cX12_load 111 = .ok (.getfield 251, 3) := by decide +kernel
theorem dX12_load_114 : decode cX12_load 114 = .ok (.putfield 405, 3) := by decide +kernel
theorem dX12_load_117 : decode cX12_load 117 = .ok (.aload_n 0, 1) := by decide +kernel
theorem dX12_load_118 : decode cX12_load 118 = .ok (.iconst 1, 1) := by decide +kernel
theorem dX12_load_119 : decode cX12_load 119 = .ok (.putfield 414, 3) := by decide +kernel
theorem dX12_load_122 : decode cX12_load 122 = .ok (.aload_n 0, 1) := by decide +kernel
theorem dX12_load_123 : decode cX12_load 123 = .ok (.invokevirtual 418, 3) := by decide +kernel
theorem dX12_load_126 : decode cX12_load 126 = .ok (.aload_n 0, 1) := by decide +kernel
theorem dX12_load_127 : decode cX12_load 127 = .ok (.getfield 69, 3) := by decide +kernel
theorem dX12_load_130 : decode cX12_load 130 = .ok (.aload_n 0, 1) := by decide +kernel
theorem dX12_load_131 : decode cX12_load 131 = .ok (.getfield 405, 3) := by decide +kernel
theorem dX12_load_134 : decode cX12_load 134 = .ok (.iaload, 1) := by decide +kernel
theorem dX12_load_135 : decode cX12_load 135 = .ok (.ireturn, 1) := by decide +kernel
def mX12_load_95 (I : iT) (J : jT) (x1 : Int32) (s0 : Int32) : Option (Int32 × iT × jT) := if x1 = 0 then some ((-1), a_u2 (a_u2 I 186 10 s0) 186 1 0, J) else (mX12_begins (a_u2 (a_u2 (a_u2 (a_u2 I 186 10 s0) 186 1 0) 186 31 ((a_u2 (a_u2 I 186 10 s0) 186 1 0) 186 32)) 186 33 1) J).bind fun q1 => if inb (q1 186 31) 2 then some (q1 205 (q1 186 31).toNatClampNeg, q1, J) else none
def mX12_load_79 (I : iT) (J : jT) (x1 : Int32) (s0 : Int32) : Option (Int32 × iT × jT) := if x1 = 0 then mX12_load_95 (a_u2 I 186 9 s0) J x1 ((a_u2 I 186 9 s0) 186 8) else mX12_load_95 (a_u2 I 186 9 s0) J x1 ((-1))
def mX12_load (I : iT) (J : jT) : Option (Int32 × iT × jT) := if inb ((a_u2 (a_u2 (a_u2 I 186 32 (1 - (I 186 31))) 186 16 (1400 * ((a_u2 I 186 32 (1 - (I 186 31))) 186 32))) 186 17 0) 186 32) 2 then if inb ((a_u2 (a_u2 (a_u2 (a_u2 I 186 32 (1 - (I 186 31))) 186 16 (1400 * ((a_u2 I 186 32 (1 - (I 186 31))) 186 32))) 186 17 0) 204 ((a_u2 (a_u2 (a_u2 I 186 32 (1 - (I 186 31))) 186 16 (1400 * ((a_u2 I 186 32 (1 - (I 186 31))) 186 32))) 186 17 0) 186 32).toNatClampNeg 0) 186 32) 2 then (mX12_look0 (a_u2 (a_u2 (a_u2 (a_u2 (a_u2 (a_u2 (a_u2 I 186 32 (1 - (I 186 31))) 186 16 (1400 * ((a_u2 I 186 32 (1 - (I 186 31))) 186 32))) 186 17 0) 204 ((a_u2 (a_u2 (a_u2 I 186 32 (1 - (I 186 31))) 186 16 (1400 * ((a_u2 I 186 32 (1 - (I 186 31))) 186 32))) 186 17 0) 186 32).toNatClampNeg 0) 205 ((a_u2 (a_u2 (a_u2 (a_u2 I 186 32 (1 - (I 186 31))) 186 16 (1400 * ((a_u2 I 186 32 (1 - (I 186 31))) 186 32))) 186 17 0) 204 ((a_u2 (a_u2 (a_u2 I 186 32 (1 - (I 186 31))) 186 16 (1400 * ((a_u2 I 186 32 (1 - (I 186 31))) 186 32))) 186 17 0) 186 32).toNatClampNeg 0) 186 32).toNatClampNeg 0) 186 7 0) 186 2 0) J).bind fun q2 => (mX12_text q2.1 q2.2).bind fun q3 => if q3.1 = 0 then mX12_load_79 q3.2.1 q3.2.2 q3.1 (q3.2.1 186 7) else mX12_load_79 q3.2.1 q3.2.2 q3.1 0 else none else none
set_option maxRecDepth 100000 in
set_option maxHeartbeats 4000000 in
theorem tX12_load_95 {l : Launch} {K : a_KT} {g : a_GT} {IA : iT} (hko : a_kok K) {F : fT} (I : iT) (J : jT) (x1 : Int32) (s0 : Int32) (hF : FOK F) (q : Int32 × iT × jT) (hm : mX12_load_95 I J x1 s0 = some q) : E l K g 911 0 0 yX12_load cX12_load 2 (some .int) 95 [.ref 186, .int x1] [.int s0, .ref 186] (hg IA I J F) (fun r2 h2 => r2 = some (.int q.1) ∧ h2 = hg IA q.2.1 q.2.2 F) := by
  unfold mX12_load_95 at hm
  refine l_putI 12 10 dX12_load_95 fl_RX12_13 rfl rfl iz_186 (by decide) ?_
  refine e_aload_n (i := 0) rfl dX12_load_98 ?_
  refine e_iconst (v := 0) (by decide) dX12_load_99 ?_
  refine l_putI 12 1 dX12_load_100 fl_RX12_151 rfl rfl iz_186 (by decide) ?_
  refine e_iload_n (i := 1) rfl dX12_load_103 ?_
  refine e_if_ne 109 dX12_load_104 (by decide) (fun c_104 => ?_) (fun c_104 => ?_)
  · have hm := it_n c_104 hm
    refine e_aload_n (i := 0) rfl dX12_load_109 ?_
    refine e_aload_n (i := 0) rfl dX12_load_110 ?_
    refine l_getI 12 32 dX12_load_111 fl_RX12_251 rfl iz_186 (by decide) ?_
    refine l_putI 12 31 dX12_load_114 fl_RX12_405 rfl rfl iz_186 (by decide) ?_
    refine e_aload_n (i := 0) rfl dX12_load_117 ?_
    refine e_iconst (v := 1) (by decide) dX12_load_118 ?_
    refine l_putZ 12 33 dX12_load_119 fl_RX12_414 rfl rfl (by decide) iz_186 (by decide) ?_
    refine e_aload_n (i := 0) rfl dX12_load_122 ?_
    obtain ⟨q1, eq1, hm⟩ := ob_some hm
    refine e_cV0 hko dX12_load_123 ml_RX12_418 iz_186 (by decide) rfl (by omega) (Nat.le_of_ble_eq_true rfl) (tX12_begins hko (a_u2 (a_u2 (a_u2 (a_u2 I 186 10 s0) 186 1 0) 186 31 ((a_u2 (a_u2 I 186 10 s0) 186 1 0) 186 32)) 186 33 1) J F hF _ eq1) ?_
    rintro _ _ ⟨rfl, rfl⟩
    refine e_aload_n (i := 0) rfl dX12_load_126 ?_
    refine q_getF 12 30 205 dX12_load_127 fl_RX12_69 rfl iz_186 (fr_186_30 hF) ?_
    refine e_aload_n (i := 0) rfl dX12_load_130 ?_
    refine l_getI 12 31 dX12_load_131 fl_RX12_405 rfl iz_186 (by decide) ?_
    obtain ⟨c_134, hm⟩ := gd_s hm
    refine l_iald dX12_load_134 iz_205 (inb_in ln_205 c_134) (by decide) ?_
    refine e_iret dX12_load_135 rfl ?_
    have hm := some_in hm
    subst hm
    exact ⟨rfl, rfl⟩
  · have hm := it_p c_104 hm
    refine e_iconst (v := (-1)) (by decide) dX12_load_107 ?_
    refine e_iret dX12_load_108 rfl ?_
    have hm := some_in hm
    subst hm
    exact ⟨rfl, rfl⟩
set_option maxRecDepth 100000 in
set_option maxHeartbeats 4000000 in
theorem tX12_load_79 {l : Launch} {K : a_KT} {g : a_GT} {IA : iT} (hko : a_kok K) {F : fT} (I : iT) (J : jT) (x1 : Int32) (s0 : Int32) (hF : FOK F) (q : Int32 × iT × jT) (hm : mX12_load_79 I J x1 s0 = some q) : E l K g 911 0 0 yX12_load cX12_load 2 (some .int) 79 [.ref 186, .int x1] [.int s0, .ref 186] (hg IA I J F) (fun r2 h2 => r2 = some (.int q.1) ∧ h2 = hg IA q.2.1 q.2.2 F) := by
  unfold mX12_load_79 at hm
  refine l_putI 12 9 dX12_load_79 fl_RX12_411 rfl rfl iz_186 (by decide) ?_
  refine e_aload_n (i := 0) rfl dX12_load_82 ?_
  refine e_iload_n (i := 1) rfl dX12_load_83 ?_
  refine e_if_eq 91 dX12_load_84 (by decide) (fun c_84 => ?_) (fun c_84 => ?_)
  · have hm := it_p c_84 hm
    refine e_aload_n (i := 0) rfl dX12_load_91 ?_
    refine l_getI 12 8 dX12_load_92 fl_RX12_226 rfl iz_186 (by decide) ?_
    refine e_weak [.ref 186, .int x1] ⟨rfl, ⟨rfl, trivial⟩⟩ ?_
    exact tX12_load_95 hko (a_u2 I 186 9 s0) J x1 ((a_u2 I 186 9 s0) 186 8) hF _ hm
  · have hm := it_n c_84 hm
    refine e_iconst (v := (-1)) (by decide) dX12_load_87 ?_
    refine e_goto 95 dX12_load_88 (by decide) ?_
    refine e_weak [.ref 186, .int x1] ⟨rfl, ⟨rfl, trivial⟩⟩ ?_
    exact tX12_load_95 hko (a_u2 I 186 9 s0) J x1 ((-1)) hF _ hm
set_option maxRecDepth 100000 in
set_option maxHeartbeats 4000000 in
theorem tX12_load {l : Launch} {K : a_KT} {g : a_GT} {IA : iT} (hko : a_kok K) (I : iT) (J : jT) (F : fT) (hF : FOK F) (q : Int32 × iT × jT) (hm : mX12_load I J = some q) : C l K g 911 0 0 yX12_load cX12_load 2 (some .int) [.ref 186] (hg IA I J F) (fun r2 h2 => r2 = some (.int q.1) ∧ h2 = hg IA q.2.1 q.2.2 F) := by
  unfold mX12_load at hm
  refine c_of [.ref 186, .null] (by decide) (Nat.le_of_ble_eq_true rfl) rfl ?_
  refine e_aload_n (i := 0) rfl dX12_load_0 ?_
  refine e_iconst (v := 1) (by decide) dX12_load_1 ?_
  refine e_aload_n (i := 0) rfl dX12_load_2 ?_
  refine l_getI 12 31 dX12_load_3 fl_RX12_405 rfl iz_186 (by decide) ?_
  refine e_isub dX12_load_6 ?_
  refine l_putI 12 32 dX12_load_7 fl_RX12_251 rfl rfl iz_186 (by decide) ?_
  refine e_aload_n (i := 0) rfl dX12_load_10 ?_
  refine e_sipush (v := 1400) (by decide) dX12_load_11 ?_
  refine e_aload_n (i := 0) rfl dX12_load_14 ?_
  refine l_getI 12 32 dX12_load_15 fl_RX12_251 rfl iz_186 (by decide) ?_
  refine e_imul dX12_load_18 ?_
  refine l_putI 12 16 dX12_load_19 fl_RX12_239 rfl rfl iz_186 (by decide) ?_
  refine e_aload_n (i := 0) rfl dX12_load_22 ?_
  refine e_iconst (v := 0) (by decide) dX12_load_23 ?_
  refine l_putI 12 17 dX12_load_24 fl_RX12_242 rfl rfl iz_186 (by decide) ?_
  refine e_aload_n (i := 0) rfl dX12_load_27 ?_
  refine q_getF 12 29 204 dX12_load_28 fl_RX12_66 rfl iz_186 (fr_186_29 hF) ?_
  refine e_aload_n (i := 0) rfl dX12_load_31 ?_
  refine l_getI 12 32 dX12_load_32 fl_RX12_251 rfl iz_186 (by decide) ?_
  refine e_iconst (v := 0) (by decide) dX12_load_35 ?_
  obtain ⟨c_36, hm⟩ := gd_s hm
  refine l_iast dX12_load_36 iz_204 (inb_in ln_204 c_36) (by decide) ?_
  refine e_aload_n (i := 0) rfl dX12_load_37 ?_
  refine q_getF 12 30 205 dX12_load_38 fl_RX12_69 rfl iz_186 (fr_186_30 hF) ?_
  refine e_aload_n (i := 0) rfl dX12_load_41 ?_
  refine l_getI 12 32 dX12_load_42 fl_RX12_251 rfl iz_186 (by decide) ?_
  refine e_iconst (v := 0) (by decide) dX12_load_45 ?_
  obtain ⟨c_46, hm⟩ := gd_s hm
  refine l_iast dX12_load_46 iz_205 (inb_in ln_205 c_46) (by decide) ?_
  refine e_aload_n (i := 0) rfl dX12_load_47 ?_
  refine e_iconst (v := 0) (by decide) dX12_load_48 ?_
  refine l_putI 12 7 dX12_load_49 fl_RX12_223 rfl rfl iz_186 (by decide) ?_
  refine e_aload_n (i := 0) rfl dX12_load_52 ?_
  refine e_iconst (v := 0) (by decide) dX12_load_53 ?_
  refine l_putI 12 2 dX12_load_54 fl_RX12_200 rfl rfl iz_186 (by decide) ?_
  refine e_aload_n (i := 0) rfl dX12_load_57 ?_
  obtain ⟨q2, eq2, hm⟩ := ob_some hm
  refine e_cV0 hko dX12_load_58 ml_RX12_236 iz_186 (by decide) rfl (by omega) (Nat.le_of_ble_eq_true rfl) (tX12_look0 hko (a_u2 (a_u2 (a_u2 (a_u2 (a_u2 (a_u2 (a_u2 I 186 32 (1 - (I 186 31))) 186 16 (1400 * ((a_u2 I 186 32 (1 - (I 186 31))) 186 32))) 186 17 0) 204 ((a_u2 (a_u2 (a_u2 I 186 32 (1 - (I 186 31))) 186 16 (1400 * ((a_u2 I 186 32 (1 - (I 186 31))) 186 32))) 186 17 0) 186 32).toNatClampNeg 0) 205 ((a_u2 (a_u2 (a_u2 (a_u2 I 186 32 (1 - (I 186 31))) 186 16 (1400 * ((a_u2 I 186 32 (1 - (I 186 31))) 186 32))) 186 17 0) 204 ((a_u2 (a_u2 (a_u2 I 186 32 (1 - (I 186 31))) 186 16 (1400 * ((a_u2 I 186 32 (1 - (I 186 31))) 186 32))) 186 17 0) 186 32).toNatClampNeg 0) 186 32).toNatClampNeg 0) 186 7 0) 186 2 0) J F hF _ eq2) ?_
  rintro _ _ ⟨rfl, rfl⟩
  refine e_aload_n (i := 0) rfl dX12_load_61 ?_
  obtain ⟨q3, eq3, hm⟩ := ob_some hm
  refine e_cV0 hko dX12_load_62 ml_RX12_408 iz_186 (by decide) rfl (by omega) (Nat.le_of_ble_eq_true rfl) (tX12_text hko q2.1 q2.2 F hF _ eq3) ?_
  rintro _ _ ⟨rfl, rfl⟩
  refine q_istore_n (i := 1) (by decide) rfl dX12_load_65 ?_
  refine e_aload_n (i := 0) rfl dX12_load_66 ?_
  refine e_iload_n (i := 1) rfl dX12_load_67 ?_
  refine e_if_eq 75 dX12_load_68 (by decide) (fun c_68 => ?_) (fun c_68 => ?_)
  · have hm := it_p c_68 hm
    refine e_aload_n (i := 0) rfl dX12_load_75 ?_
    refine l_getI 12 7 dX12_load_76 fl_RX12_223 rfl iz_186 (by decide) ?_
    refine e_weak [.ref 186, .int q3.1] ⟨rfl, ⟨rfl, trivial⟩⟩ ?_
    exact tX12_load_79 hko q3.2.1 q3.2.2 q3.1 (q3.2.1 186 7) hF _ hm
  · have hm := it_n c_68 hm
    refine e_iconst (v := 0) (by decide) dX12_load_71 ?_
    refine e_goto 79 dX12_load_72 (by decide) ?_
    refine e_weak [.ref 186, .int q3.1] ⟨rfl, ⟨rfl, trivial⟩⟩ ?_
    exact tX12_load_79 hko q3.2.1 q3.2.2 q3.1 0 hF _ hm
theorem dX12_look_0 : decode cX12_look 0 = .ok (.iload_n 1, 1) := by decide +kernel
theorem dX12_look_1 : decode cX12_look 1 = .ok (.iconst 0, 1) := by decide +kernel
theorem dX12_look_2 : decode cX12_look 2 = .ok (.bipush 7, 2) := by decide +kernel
theorem dX12_look_4 : decode cX12_look 4 = .ok (.invokestatic 154, 3) := by decide +kernel
theorem dX12_look_7 : decode cX12_look 7 = .ok (.ifCond .ne 5, 3) := by decide +kernel
theorem dX12_look_10 : decode cX12_look 10 = .ok (.iconst (-1), 1) := by decide +kernel
theorem dX12_look_11 : decode cX12_look 11 = .ok (.ireturn, 1) := by decide +kernel
theorem dX12_look_12 : decode cX12_look 12 = .ok (.aload_n 0, 1) := by decide +kernel
theorem dX12_look_13 : decode cX12_look 13 = .ok (.getfield 414, 3) := by decide +kernel
theorem dX12_look_16 : decode cX12_look 16 = .ok (.ifCond .ne 5, 3) := by decide +kernel
theorem dX12_look_19 : decode cX12_look 19 = .ok (.iconst 0, 1) := by decide +kernel
theorem dX12_look_20 : decode cX12_look 20 = .ok (.ireturn, 1) := by decide +kernel
theorem dX12_look_21 : decode cX12_look 21 = .ok (.iconst 0, 1) := by decide +kernel
theorem dX12_look_22 : decode cX12_look 22 = .ok (.istore_n 2, 1) := by decide +kernel
theorem dX12_look_23 : decode cX12_look 23 = .ok (.iconst 0, 1) := by decide +kernel
theorem dX12_look_24 : decode cX12_look 24 = .ok (.istore_n 3, 1) := by decide +kernel
theorem dX12_look_25 : decode cX12_look 25 = .ok (.iload_n 3, 1) := by decide +kernel
theorem dX12_look_26 : decode cX12_look 26 = .ok (.aload_n 0, 1) := by decide +kernel
theorem dX12_look_27 : decode cX12_look 27 = .ok (.getfield 427, 3) := by decide +kernel
theorem dX12_look_30 : decode cX12_look 30 = .ok (.if_icmp .ge 26, 3) := by decide +kernel
theorem dX12_look_33 : decode cX12_look 33 = .ok (.iload_n 2, 1) := by decide +kernel
theorem dX12_look_34 : decode cX12_look 34 = .ok (.aload_n 0, 1) := by decide +kernel
theorem dX12_look_35 : decode cX12_look 35 = .ok (.getfield 111, 3) := by decide +kernel
theorem dX12_look_38 : decode cX12_look 38 = .ok (.iload_n 3, 1) := by decide +kernel
theorem dX12_look_39 : decode cX12_look 39 = .ok (.baload, 1) := by decide +kernel
theorem dX12_look_40 : decode cX12_look 40 = .ok (.ifCond .eq 7, 3) := by decide +kernel
theorem dX12_look_43 : decode cX12_look 43 = .ok (.iconst 0, 1) := by decide +kernel
theorem dX12_look_44 : decode cX12_look 44 = .ok (.goto 4, 3) := by decide +kernel
theorem dX12_look_47 : decode cX12_look 47 = .ok (.iconst 1, 1) := by decide +kernel
theorem dX12_look_48 : decode cX12_look 48 = .ok (.iadd, 1) := by decide +kernel
theorem dX12_look_49 : decode cX12_look 49 = .ok (.istore_n 2, 1) := by decide +kernel
theorem dX12_look_50 : decode cX12_look 50 = .ok (.iinc 3 1, 3) := by decide +kernel
theorem dX12_look_53 : decode cX12_look 53 = .ok (.goto (-28), 3) := by decide +kernel
theorem dX12_look_56 : decode cX12_look 56 = .ok (.iload_n 1, 1) := by decide +kernel
theorem dX12_look_57 : decode cX12_look 57 = .ok (.tableswitch 85 0 6 #[43, 53, 63, 68, 70, 75, 80], 43) := by decide +kernel
theorem dX12_look_100 : decode cX12_look 100 = .ok (.aload_n 0, 1) := by decide +kernel
theorem dX12_look_101 : decode cX12_look 101 = .ok (.getfield 66, 3) := by decide +kernel
theorem dX12_look_104 : decode cX12_look 104 = .ok (.aload_n 0, 1) := by decide +kernel
theorem dX12_look_105 : decode cX12_look 105 = .ok (.getfield 405, 3) := by decide +kernel
theorem dX12_look_108 : decode cX12_look 108 = .ok (.iaload, 1) := by decide +kernel
theorem dX12_look_109 : decode cX12_look 109 = .ok (.ireturn, 1) := by decide +kernel
theorem dX12_look_110 : decode cX12_look 110 = .ok (.aload_n 0, 1) := by decide +kernel
theorem dX12_look_111 : decode cX12_look 111 = .ok (.getfield 69, 3) := by decide +kernel
theorem dX12_look_114 : decode cX12_look 114 = .ok (.aload_n 0, 1) := by decide +kernel
theorem dX12_look_115 : decode cX12_look 115 = .ok (.getfield 405, 3) := by decide +kernel
theorem dX12_look_118 : decode cX12_look 118 = .ok (.iaload, 1) := by decide +kernel
theorem dX12_look_119 : decode cX12_look 119 = .ok (.ireturn, 1) := by decide +kernel
theorem dX12_look_120 : decode cX12_look 120 = .ok (.aload_n 0, 1) := by decide +kernel
theorem dX12_look_121 : decode cX12_look 121 = .ok (.getfield 427, 3) := by decide +kernel
theorem dX12_look_124 : decode cX12_look 124 = .ok (.ireturn, 1) := by decide +kernel
theorem dX12_look_125 : decode cX12_look 125 = .ok (.iload_n 2, 1) := by decide +kernel
theorem dX12_look_126 : decode cX12_look 126 = .ok (.ireturn, 1) := by decide +kernel
theorem dX12_look_127 : decode cX12_look 127 = .ok (.aload_n 0, 1) := by decide +kernel
theorem dX12_look_128 : decode cX12_look 128 = .ok (.getfield 421, 3) := by decide +kernel
theorem dX12_look_131 : decode cX12_look 131 = .ok (.ireturn, 1) := by decide +kernel
theorem dX12_look_132 : decode cX12_look 132 = .ok (.aload_n 0, 1) := by decide +kernel
theorem dX12_look_133 : decode cX12_look 133 = .ok (.getfield 430, 3) := by decide +kernel
theorem dX12_look_136 : decode cX12_look 136 = .ok (.ireturn, 1) := by decide +kernel
theorem dX12_look_137 : decode cX12_look 137 = .ok (.aload_n 0, 1) := by decide +kernel
theorem dX12_look_138 : decode cX12_look 138 = .ok (.getfield 433, 3) := by decide +kernel
theorem dX12_look_141 : decode cX12_look 141 = .ok (.ireturn, 1) := by decide +kernel
theorem dX12_look_142 : decode cX12_look 142 = .ok (.aload_n 0, 1) := by decide +kernel
theorem dX12_look_143 : decode cX12_look 143 = .ok (.getfield 439, 3) := by decide +kernel
theorem dX12_look_146 : decode cX12_look 146 = .ok (.ifCond .eq 7, 3) := by decide +kernel
theorem dX12_look_149 : decode cX12_look 149 = .ok (.iconst 1, 1) := by decide +kernel
theorem dX12_look_150 : decode cX12_look 150 = .ok (.goto 4, 3) := by decide +kernel
theorem dX12_look_153 : decode cX12_look 153 = .ok (.iconst 0, 1) := by decide +kernel
theorem dX12_look_154 : decode cX12_look 154 = .ok (.ireturn, 1) := by decide +kernel
def mX12_look_48 (k25 : iT → Int32 → Int32 → Int32 → Option (Int32)) (I : iT) (x1 : Int32) (x2 : Int32) (x3 : Int32) (s0 : Int32) (s1 : Int32) : Option (Int32) := k25 I x1 (s1 + s0) (x3 + 1)
def mX12_look_25 : Nat → iT → Int32 → Int32 → Int32 → Option (Int32)
  | 0, _, _, _, _ => none
  | n + 1, I, x1, x2, x3 => if (I 186 60) ≤ x3 then if x1 = 0 then if inb (I 186 31) 2 then some (I 204 (I 186 31).toNatClampNeg) else none else if x1 = 1 then if inb (I 186 31) 2 then some (I 205 (I 186 31).toNatClampNeg) else none else if x1 = 2 then some (I 186 60) else if x1 = 3 then some x2 else if x1 = 4 then some (I 186 61) else if x1 = 5 then some (I 186 62) else if x1 = 6 then some (I 186 63) else if (I 186 65) = 0 then some 0 else some 1 else if inb x3 80 then if (I 219 x3.toNatClampNeg) = 0 then mX12_look_48 (mX12_look_25 n) I x1 x2 x3 1 x2 else mX12_look_48 (mX12_look_25 n) I x1 x2 x3 0 x2 else none
def mX12_look (I : iT) (x1 : Int32) : Option (Int32) := (mX12_isIn x1 0 7).bind fun q1 => if q1 = 0 then some ((-1)) else if (I 186 33) = 0 then some 0 else mX12_look_25 LF I x1 0 0
set_option maxRecDepth 100000 in
set_option maxHeartbeats 4000000 in
theorem tX12_look_48 {l : Launch} {K : a_KT} {g : a_GT} {IA : iT} (hko : a_kok K) {J : jT} {F : fT} {k25 : iT → Int32 → Int32 → Int32 → Option (Int32)} (hk25 : ∀ (I : iT) (x1 : Int32) (x2 : Int32) (x3 : Int32) (_ : FOK F) (q : Int32), k25 I x1 x2 x3 = some q → E l K g 1 0 0 yX12_look cX12_look 4 (some .int) 25 [.ref 186, .int x1, .int x2, .int x3] [] (hg IA I J F) (fun r2 h2 => r2 = some (.int q) ∧ h2 = hg IA I J F)) (I : iT) (x1 : Int32) (x2 : Int32) (x3 : Int32) (s0 : Int32) (s1 : Int32) (hF : FOK F) (q : Int32) (hm : mX12_look_48 k25 I x1 x2 x3 s0 s1 = some q) : E l K g 1 0 0 yX12_look cX12_look 4 (some .int) 48 [.ref 186, .int x1, .int x2, .int x3] [.int s0, .int s1] (hg IA I J F) (fun r2 h2 => r2 = some (.int q) ∧ h2 = hg IA I J F) := by
  unfold mX12_look_48 at hm
  refine e_iadd dX12_look_48 ?_
  refine q_istore_n (i := 2) (by decide) rfl dX12_look_49 ?_
  refine q_iinc (i := 3) (x3 + 1) rfl ic_1 rfl dX12_look_50 ?_
  refine e_goto 25 dX12_look_53 (by decide) ?_
  refine e_weak [.ref 186, .int x1, .int (s1 + s0), .int (x3 + 1)] ⟨rfl, ⟨rfl, ⟨rfl, ⟨rfl, trivial⟩⟩⟩⟩ ?_
  exact hk25 I x1 (s1 + s0) (x3 + 1) hF _ hm
set_option maxRecDepth 100000 in
set_option maxHeartbeats 4000000 in
theorem tX12_look_25 {l : Launch} {K : a_KT} {g : a_GT} {IA : iT} (hko : a_kok K) {J : jT} {F : fT} : ∀ (n : Nat) (I : iT) (x1 : Int32) (x2 : Int32) (x3 : Int32) (hF : FOK F) (q : Int32), mX12_look_25 n I x1 x2 x3 = some q → E l K g 1 0 0 yX12_look cX12_look 4 (some .int) 25 [.ref 186, .int x1, .int x2, .int x3] [] (hg IA I J F) (fun r2 h2 => r2 = some (.int q) ∧ h2 = hg IA I J F) := by
  intro n
  induction n with
  | zero => intro I x1 x2 x3 hF q hm; cases hm
  | succ n ih =>
    intro I x1 x2 x3 hF q hm
    rw [mX12_look_25] at hm
    refine e_iload_n (i := 3) rfl dX12_look_25 ?_
    refine e_aload_n (i := 0) rfl dX12_look_26 ?_
    refine l_getI 12 60 dX12_look_27 fl_RX12_427 rfl iz_186 (by decide) ?_
    refine e_icmp_ge 56 dX12_look_30 (by decide) (fun c_30 => ?_) (fun c_30 => ?_)
    · have hm := it_p c_30 hm
      refine e_iload_n (i := 1) rfl dX12_look_56 ?_
      by_cases c_57_0 : x1 = 0
      · have hm := it_p c_57_0 hm
        refine e_tableIn 100 dX12_look_57 (by rw [c_57_0]; decide) (by rw [c_57_0]; decide) (off := 43) (by rw [c_57_0]; decide) (by decide) ?_
        refine e_aload_n (i := 0) rfl dX12_look_100 ?_
        refine q_getF 12 29 204 dX12_look_101 fl_RX12_66 rfl iz_186 (fr_186_29 hF) ?_
        refine e_aload_n (i := 0) rfl dX12_look_104 ?_
        refine l_getI 12 31 dX12_look_105 fl_RX12_405 rfl iz_186 (by decide) ?_
        obtain ⟨c_108, hm⟩ := gd_s hm
        refine l_iald dX12_look_108 iz_204 (inb_in ln_204 c_108) (by decide) ?_
        refine e_iret dX12_look_109 rfl ?_
        have hm := some_in hm
        subst hm
        exact ⟨rfl, rfl⟩
      have hm := it_n c_57_0 hm
      by_cases c_57_1 : x1 = 1
      · have hm := it_p c_57_1 hm
        refine e_tableIn 110 dX12_look_57 (by rw [c_57_1]; decide) (by rw [c_57_1]; decide) (off := 53) (by rw [c_57_1]; decide) (by decide) ?_
        refine e_aload_n (i := 0) rfl dX12_look_110 ?_
        refine q_getF 12 30 205 dX12_look_111 fl_RX12_69 rfl iz_186 (fr_186_30 hF) ?_
        refine e_aload_n (i := 0) rfl dX12_look_114 ?_
        refine l_getI 12 31 dX12_look_115 fl_RX12_405 rfl iz_186 (by decide) ?_
        obtain ⟨c_118, hm⟩ := gd_s hm
        refine l_iald dX12_look_118 iz_205 (inb_in ln_205 c_118) (by decide) ?_
        refine e_iret dX12_look_119 rfl ?_
        have hm := some_in hm
        subst hm
        exact ⟨rfl, rfl⟩
      have hm := it_n c_57_1 hm
      by_cases c_57_2 : x1 = 2
      · have hm := it_p c_57_2 hm
        refine e_tableIn 120 dX12_look_57 (by rw [c_57_2]; decide) (by rw [c_57_2]; decide) (off := 63) (by rw [c_57_2]; decide) (by decide) ?_
        refine e_aload_n (i := 0) rfl dX12_look_120 ?_
        refine l_getI 12 60 dX12_look_121 fl_RX12_427 rfl iz_186 (by decide) ?_
        refine e_iret dX12_look_124 rfl ?_
        have hm := some_in hm
        subst hm
        exact ⟨rfl, rfl⟩
      have hm := it_n c_57_2 hm
      by_cases c_57_3 : x1 = 3
      · have hm := it_p c_57_3 hm
        refine e_tableIn 125 dX12_look_57 (by rw [c_57_3]; decide) (by rw [c_57_3]; decide) (off := 68) (by rw [c_57_3]; decide) (by decide) ?_
        refine e_iload_n (i := 2) rfl dX12_look_125 ?_
        refine e_iret dX12_look_126 rfl ?_
        have hm := some_in hm
        subst hm
        exact ⟨rfl, rfl⟩
      have hm := it_n c_57_3 hm
      by_cases c_57_4 : x1 = 4
      · have hm := it_p c_57_4 hm
        refine e_tableIn 127 dX12_look_57 (by rw [c_57_4]; decide) (by rw [c_57_4]; decide) (off := 70) (by rw [c_57_4]; decide) (by decide) ?_
        refine e_aload_n (i := 0) rfl dX12_look_127 ?_
        refine l_getI 12 61 dX12_look_128 fl_RX12_421 rfl iz_186 (by decide) ?_
        refine e_iret dX12_look_131 rfl ?_
        have hm := some_in hm
        subst hm
        exact ⟨rfl, rfl⟩
      have hm := it_n c_57_4 hm
      by_cases c_57_5 : x1 = 5
      · have hm := it_p c_57_5 hm
        refine e_tableIn 132 dX12_look_57 (by rw [c_57_5]; decide) (by rw [c_57_5]; decide) (off := 75) (by rw [c_57_5]; decide) (by decide) ?_
        refine e_aload_n (i := 0) rfl dX12_look_132 ?_
        refine l_getI 12 62 dX12_look_133 fl_RX12_430 rfl iz_186 (by decide) ?_
        refine e_iret dX12_look_136 rfl ?_
        have hm := some_in hm
        subst hm
        exact ⟨rfl, rfl⟩
      have hm := it_n c_57_5 hm
      by_cases c_57_6 : x1 = 6
      · have hm := it_p c_57_6 hm
        refine e_tableIn 137 dX12_look_57 (by rw [c_57_6]; decide) (by rw [c_57_6]; decide) (off := 80) (by rw [c_57_6]; decide) (by decide) ?_
        refine e_aload_n (i := 0) rfl dX12_look_137 ?_
        refine l_getI 12 63 dX12_look_138 fl_RX12_433 rfl iz_186 (by decide) ?_
        refine e_iret dX12_look_141 rfl ?_
        have hm := some_in hm
        subst hm
        exact ⟨rfl, rfl⟩
      have hm := it_n c_57_6 hm
      have n_57_0 := lv_neT (a := 0) c_57_0 (by decide)
      have n_57_1 := lv_neT (a := 1) c_57_1 (by decide)
      have n_57_2 := lv_neT (a := 2) c_57_2 (by decide)
      have n_57_3 := lv_neT (a := 3) c_57_3 (by decide)
      have n_57_4 := lv_neT (a := 4) c_57_4 (by decide)
      have n_57_5 := lv_neT (a := 5) c_57_5 (by decide)
      have n_57_6 := lv_neT (a := 6) c_57_6 (by decide)
      refine e_tableOut 142 dX12_look_57 (by omega) (by decide) ?_
      refine e_aload_n (i := 0) rfl dX12_look_142 ?_
      refine l_getI 12 65 dX12_look_143 fl_RX12_439 rfl iz_186 (by decide) ?_
      refine e_if_eq 153 dX12_look_146 (by decide) (fun c_146 => ?_) (fun c_146 => ?_)
      · have hm := it_p c_146 hm
        refine e_iconst (v := 0) (by decide) dX12_look_153 ?_
        refine e_iret dX12_look_154 rfl ?_
        have hm := some_in hm
        subst hm
        exact ⟨rfl, rfl⟩
      · have hm := it_n c_146 hm
        refine e_iconst (v := 1) (by decide) dX12_look_149 ?_
        refine e_goto 154 dX12_look_150 (by decide) ?_
        refine e_iret dX12_look_154 rfl ?_
        have hm := some_in hm
        subst hm
        exact ⟨rfl, rfl⟩
    · have hm := it_n c_30 hm
      refine e_iload_n (i := 2) rfl dX12_look_33 ?_
      refine e_aload_n (i := 0) rfl dX12_look_34 ?_
      refine q_getF 12 59 219 dX12_look_35 fl_RX12_111 rfl iz_186 (fr_186_59 hF) ?_
      refine e_iload_n (i := 3) rfl dX12_look_38 ?_
      obtain ⟨c_39, hm⟩ := gd_s hm
      refine l_zald dX12_look_39 iz_219 (inb_in ln_219 c_39) (by decide) ?_
      refine e_if_eq 47 dX12_look_40 (by decide) (fun c_40 => ?_) (fun c_40 => ?_)
      · have hm := it_p c_40 hm
        refine e_iconst (v := 1) (by decide) dX12_look_47 ?_
        refine e_weak [.ref 186, .int x1, .int x2, .int x3] ⟨rfl, ⟨rfl, ⟨rfl, ⟨rfl, trivial⟩⟩⟩⟩ ?_
        exact tX12_look_48 hko (ih) I x1 x2 x3 1 x2 hF _ hm
      · have hm := it_n c_40 hm
        refine e_iconst (v := 0) (by decide) dX12_look_43 ?_
        refine e_goto 48 dX12_look_44 (by decide) ?_
        refine e_weak [.ref 186, .int x1, .int x2, .int x3] ⟨rfl, ⟨rfl, ⟨rfl, ⟨rfl, trivial⟩⟩⟩⟩ ?_
        exact tX12_look_48 hko (ih) I x1 x2 x3 0 x2 hF _ hm
set_option maxRecDepth 100000 in
set_option maxHeartbeats 4000000 in
theorem tX12_look {l : Launch} {K : a_KT} {g : a_GT} {IA : iT} (hko : a_kok K) (I : iT) (J : jT) (F : fT) (hF : FOK F) (x1 : Int32) (q : Int32) (hm : mX12_look I x1 = some q) : C l K g 1 0 0 yX12_look cX12_look 4 (some .int) [.ref 186, .int x1] (hg IA I J F) (fun r2 h2 => r2 = some (.int q) ∧ h2 = hg IA I J F) := by
  unfold mX12_look at hm
  refine c_of [.ref 186, .int x1, .null, .null] (by decide) (Nat.le_of_ble_eq_true rfl) rfl ?_
  refine e_iload_n (i := 1) rfl dX12_look_0 ?_
  refine e_iconst (v := 0) (by decide) dX12_look_1 ?_
  refine e_bipush (v := 7) (by decide) dX12_look_2 ?_
  obtain ⟨q1, eq1, hm⟩ := ob_some hm
  refine e_cS3 hko dX12_look_4 ml_RX12_154 (by omega) (Nat.le_of_ble_eq_true rfl) (tX12_isIn hko I J F hF x1 0 7 _ eq1) ?_
  rintro _ _ ⟨rfl, rfl⟩
  refine e_if_ne 12 dX12_look_7 (by decide) (fun c_7 => ?_) (fun c_7 => ?_)
  · have hm := it_n c_7 hm
    refine e_aload_n (i := 0) rfl dX12_look_12 ?_
    refine l_getI 12 33 dX12_look_13 fl_RX12_414 rfl iz_186 (by decide) ?_
    refine e_if_ne 21 dX12_look_16 (by decide) (fun c_16 => ?_) (fun c_16 => ?_)
    · have hm := it_n c_16 hm
      refine e_iconst (v := 0) (by decide) dX12_look_21 ?_
      refine q_istore_n (i := 2) (by decide) rfl dX12_look_22 ?_
      refine e_iconst (v := 0) (by decide) dX12_look_23 ?_
      refine q_istore_n (i := 3) (by decide) rfl dX12_look_24 ?_
      refine e_weak [.ref 186, .int x1, .int 0, .int 0] ⟨rfl, ⟨rfl, ⟨rfl, ⟨rfl, trivial⟩⟩⟩⟩ ?_
      exact tX12_look_25 hko LF I x1 0 0 hF _ hm
    · have hm := it_p c_16 hm
      refine e_iconst (v := 0) (by decide) dX12_look_19 ?_
      refine e_iret dX12_look_20 rfl ?_
      have hm := some_in hm
      subst hm
      exact ⟨rfl, rfl⟩
  · have hm := it_p c_7 hm
    refine e_iconst (v := (-1)) (by decide) dX12_look_10 ?_
    refine e_iret dX12_look_11 rfl ?_
    have hm := some_in hm
    subst hm
    exact ⟨rfl, rfl⟩
theorem dX12_message_0 : decode cX12_message 0 = .ok (.aload_n 0, 1) := by decide +kernel
theorem dX12_message_1 : decode cX12_message 1 = .ok (.getfield 414, 3) := by decide +kernel
theorem dX12_message_4 : decode cX12_message 4 = .ok (.ifCond .eq 21, 3) := by decide +kernel
theorem dX12_message_7 : decode cX12_message 7 = .ok (.iload_n 1, 1) := by decide +kernel
theorem dX12_message_8 : decode cX12_message 8 = .ok (.iconst 0, 1) := by decide +kernel
theorem dX12_message_9 : decode cX12_message 9 = .ok (.aload_n 0, 1) := by decide +kernel
theorem dX12_message_10 : decode cX12_message 10 = .ok (.getfield 421, 3) := by decide +kernel
theorem dX12_message_13 : decode cX12_message 13 = .ok (.iconst 1, 1) := by decide +kernel
theorem dX12_message_14 : decode cX12_message 14 = .ok (.isub, 1) := by decide +kernel
theorem dX12_message_15 : decode cX12_message 15 = .ok (.invokestatic 154, 3) := by decide +kernel
theorem dX12_message_18 : decode cX12_message 18 = .ok (.ifCond .eq 7, 3) := by decide +kernel
theorem dX12_message_21 : decode cX12_message 21 = .ok (.iload_n 2, 1) := by decide +kernel
theorem dX12_message_22 : decode cX12_message 22 = .ok (.ifCond .ge 5, 3) := by decide +kernel
theorem dX12_message_25 : decode cX12_message 25 = .ok (.iconst (-1), 1) := by decide +kernel
theorem dX12_message_26 : decode cX12_message 26 = .ok (.ireturn, 1) := by decide +kernel
theorem dX12_message_27 : decode cX12_message 27 = .ok (.aload_n 0, 1) := by decide +kernel
theorem dX12_message_28 : decode cX12_message 28 = .ok (.getfield 118, 3) := by decide +kernel
theorem dX12_message_31 : decode cX12_message 31 = .ok (.iconst 2, 1) := by decide +kernel
theorem dX12_message_32 : decode cX12_message 32 = .ok (.aload_n 0, 1) := by decide +kernel
theorem dX12_message_33 : decode cX12_message 33 = .ok (.iload_n 1, 1) := by decide +kernel
theorem dX12_message_34 : decode cX12_message 34 = .ok (.invokevirtual 469, 3) := by decide +kernel
theorem dX12_message_37 : decode cX12_message 37 = .ok (.imul, 1) := by decide +kernel
theorem dX12_message_38 : decode cX12_message 38 = .ok (.iaload, 1) := by decide +kernel
theorem dX12_message_39 : decode cX12_message 39 = .ok (.istore 4, 2) := by decide +kernel
theorem dX12_message_41 : decode cX12_message 41 = .ok (.iconst 0, 1) := by decide +kernel
theorem dX12_message_42 : decode cX12_message 42 = .ok (.istore 5, 2) := by decide +kernel
theorem dX12_message_44 : decode cX12_message 44 = .ok (.iload 5, 2) := by decide +kernel
theorem dX12_message_46 : decode cX12_message 46 = .ok (.iload_n 2, 1) := by decide +kernel
theorem dX12_message_47 : decode cX12_message 47 = .ok (.if_icmp .ge 24, 3) := by decide +kernel
theorem dX12_message_50 : decode cX12_message 50 = .ok (.iload 4, 2) := by decide +kernel
theorem dX12_message_52 : decode cX12_message 52 = .ok (.iconst (-1), 1) := by decide +kernel
theorem dX12_message_53 : decode cX12_message 53 = .ok (.if_icmp .eq 18, 3) := by decide +kernel
theorem dX12_message_56 : decode cX12_message 56 = .ok (.aload_n 0, 1) := by decide +kernel
theorem dX12_message_57 : decode cX12_message 57 = .ok (.getfield 130, 3) := by decide +kernel
theorem dX12_message_60 : decode cX12_message 60 = .ok (.iload 4, 2) := by decide +kernel
theorem dX12_message_62 : decode cX12_message 62 = .ok (.iaload, 1) := by decide +kernel
theorem dX12_message_63 : decode cX12_message 63 = .ok (.istore 4, 2) := by decide +kernel
theorem dX12_message_65 : decode cX12_message 65 = .ok (.iinc 5 1, 3) := by decide +kernel
theorem dX12_message_68 : decode cX12_message 68 = .ok (.goto (-24), 3) := by decide +kernel
theorem dX12_message_71 : decode cX12_message 71 = .ok (.iload 4, 2) := by decide +kernel
theorem dX12_message_73 : decode cX12_message 73 = .ok (.iconst (-1), 1) := by decide +kernel
theorem dX12_message_74 : decode cX12_message 74 = .ok (.if_icmp .ne 5, 3) := by decide +kernel
theorem dX12_message_77 : decode cX12_message 77 = .ok (.iconst (-1), 1) := by decide +kernel
theorem dX12_message_78 : decode cX12_message 78 = .ok (.ireturn, 1) := by decide +kernel
theorem dX12_message_79 : decode cX12_message 79 = .ok (.iconst 0, 1) := by decide +kernel
theorem dX12_message_80 : decode cX12_message 80 = .ok (.istore 5, 2) := by decide +kernel
theorem dX12_message_82 : decode cX12_message 82 = .ok (.aload_n 0, 1) := by decide +kernel
theorem dX12_message_83 : decode cX12_message 83 = .ok (.getfield 133, 3) := by decide +kernel
theorem dX12_message_86 : decode cX12_message 86 = .ok (.iload 4, 2) := by decide +kernel
theorem dX12_message_88 : decode cX12_message 88 = .ok (.laload, 1) := by decide +kernel
theorem dX12_message_89 : decode cX12_message 89 = .ok (.lstore 6, 2) := by decide +kernel
theorem dX12_message_91 : decode cX12_message 91 = .ok (.lload 6, 2) := by decide +kernel
theorem dX12_message_93 : decode cX12_message 93 = .ok (.lconst 0, 1) := by decide +kernel
theorem dX12_message_94 : decode cX12_message 94 = .ok (.lcmp, 1) := by decide +kernel
theorem dX12_message_95 : decode cX12_message 95 = .ok (.ifCond .eq 16, 3) := by decide +kernel
theorem dX12_message_98 : decode cX12_message 98 = .ok (.iinc 5 1, 3) := by decide +kernel
theorem dX12_message_101 : decode cX12_message 101 = .ok (.lload 6, 2) := by decide +kernel
theorem dX12_message_103 : decode cX12_message 103 = .ok (.bipush 8, 2) := by decide +kernel
theorem dX12_message_105 : decode cX12_message 105 = .ok (.lshr, 1) := by decide +kernel
theorem dX12_message_106 : decode cX12_message 106 = .ok (.lstore 6, 2) := by decide +kernel
theorem dX12_message_108 : decode cX12_message 108 = .ok (.goto (-17), 3) := by decide +kernel
theorem dX12_message_111 : decode cX12_message 111 = .ok (.iload_n 3, 1) := by decide +kernel
theorem dX12_message_112 : decode cX12_message 112 = .ok (.ifCond .ne 11, 3) := by decide +kernel
theorem dX12_message_115 : decode cX12_message 115 = .ok (.aload_n 0, 1) := by decide +kernel
theorem dX12_message_116 : decode cX12_message 116 = .ok (.getfield 124, 3) := by decide +kernel
theorem dX12_message_119 : decode cX12_message 119 = .ok (.iload 4, 2) := by decide +kernel
theorem dX12_message_121 : decode cX12_message 121 = .ok (.iaload, 1) := by decide +kernel
theorem dX12_message_122 : decode cX12_message 122 = .ok (.ireturn, 1) := by decide +kernel
theorem dX12_message_123 : decode cX12_message 123 = .ok (.iload_n 3, 1) := by decide +kernel
theorem dX12_message_124 : decode cX12_message 124 = .ok (.iconst 1, 1) := by decide +kernel
theorem dX12_message_125 : decode cX12_message 125 = .ok (.if_icmp .ne 52, 3) := by decide +kernel
theorem dX12_message_128 : decode cX12_message 128 = .ok (.aload_n 0, 1) := by decide +kernel
theorem dX12_message_129 : decode cX12_message 129 = .ok (.getfield 124, 3) := by decide +kernel
theorem dX12_message_132 : decode cX12_message 132 = .ok (.iload 4, 2) := by decide +kernel
theorem dX12_message_134 : decode cX12_message 134 = .ok (.iaload, 1) := by decide +kernel
theorem dX12_message_135 : decode cX12_message 135 = .ok (.iconst 2, 1) := by decide +kernel
theorem dX12_message_136 : decode cX12_message 136 = .ok (.if_icmp .ne 8, 3) := by decide +kernel
theorem dX12_message_139 : decode cX12_message 139 = .ok (.iload 5, 2) := by decide +kernel
theorem dX12_message_141 : decode cX12_message 141 = .ok (.goto 35, 3) := by decide +kernel
theorem dX12_message_144 : decode cX12_message 144 = .ok (.aload_n 0, 1) := by decide +kernel
theorem dX12_message_145 : decode cX12_message 145 = .ok (.getfield 124, 3) := by decide +kernel
theorem dX12_message_148 : decode cX12_message 148 = .ok (.iload 4, 2) := by decide +kernel
theorem dX12_message_150 : decode cX12_message 150 = .ok (.iaload, 1) := by decide +kernel
theorem dX12_message_151 : decode cX12_message 151 = .ok (.iconst 1, 1) := by decide +kernel
theorem dX12_message_152 : decode cX12_message 152 = .ok (.if_icmp .ne 17, 3) := by decide +kernel
theorem dX12_message_155 : decode cX12_message 155 = .ok (.aload_n 0, 1) := by decide +kernel
theorem dX12_message_156 : decode cX12_message 156 = .ok (.aload_n 0, 1) := by decide +kernel
theorem dX12_message_157 : decode cX12_message 157 = .ok (.getfield 127, 3) := by decide +kernel
theorem dX12_message_160 : decode cX12_message 160 = .ok (.iload 4, 2) := by decide +kernel
theorem dX12_message_162 : decode cX12_message 162 = .ok (.iaload, 1) := by decide +kernel
theorem dX12_message_163 : decode cX12_message 163 = .ok (.invokevirtual 469, 3) := by decide +kernel
theorem dX12_message_166 : decode cX12_message 166 = .ok (.goto 10, 3) := by decide +kernel
theorem dX12_message_169 : decode cX12_message 169 = .ok (.aload_n 0, 1) := by decide +kernel
theorem dX12_message_170 : decode cX12_message 170 = .ok (.getfield 127, 3) := by decide +kernel
theorem dX12_message_173 : decode cX12_message 173 = .ok (.iload 4, 2) := by decide +kernel
theorem dX12_message_175 : decode cX12_message 175 = .ok (.iaload, 1) := by decide +kernel
theorem dX12_message_176 : decode cX12_message 176 = .ok (.ireturn, 1) := by decide +kernel
theorem dX12_message_177 : decode cX12_message 177 = .ok (.iload_n 3, 1) := by decide +kernel
theorem dX12_message_178 : decode cX12_message 178 = .ok (.bipush 100, 2) := by decide +kernel
theorem dX12_message_180 : decode cX12_message 180 = .ok (.bipush 99, 2) := by decide +kernel
theorem dX12_message_182 : decode cX12_message 182 = .ok (.iload 5, 2) := by decide +kernel
theorem dX12_message_184 : decode cX12_message 184 = .ok (.iadd, 1) := by decide +kernel
theorem dX12_message_185 : decode cX12_message 185 = .ok (.invokestatic 154, 3) := by decide +kernel
theorem dX12_message_188 : decode cX12_message 188 = .ok (.ifCond .eq 31, 3) := by decide +kernel
theorem dX12_message_191 : decode cX12_message 191 = .ok (.aload_n 0, 1) := by decide +kernel
theorem dX12_message_192 : decode cX12_message 192 = .ok (.getfield 133, 3) := by decide +kernel
theorem dX12_message_195 : decode cX12_message 195 = .ok (.iload 4, 2) := by decide +kernel
theorem dX12_message_197 : decode cX12_message 197 = .ok (.laload, 1) := by decide +kernel
theorem dX12_message_198 : decode cX12_message 198 = .ok (.bipush 8, 2) := by decide +kernel
theorem dX12_message_200 : decode cX12_message 200 = .ok (.iload 5, 2) := by decide +kernel
theorem dX12_message_202 : decode cX12_message 202 = .ok (.iconst 1, 1) := by decide +kernel
theorem dX12_message_203 : decode cX12_message 203 = .ok (.isub, 1) := by decide +kernel
theorem dX12_message_204 : decode cX12_message 204 = .ok (.iload_n 3, 1) := by decide +kernel
theorem dX12_message_205 : decode cX12_message 205 = .ok (.bipush 100, 2) := by decide +kernel
theorem dX12_message_207 : decode cX12_message 207 = .ok (.isub, 1) := by decide +kernel
theorem dX12_message_208 : decode cX12_message 208 = .ok (.isub, 1) := by decide +kernel
theorem dX12_message_209 : decode cX12_message 209 = .ok (.imul, 1) := by decide +kernel
theorem dX12_message_210 : decode cX12_message 210 = .ok (.lshr, 1) := by decide +kernel
theorem dX12_message_211 : decode cX12_message 211 = .ok (.ldc2_w 539, 3) := by decide +kernel
theorem dX12_message_214 : decode cX12_message 214 = .ok (.land, 1) := by decide +kernel
theorem dX12_message_215 : decode cX12_message 215 = .ok (.l2i, 1) := by decide +kernel
theorem dX12_message_216 : decode cX12_message 216 = .ok (.goto 4, 3) := by decide +kernel
theorem dX12_message_219 : decode cX12_message 219 = .ok (.iconst (-1), 1) := by decide +kernel
theorem dX12_message_220 : decode cX12_message 220 = .ok (.ireturn, 1) := by decide +kernel
def mX12_message_91 : Nat → iT → jT → Int32 → Int32 → Int32 → Int32 → Int32 → Int64 → Option (Int32)
  | 0, _, _, _, _, _, _, _, _ => none
  | n + 1, I, J, x1, x2, x3, x4, x5, w6 => if (lg_cmp w6 0) = 0 then if x3 = 0 then if inb x4 700 then some (I 223 x4.toNatClampNeg) else none else if x3 = 1 then if inb x4 700 then if (I 223 x4.toNatClampNeg) = 2 then some x5 else if inb x4 700 then if (I 223 x4.toNatClampNeg) = 1 then if inb x4 700 then (mX12_real I (I 224 x4.toNatClampNeg)).bind fun q2 => some q2 else none else if inb x4 700 then some (I 224 x4.toNatClampNeg) else none else none else none else (mX12_isIn x3 100 (99 + x5)).bind fun q1 => if q1 = 0 then some ((-1)) else if inb x4 700 then some ((((J 226 x4.toNatClampNeg) >>> ((8 * ((x5 - 1) - (x3 - 100))).toInt64 &&& 63)) &&& 255).toInt32) else none else mX12_message_91 n I J x1 x2 x3 x4 (x5 + 1) (w6 >>> ((Int32.toInt64 8) &&& 63))
def mX12_message_71 (I : iT) (J : jT) (x1 : Int32) (x2 : Int32) (x3 : Int32) (x4 : Int32) (x5 : Int32) : Option (Int32) := if x4 = ((-1)) then some ((-1)) else if inb x4 700 then mX12_message_91 LF I J x1 x2 x3 x4 0 (J 226 x4.toNatClampNeg) else none
def mX12_message_44 : Nat → iT → jT → Int32 → Int32 → Int32 → Int32 → Int32 → Option (Int32)
  | 0, _, _, _, _, _, _, _ => none
  | n + 1, I, J, x1, x2, x3, x4, x5 => if x2 ≤ x5 then mX12_message_71 I J x1 x2 x3 x4 x5 else if x4 = ((-1)) then mX12_message_71 I J x1 x2 x3 x4 x5 else if inb x4 700 then mX12_message_44 n I J x1 x2 x3 (I 225 x4.toNatClampNeg) (x5 + 1) else none
def mX12_message (I : iT) (J : jT) (x1 : Int32) (x2 : Int32) (x3 : Int32) : Option (Int32) := if (I 186 33) = 0 then some ((-1)) else (mX12_isIn x1 0 ((I 186 61) - 1)).bind fun q3 => if q3 = 0 then some ((-1)) else if 0 ≤ x2 then (mX12_real I x1).bind fun q4 => if inb (2 * q4) 160 then mX12_message_44 LF I J x1 x2 x3 (I 221 (2 * q4).toNatClampNeg) 0 else none else some ((-1))
set_option maxRecDepth 100000 in
set_option maxHeartbeats 4000000 in
theorem tX12_message_91 {l : Launch} {K : a_KT} {g : a_GT} {IA : iT} (hko : a_kok K) {F : fT} : ∀ (n : Nat) (I : iT) (J : jT) (x1 : Int32) (x2 : Int32) (x3 : Int32) (x4 : Int32) (x5 : Int32) (w6 : Int64) (hF : FOK F) (q : Int32), mX12_message_91 n I J x1 x2 x3 x4 x5 w6 = some q → E l K g 1 0 0 yX12_message cX12_message 8 (some .int) 91 [.ref 186, .int x1, .int x2, .int x3, .int x4, .int x5, .long w6, .null] [] (hg IA I J F) (fun r2 h2 => r2 = some (.int q) ∧ h2 = hg IA I J F) := by
  intro n
  induction n with
  | zero => intro I J x1 x2 x3 x4 x5 w6 hF q hm; cases hm
  | succ n ih =>
    intro I J x1 x2 x3 x4 x5 w6 hF q hm
    rw [mX12_message_91] at hm
    refine e_lload (i := 6) rfl dX12_message_91 ?_
    refine e_lconst (v := 0) (by decide) dX12_message_93 ?_
    refine e_lcmp dX12_message_94 ?_
    refine e_if_eq 111 dX12_message_95 (by decide) (fun c_95 => ?_) (fun c_95 => ?_)
    · have hm := it_p c_95 hm
      refine e_iload_n (i := 3) rfl dX12_message_111 ?_
      refine e_if_ne 123 dX12_message_112 (by decide) (fun c_112 => ?_) (fun c_112 => ?_)
      · have hm := it_n c_112 hm
        refine e_iload_n (i := 3) rfl dX12_message_123 ?_
        refine e_iconst (v := 1) (by decide) dX12_message_124 ?_
        refine e_icmp_ne 177 dX12_message_125 (by decide) (fun c_125 => ?_) (fun c_125 => ?_)
        · have hm := it_n c_125 hm
          refine e_iload_n (i := 3) rfl dX12_message_177 ?_
          refine e_bipush (v := 100) (by decide) dX12_message_178 ?_
          refine e_bipush (v := 99) (by decide) dX12_message_180 ?_
          refine e_iload (i := 5) rfl dX12_message_182 ?_
          refine e_iadd dX12_message_184 ?_
          obtain ⟨q1, eq1, hm⟩ := ob_some hm
          refine e_cS3 hko dX12_message_185 ml_RX12_154 (by omega) (Nat.le_of_ble_eq_true rfl) (tX12_isIn hko I J F hF x3 100 (99 + x5) _ eq1) ?_
          rintro _ _ ⟨rfl, rfl⟩
          refine e_if_eq 219 dX12_message_188 (by decide) (fun c_188 => ?_) (fun c_188 => ?_)
          · have hm := it_p c_188 hm
            refine e_iconst (v := (-1)) (by decide) dX12_message_219 ?_
            refine e_iret dX12_message_220 rfl ?_
            have hm := some_in hm
            subst hm
            exact ⟨rfl, rfl⟩
          · have hm := it_n c_188 hm
            refine e_aload_n (i := 0) rfl dX12_message_191 ?_
            refine q_getF 12 72 226 dX12_message_192 fl_RX12_133 rfl iz_186 (fr_186_72 hF) ?_
            refine e_iload (i := 4) rfl dX12_message_195 ?_
            obtain ⟨c_197, hm⟩ := gd_s hm
            refine q_lald dX12_message_197 iz_226 (inb_in ln_226 c_197) ?_
            refine e_bipush (v := 8) (by decide) dX12_message_198 ?_
            refine e_iload (i := 5) rfl dX12_message_200 ?_
            refine e_iconst (v := 1) (by decide) dX12_message_202 ?_
            refine e_isub dX12_message_203 ?_
            refine e_iload_n (i := 3) rfl dX12_message_204 ?_
            refine e_bipush (v := 100) (by decide) dX12_message_205 ?_
            refine e_isub dX12_message_207 ?_
            refine e_isub dX12_message_208 ?_
            refine e_imul dX12_message_209 ?_
            refine e_lshr dX12_message_210 ?_
            refine e_ldc2 kc_RX12_539 dX12_message_211 ?_
            refine e_land dX12_message_214 ?_
            refine e_l2i dX12_message_215 ?_
            refine e_goto 220 dX12_message_216 (by decide) ?_
            refine e_iret dX12_message_220 rfl ?_
            have hm := some_in hm
            subst hm
            exact ⟨rfl, rfl⟩
        · have hm := it_p c_125 hm
          refine e_aload_n (i := 0) rfl dX12_message_128 ?_
          refine q_getF 12 69 223 dX12_message_129 fl_RX12_124 rfl iz_186 (fr_186_69 hF) ?_
          refine e_iload (i := 4) rfl dX12_message_132 ?_
          obtain ⟨c_134, hm⟩ := gd_s hm
          refine l_iald dX12_message_134 iz_223 (inb_in ln_223 c_134) (by decide) ?_
          refine e_iconst (v := 2) (by decide) dX12_message_135 ?_
          refine e_icmp_ne 144 dX12_message_136 (by decide) (fun c_136 => ?_) (fun c_136 => ?_)
          · have hm := it_n c_136 hm
            refine e_aload_n (i := 0) rfl dX12_message_144 ?_
            refine q_getF 12 69 223 dX12_message_145 fl_RX12_124 rfl iz_186 (fr_186_69 hF) ?_
            refine e_iload (i := 4) rfl dX12_message_148 ?_
            obtain ⟨c_150, hm⟩ := gd_s hm
            refine l_iald dX12_message_150 iz_223 (inb_in ln_223 c_150) (by decide) ?_
            refine e_iconst (v := 1) (by decide) dX12_message_151 ?_
            refine e_icmp_ne 169 dX12_message_152 (by decide) (fun c_152 => ?_) (fun c_152 => ?_)
            · have hm := it_n c_152 hm
              refine e_aload_n (i := 0) rfl dX12_message_169 ?_
              refine q_getF 12 70 224 dX12_message_170 fl_RX12_127 rfl iz_186 (fr_186_70 hF) ?_
              refine e_iload (i := 4) rfl dX12_message_173 ?_
              obtain ⟨c_175, hm⟩ := gd_s hm
              refine l_iald dX12_message_175 iz_224 (inb_in ln_224 c_175) (by decide) ?_
              refine e_iret dX12_message_176 rfl ?_
              have hm := some_in hm
              subst hm
              exact ⟨rfl, rfl⟩
            · have hm := it_p c_152 hm
              refine e_aload_n (i := 0) rfl dX12_message_155 ?_
              refine e_aload_n (i := 0) rfl dX12_message_156 ?_
              refine q_getF 12 70 224 dX12_message_157 fl_RX12_127 rfl iz_186 (fr_186_70 hF) ?_
              refine e_iload (i := 4) rfl dX12_message_160 ?_
              obtain ⟨c_162, hm⟩ := gd_s hm
              refine l_iald dX12_message_162 iz_224 (inb_in ln_224 c_162) (by decide) ?_
              obtain ⟨q2, eq2, hm⟩ := ob_some hm
              refine e_cV1 hko dX12_message_163 ml_RX12_469 iz_186 (by decide) rfl (by omega) (Nat.le_of_ble_eq_true rfl) (tX12_real hko I J F hF (I 224 x4.toNatClampNeg) _ eq2) ?_
              rintro _ _ ⟨rfl, rfl⟩
              refine e_goto 176 dX12_message_166 (by decide) ?_
              refine e_iret dX12_message_176 rfl ?_
              have hm := some_in hm
              subst hm
              exact ⟨rfl, rfl⟩
          · have hm := it_p c_136 hm
            refine e_iload (i := 5) rfl dX12_message_139 ?_
            refine e_goto 176 dX12_message_141 (by decide) ?_
            refine e_iret dX12_message_176 rfl ?_
            have hm := some_in hm
            subst hm
            exact ⟨rfl, rfl⟩
      · have hm := it_p c_112 hm
        refine e_aload_n (i := 0) rfl dX12_message_115 ?_
        refine q_getF 12 69 223 dX12_message_116 fl_RX12_124 rfl iz_186 (fr_186_69 hF) ?_
        refine e_iload (i := 4) rfl dX12_message_119 ?_
        obtain ⟨c_121, hm⟩ := gd_s hm
        refine l_iald dX12_message_121 iz_223 (inb_in ln_223 c_121) (by decide) ?_
        refine e_iret dX12_message_122 rfl ?_
        have hm := some_in hm
        subst hm
        exact ⟨rfl, rfl⟩
    · have hm := it_n c_95 hm
      refine q_iinc (i := 5) (x5 + 1) rfl ic_1 rfl dX12_message_98 ?_
      refine e_lload (i := 6) rfl dX12_message_101 ?_
      refine e_bipush (v := 8) (by decide) dX12_message_103 ?_
      refine e_lshr dX12_message_105 ?_
      refine e_lstore (i := 6) (by decide) dX12_message_106 ?_
      refine e_goto 91 dX12_message_108 (by decide) ?_
      refine e_weak [.ref 186, .int x1, .int x2, .int x3, .int x4, .int (x5 + 1), .long (w6 >>> ((Int32.toInt64 8) &&& 63)), .null] ⟨rfl, ⟨rfl, ⟨rfl, ⟨rfl, ⟨rfl, ⟨rfl, ⟨rfl, ⟨trivial, trivial⟩⟩⟩⟩⟩⟩⟩⟩ ?_
      exact ih I J x1 x2 x3 x4 (x5 + 1) (w6 >>> ((Int32.toInt64 8) &&& 63)) hF _ hm
set_option maxRecDepth 100000 in
set_option maxHeartbeats 4000000 in
theorem tX12_message_71 {l : Launch} {K : a_KT} {g : a_GT} {IA : iT} (hko : a_kok K) {F : fT} (I : iT) (J : jT) (x1 : Int32) (x2 : Int32) (x3 : Int32) (x4 : Int32) (x5 : Int32) (hF : FOK F) (q : Int32) (hm : mX12_message_71 I J x1 x2 x3 x4 x5 = some q) : E l K g 1 0 0 yX12_message cX12_message 8 (some .int) 71 [.ref 186, .int x1, .int x2, .int x3, .int x4, .int x5, .null, .null] [] (hg IA I J F) (fun r2 h2 => r2 = some (.int q) ∧ h2 = hg IA I J F) := by
  unfold mX12_message_71 at hm
  refine e_iload (i := 4) rfl dX12_message_71 ?_
  refine e_iconst (v := (-1)) (by decide) dX12_message_73 ?_
  refine e_icmp_ne 79 dX12_message_74 (by decide) (fun c_74 => ?_) (fun c_74 => ?_)
  · have hm := it_n c_74 hm
    refine e_iconst (v := 0) (by decide) dX12_message_79 ?_
    refine q_istore (i := 5) (by decide) rfl dX12_message_80 ?_
    refine e_aload_n (i := 0) rfl dX12_message_82 ?_
    refine q_getF 12 72 226 dX12_message_83 fl_RX12_133 rfl iz_186 (fr_186_72 hF) ?_
    refine e_iload (i := 4) rfl dX12_message_86 ?_
    obtain ⟨c_88, hm⟩ := gd_s hm
    refine q_lald dX12_message_88 iz_226 (inb_in ln_226 c_88) ?_
    refine e_lstore (i := 6) (by decide) dX12_message_89 ?_
    refine e_weak [.ref 186, .int x1, .int x2, .int x3, .int x4, .int 0, .long (J 226 x4.toNatClampNeg), .null] ⟨rfl, ⟨rfl, ⟨rfl, ⟨rfl, ⟨rfl, ⟨rfl, ⟨rfl, ⟨trivial, trivial⟩⟩⟩⟩⟩⟩⟩⟩ ?_
    exact tX12_message_91 hko LF I J x1 x2 x3 x4 0 (J 226 x4.toNatClampNeg) hF _ hm
  · have hm := it_p c_74 hm
    refine e_iconst (v := (-1)) (by decide) dX12_message_77 ?_
    refine e_iret dX12_message_78 rfl ?_
    have hm := some_in hm
    subst hm
    exact ⟨rfl, rfl⟩
set_option maxRecDepth 100000 in
set_option maxHeartbeats 4000000 in
theorem tX12_message_44 {l : Launch} {K : a_KT} {g : a_GT} {IA : iT} (hko : a_kok K) {F : fT} : ∀ (n : Nat) (I : iT) (J : jT) (x1 : Int32) (x2 : Int32) (x3 : Int32) (x4 : Int32) (x5 : Int32) (hF : FOK F) (q : Int32), mX12_message_44 n I J x1 x2 x3 x4 x5 = some q → E l K g 1 0 0 yX12_message cX12_message 8 (some .int) 44 [.ref 186, .int x1, .int x2, .int x3, .int x4, .int x5, .null, .null] [] (hg IA I J F) (fun r2 h2 => r2 = some (.int q) ∧ h2 = hg IA I J F) := by
  intro n
  induction n with
  | zero => intro I J x1 x2 x3 x4 x5 hF q hm; cases hm
  | succ n ih =>
    intro I J x1 x2 x3 x4 x5 hF q hm
    rw [mX12_message_44] at hm
    refine e_iload (i := 5) rfl dX12_message_44 ?_
    refine e_iload_n (i := 2) rfl dX12_message_46 ?_
    refine e_icmp_ge 71 dX12_message_47 (by decide) (fun c_47 => ?_) (fun c_47 => ?_)
    · have hm := it_p c_47 hm
      refine e_weak [.ref 186, .int x1, .int x2, .int x3, .int x4, .int x5, .null, .null] ⟨rfl, ⟨rfl, ⟨rfl, ⟨rfl, ⟨rfl, ⟨rfl, ⟨trivial, ⟨trivial, trivial⟩⟩⟩⟩⟩⟩⟩⟩ ?_
      exact tX12_message_71 hko I J x1 x2 x3 x4 x5 hF _ hm
    · have hm := it_n c_47 hm
      refine e_iload (i := 4) rfl dX12_message_50 ?_
      refine e_iconst (v := (-1)) (by decide) dX12_message_52 ?_
      refine e_icmp_eq 71 dX12_message_53 (by decide) (fun c_53 => ?_) (fun c_53 => ?_)
      · have hm := it_p c_53 hm
        refine e_weak [.ref 186, .int x1, .int x2, .int x3, .int x4, .int x5, .null, .null] ⟨rfl, ⟨rfl, ⟨rfl, ⟨rfl, ⟨rfl, ⟨rfl, ⟨trivial, ⟨trivial, trivial⟩⟩⟩⟩⟩⟩⟩⟩ ?_
        exact tX12_message_71 hko I J x1 x2 x3 x4 x5 hF _ hm
      · have hm := it_n c_53 hm
        refine e_aload_n (i := 0) rfl dX12_message_56 ?_
        refine q_getF 12 71 225 dX12_message_57 fl_RX12_130 rfl iz_186 (fr_186_71 hF) ?_
        refine e_iload (i := 4) rfl dX12_message_60 ?_
        obtain ⟨c_62, hm⟩ := gd_s hm
        refine l_iald dX12_message_62 iz_225 (inb_in ln_225 c_62) (by decide) ?_
        refine q_istore (i := 4) (by decide) rfl dX12_message_63 ?_
        refine q_iinc (i := 5) (x5 + 1) rfl ic_1 rfl dX12_message_65 ?_
        refine e_goto 44 dX12_message_68 (by decide) ?_
        refine e_weak [.ref 186, .int x1, .int x2, .int x3, .int (I 225 x4.toNatClampNeg), .int (x5 + 1), .null, .null] ⟨rfl, ⟨rfl, ⟨rfl, ⟨rfl, ⟨rfl, ⟨rfl, ⟨trivial, ⟨trivial, trivial⟩⟩⟩⟩⟩⟩⟩⟩ ?_
        exact ih I J x1 x2 x3 (I 225 x4.toNatClampNeg) (x5 + 1) hF _ hm
set_option maxRecDepth 100000 in
set_option maxHeartbeats 4000000 in
theorem tX12_message {l : Launch} {K : a_KT} {g : a_GT} {IA : iT} (hko : a_kok K) (I : iT) (J : jT) (F : fT) (hF : FOK F) (x1 : Int32) (x2 : Int32) (x3 : Int32) (q : Int32) (hm : mX12_message I J x1 x2 x3 = some q) : C l K g 1 0 0 yX12_message cX12_message 8 (some .int) [.ref 186, .int x1, .int x2, .int x3] (hg IA I J F) (fun r2 h2 => r2 = some (.int q) ∧ h2 = hg IA I J F) := by
  unfold mX12_message at hm
  refine c_of [.ref 186, .int x1, .int x2, .int x3, .null, .null, .null, .null] (by decide) (Nat.le_of_ble_eq_true rfl) rfl ?_
  refine e_aload_n (i := 0) rfl dX12_message_0 ?_
  refine l_getI 12 33 dX12_message_1 fl_RX12_414 rfl iz_186 (by decide) ?_
  refine e_if_eq 25 dX12_message_4 (by decide) (fun c_4 => ?_) (fun c_4 => ?_)
  · have hm := it_p c_4 hm
    refine e_iconst (v := (-1)) (by decide) dX12_message_25 ?_
    refine e_iret dX12_message_26 rfl ?_
    have hm := some_in hm
    subst hm
    exact ⟨rfl, rfl⟩
  · have hm := it_n c_4 hm
    refine e_iload_n (i := 1) rfl dX12_message_7 ?_
    refine e_iconst (v := 0) (by decide) dX12_message_8 ?_
    refine e_aload_n (i := 0) rfl dX12_message_9 ?_
    refine l_getI 12 61 dX12_message_10 fl_RX12_421 rfl iz_186 (by decide) ?_
    refine e_iconst (v := 1) (by decide) dX12_message_13 ?_
    refine e_isub dX12_message_14 ?_
    obtain ⟨q3, eq3, hm⟩ := ob_some hm
    refine e_cS3 hko dX12_message_15 ml_RX12_154 (by omega) (Nat.le_of_ble_eq_true rfl) (tX12_isIn hko I J F hF x1 0 ((I 186 61) - 1) _ eq3) ?_
    rintro _ _ ⟨rfl, rfl⟩
    refine e_if_eq 25 dX12_message_18 (by decide) (fun c_18 => ?_) (fun c_18 => ?_)
    · have hm := it_p c_18 hm
      refine e_iconst (v := (-1)) (by decide) dX12_message_25 ?_
      refine e_iret dX12_message_26 rfl ?_
      have hm := some_in hm
      subst hm
      exact ⟨rfl, rfl⟩
    · have hm := it_n c_18 hm
      refine e_iload_n (i := 2) rfl dX12_message_21 ?_
      refine e_if_ge 27 dX12_message_22 (by decide) (fun c_22 => ?_) (fun c_22 => ?_)
      · have hm := it_p c_22 hm
        refine e_aload_n (i := 0) rfl dX12_message_27 ?_
        refine q_getF 12 67 221 dX12_message_28 fl_RX12_118 rfl iz_186 (fr_186_67 hF) ?_
        refine e_iconst (v := 2) (by decide) dX12_message_31 ?_
        refine e_aload_n (i := 0) rfl dX12_message_32 ?_
        refine e_iload_n (i := 1) rfl dX12_message_33 ?_
        obtain ⟨q4, eq4, hm⟩ := ob_some hm
        refine e_cV1 hko dX12_message_34 ml_RX12_469 iz_186 (by decide) rfl (by omega) (Nat.le_of_ble_eq_true rfl) (tX12_real hko I J F hF x1 _ eq4) ?_
        rintro _ _ ⟨rfl, rfl⟩
        refine e_imul dX12_message_37 ?_
        obtain ⟨c_38, hm⟩ := gd_s hm
        refine l_iald dX12_message_38 iz_221 (inb_in ln_221 c_38) (by decide) ?_
        refine q_istore (i := 4) (by decide) rfl dX12_message_39 ?_
        refine e_iconst (v := 0) (by decide) dX12_message_41 ?_
        refine q_istore (i := 5) (by decide) rfl dX12_message_42 ?_
        refine e_weak [.ref 186, .int x1, .int x2, .int x3, .int (I 221 (2 * q4).toNatClampNeg), .int 0, .null, .null] ⟨rfl, ⟨rfl, ⟨rfl, ⟨rfl, ⟨rfl, ⟨rfl, ⟨trivial, ⟨trivial, trivial⟩⟩⟩⟩⟩⟩⟩⟩ ?_
        exact tX12_message_44 hko LF I J x1 x2 x3 (I 221 (2 * q4).toNatClampNeg) 0 hF _ hm
      · have hm := it_n c_22 hm
        refine e_iconst (v := (-1)) (by decide) dX12_message_25 ?_
        refine e_iret dX12_message_26 rfl ?_
        have hm := some_in hm
        subst hm
        exact ⟨rfl, rfl⟩
theorem dX12_out_0 : decode cX12_out 0 = .ok (.iload_n 1, 1) := by decide +kernel
theorem dX12_out_1 : decode cX12_out 1 = .ok (.iconst 0, 1) := by decide +kernel
theorem dX12_out_2 : decode cX12_out 2 = .ok (.aload_n 0, 1) := by decide +kernel
theorem dX12_out_3 : decode cX12_out 3 = .ok (.getfield 536, 3) := by decide +kernel
theorem dX12_out_6 : decode cX12_out 6 = .ok (.iconst 1, 1) := by decide +kernel
theorem dX12_out_7 : decode cX12_out 7 = .ok (.isub, 1) := by decide +kernel
theorem dX12_out_8 : decode cX12_out 8 = .ok (.invokestatic 154, 3) := by decide +kernel
theorem dX12_out_11 : decode cX12_out 11 = .ok (.ifCond .eq 12, 3) := by decide +kernel
theorem dX12_out_14 : decode cX12_out 14 = .ok (.aload_n 0, 1) := by decide +kernel
theorem dX12_out_15 : decode cX12_out 15 = .ok (.getfield 148, 3) := by decide +kernel
theorem dX12_out_18 : decode cX12_out 18 = .ok (.iload_n 1, 1) := by decide +kernel
theorem dX12_out_19 : decode cX12_out 19 = .ok (.iaload, 1) := by decide +kernel
theorem dX12_out_20 : decode cX12_out 20 = .ok (.goto 4, 3) := by decide +kernel
theorem dX12_out_23 : decode cX12_out 23 = .ok (.iconst (-1), 1) := by decide +kernel
theorem dX12_out_24 : decode cX12_out 24 = .ok (.ireturn, 1) := by decide +kernel
def mX12_out (I : iT) (x1 : Int32) : Option (Int32) := (mX12_isIn x1 0 ((I 186 80) - 1)).bind fun q1 => if q1 = 0 then some ((-1)) else if inb x1 8000 then some (I 231 x1.toNatClampNeg) else none
set_option maxRecDepth 100000 in
set_option maxHeartbeats 4000000 in
theorem tX12_out {l : Launch} {K : a_KT} {g : a_GT} {IA : iT} (hko : a_kok K) (I : iT) (J : jT) (F : fT) (hF : FOK F) (x1 : Int32) (q : Int32) (hm : mX12_out I x1 = some q) : C l K g 1 0 0 yX12_out cX12_out 2 (some .int) [.ref 186, .int x1] (hg IA I J F) (fun r2 h2 => r2 = some (.int q) ∧ h2 = hg IA I J F) := by
  unfold mX12_out at hm
  refine c_of [.ref 186, .int x1] (by decide) (Nat.le_of_ble_eq_true rfl) rfl ?_
  refine e_iload_n (i := 1) rfl dX12_out_0 ?_
  refine e_iconst (v := 0) (by decide) dX12_out_1 ?_
  refine e_aload_n (i := 0) rfl dX12_out_2 ?_
  refine l_getI 12 80 dX12_out_3 fl_RX12_536 rfl iz_186 (by decide) ?_
  refine e_iconst (v := 1) (by decide) dX12_out_6 ?_
  refine e_isub dX12_out_7 ?_
  obtain ⟨q1, eq1, hm⟩ := ob_some hm
  refine e_cS3 hko dX12_out_8 ml_RX12_154 (by omega) (Nat.le_of_ble_eq_true rfl) (tX12_isIn hko I J F hF x1 0 ((I 186 80) - 1) _ eq1) ?_
  rintro _ _ ⟨rfl, rfl⟩
  refine e_if_eq 23 dX12_out_11 (by decide) (fun c_11 => ?_) (fun c_11 => ?_)
  · have hm := it_p c_11 hm
    refine e_iconst (v := (-1)) (by decide) dX12_out_23 ?_
    refine e_iret dX12_out_24 rfl ?_
    have hm := some_in hm
    subst hm
    exact ⟨rfl, rfl⟩
  · have hm := it_n c_11 hm
    refine e_aload_n (i := 0) rfl dX12_out_14 ?_
    refine q_getF 12 79 231 dX12_out_15 fl_RX12_148 rfl iz_186 (fr_186_79 hF) ?_
    refine e_iload_n (i := 1) rfl dX12_out_18 ?_
    obtain ⟨c_19, hm⟩ := gd_s hm
    refine l_iald dX12_out_19 iz_231 (inb_in ln_231 c_19) (by decide) ?_
    refine e_goto 24 dX12_out_20 (by decide) ?_
    refine e_iret dX12_out_24 rfl ?_
    have hm := some_in hm
    subst hm
    exact ⟨rfl, rfl⟩
theorem dX12_say_0 : decode cX12_say 0 = .ok (.aload_n 0, 1) := by decide +kernel
theorem dX12_say_1 : decode cX12_say 1 = .ok (.getfield 148, 3) := by decide +kernel
theorem dX12_say_4 : decode cX12_say 4 = .ok (.aload_n 0, 1) := by decide +kernel
theorem dX12_say_5 : decode cX12_say 5 = .ok (.getfield 536, 3) := by decide +kernel
theorem dX12_say_8 : decode cX12_say 8 = .ok (.iload_n 1, 1) := by decide +kernel
theorem dX12_say_9 : decode cX12_say 9 = .ok (.iastore, 1) := by decide +kernel
theorem dX12_say_10 : decode cX12_say 10 = .ok (.aload_n 0, 1) := by decide +kernel
theorem dX12_say_11 : decode cX12_say 11 = .ok (.dup, 1) := by decide +kernel
theorem dX12_say_12 : decode cX12_say 12 = .ok (.getfield 536, 3) := by decide +kernel
theorem dX12_say_15 : decode cX12_say 15 = .ok (.iconst 1, 1) := by decide +kernel
theorem dX12_say_16 : decode cX12_say 16 = .ok (.iadd, 1) := by decide +kernel
theorem dX12_say_17 : decode cX12_say 17 = .ok (.putfield 536, 3) := by decide +kernel
theorem dX12_say_20 : decode cX12_say 20 = .ok (.return_, 1) := by decide +kernel
def mX12_say (I : iT) (x1 : Int32) : Option (iT) := if inb (I 186 80) 8000 then some (a_u2 (a_u2 I 231 (I 186 80).toNatClampNeg x1) 186 80 (((a_u2 I 231 (I 186 80).toNatClampNeg x1) 186 80) + 1)) else none
set_option maxRecDepth 100000 in
set_option maxHeartbeats 4000000 in
theorem tX12_say {l : Launch} {K : a_KT} {g : a_GT} {IA : iT} (hko : a_kok K) (I : iT) (J : jT) (F : fT) (hF : FOK F) (x1 : Int32) (q : iT) (hm : mX12_say I x1 = some q) : C l K g 0 0 0 yX12_say cX12_say 2 none [.ref 186, .int x1] (hg IA I J F) (fun r2 h2 => r2 = none ∧ h2 = hg IA q J F) := by
  unfold mX12_say at hm
  refine c_of [.ref 186, .int x1] (by decide) (Nat.le_of_ble_eq_true rfl) rfl ?_
  refine e_aload_n (i := 0) rfl dX12_say_0 ?_
  refine q_getF 12 79 231 dX12_say_1 fl_RX12_148 rfl iz_186 (fr_186_79 hF) ?_
  refine e_aload_n (i := 0) rfl dX12_say_4 ?_
  refine l_getI 12 80 dX12_say_5 fl_RX12_536 rfl iz_186 (by decide) ?_
  refine e_iload_n (i := 1) rfl dX12_say_8 ?_
  obtain ⟨c_9, hm⟩ := gd_s hm
  refine l_iast dX12_say_9 iz_231 (inb_in ln_231 c_9) (by decide) ?_
  refine e_aload_n (i := 0) rfl dX12_say_10 ?_
  refine e_dup rfl dX12_say_11 ?_
  refine l_getI 12 80 dX12_say_12 fl_RX12_536 rfl iz_186 (by decide) ?_
  refine e_iconst (v := 1) (by decide) dX12_say_15 ?_
  refine e_iadd dX12_say_16 ?_
  refine l_putI 12 80 dX12_say_17 fl_RX12_536 rfl rfl iz_186 (by decide) ?_
  refine e_vret dX12_say_20 rfl ?_
  have hm := some_in hm
  subst hm
  exact ⟨rfl, rfl⟩
theorem dX12_sayName_0 : decode cX12_sayName 0 = .ok (.bipush 40, 2) := by decide +kernel
theorem dX12_sayName_2 : decode cX12_sayName 2 = .ok (.istore_n 3, 1) := by decide +kernel
theorem dX12_sayName_3 : decode cX12_sayName 3 = .ok (.iload_n 3, 1) := by decide +kernel
theorem dX12_sayName_4 : decode cX12_sayName 4 = .ok (.ifCond .lt 33, 3) := by decide +kernel
theorem dX12_sayName_7 : decode cX12_sayName 7 = .ok (.lload_n 1, 1) := by decide +kernel
theorem dX12_sayName_8 : decode cX12_sayName 8 = .ok (.iload_n 3, 1) := by decide +kernel
theorem dX12_sayName_9 : decode cX12_sayName 9 = .ok (.lshr, 1) := by decide +kernel
theorem dX12_sayName_10 : decode cX12_sayName 10 = .ok (.ldc2_w 539, 3) := by decide +kernel
theorem dX12_sayName_13 : decode cX12_sayName 13 = .ok (.land, 1) := by decide +kernel
theorem dX12_sayName_14 : decode cX12_sayName 14 = .ok (.lconst 0, 1) := by decide +kernel
theorem dX12_sayName_15 : decode cX12_sayName 15 = .ok (.lcmp, 1) := by decide +kernel
theorem dX12_sayName_16 : decode cX12_sayName 16 = .ok (.ifCond .eq 15, 3) := by decide +kernel
theorem dX12_sayName_19 : decode cX12_sayName 19 = .ok (.aload_n 0, 1) := by decide +kernel
theorem dX12_sayName_20 : decode cX12_sayName 20 = .ok (.lload_n 1, 1) := by decide +kernel
theorem dX12_sayName_21 : decode cX12_sayName 21 = .ok (.iload_n 3, 1) := by decide +kernel
theorem dX12_sayName_22 : decode cX12_sayName 22 = .ok (.lshr, 1) := by decide +kernel
theorem dX12_sayName_23 : decode cX12_sayName 23 = .ok (.ldc2_w 539, 3) := by decide +kernel
theorem dX12_sayName_26 : decode cX12_sayName 26 = .ok (.land, 1) := by decide +kernel
theorem dX12_sayName_27 : decode cX12_sayName 27 = .ok (.l2i, 1) := by decide +kernel
theorem dX12_sayName_28 : decode cX12_sayName 28 = .ok (.invokevirtual 541, 3) := by decide +kernel
theorem dX12_sayName_31 : decode cX12_sayName 31 = .ok (.iinc 3 (-8), 3) := by decide +kernel
theorem dX12_sayName_34 : decode cX12_sayName 34 = .ok (.goto (-31), 3) := by decide +kernel
theorem dX12_sayName_37 : decode cX12_sayName 37 = .ok (.return_, 1) := by decide +kernel
def mX12_sayName_31 (k3 : iT → Int64 → Int32 → Option (iT)) (I : iT) (w1 : Int64) (x3 : Int32) : Option (iT) := k3 I w1 (x3 + (-8))
def mX12_sayName_3 : Nat → iT → Int64 → Int32 → Option (iT)
  | 0, _, _, _ => none
  | n + 1, I, w1, x3 => if x3 < 0 then some I else if (lg_cmp ((w1 >>> (x3.toInt64 &&& 63)) &&& 255) 0) = 0 then mX12_sayName_31 (mX12_sayName_3 n) I w1 x3 else (mX12_say I (((w1 >>> (x3.toInt64 &&& 63)) &&& 255).toInt32)).bind fun q1 => mX12_sayName_31 (mX12_sayName_3 n) q1 w1 x3
def mX12_sayName (I : iT) (w1 : Int64) : Option (iT) := mX12_sayName_3 LF I w1 40
set_option maxRecDepth 100000 in
set_option maxHeartbeats 4000000 in
theorem tX12_sayName_31 {l : Launch} {K : a_KT} {g : a_GT} {IA : iT} (hko : a_kok K) {J : jT} {F : fT} {k3 : iT → Int64 → Int32 → Option (iT)} (hk3 : ∀ (I : iT) (w1 : Int64) (x3 : Int32) (_ : FOK F) (q : iT), k3 I w1 x3 = some q → E l K g 1 0 0 yX12_sayName cX12_sayName 4 none 3 [.ref 186, .long w1, .null, .int x3] [] (hg IA I J F) (fun r2 h2 => r2 = none ∧ h2 = hg IA q J F)) (I : iT) (w1 : Int64) (x3 : Int32) (hF : FOK F) (q : iT) (hm : mX12_sayName_31 k3 I w1 x3 = some q) : E l K g 1 0 0 yX12_sayName cX12_sayName 4 none 31 [.ref 186, .long w1, .null, .int x3] [] (hg IA I J F) (fun r2 h2 => r2 = none ∧ h2 = hg IA q J F) := by
  unfold mX12_sayName_31 at hm
  refine q_iinc (i := 3) (x3 + (-8)) rfl ic_m8 rfl dX12_sayName_31 ?_
  refine e_goto 3 dX12_sayName_34 (by decide) ?_
  refine e_weak [.ref 186, .long w1, .null, .int (x3 + (-8))] ⟨rfl, ⟨rfl, ⟨trivial, ⟨rfl, trivial⟩⟩⟩⟩ ?_
  exact hk3 I w1 (x3 + (-8)) hF _ hm
set_option maxRecDepth 100000 in
set_option maxHeartbeats 4000000 in
theorem tX12_sayName_3 {l : Launch} {K : a_KT} {g : a_GT} {IA : iT} (hko : a_kok K) {J : jT} {F : fT} : ∀ (n : Nat) (I : iT) (w1 : Int64) (x3 : Int32) (hF : FOK F) (q : iT), mX12_sayName_3 n I w1 x3 = some q → E l K g 1 0 0 yX12_sayName cX12_sayName 4 none 3 [.ref 186, .long w1, .null, .int x3] [] (hg IA I J F) (fun r2 h2 => r2 = none ∧ h2 = hg IA q J F) := by
  intro n
  induction n with
  | zero => intro I w1 x3 hF q hm; cases hm
  | succ n ih =>
    intro I w1 x3 hF q hm
    rw [mX12_sayName_3] at hm
    refine e_iload_n (i := 3) rfl dX12_sayName_3 ?_
    refine e_if_lt 37 dX12_sayName_4 (by decide) (fun c_4 => ?_) (fun c_4 => ?_)
    · have hm := it_p c_4 hm
      refine e_vret dX12_sayName_37 rfl ?_
      have hm := some_in hm
      subst hm
      exact ⟨rfl, rfl⟩
    · have hm := it_n c_4 hm
      refine e_lload_n (i := 1) rfl dX12_sayName_7 ?_
      refine e_iload_n (i := 3) rfl dX12_sayName_8 ?_
      refine e_lshr dX12_sayName_9 ?_
      refine e_ldc2 kc_RX12_539 dX12_sayName_10 ?_
      refine e_land dX12_sayName_13 ?_
      refine e_lconst (v := 0) (by decide) dX12_sayName_14 ?_
      refine e_lcmp dX12_sayName_15 ?_
      refine e_if_eq 31 dX12_sayName_16 (by decide) (fun c_16 => ?_) (fun c_16 => ?_)
      · have hm := it_p c_16 hm
        refine e_weak [.ref 186, .long w1, .null, .int x3] ⟨rfl, ⟨rfl, ⟨trivial, ⟨rfl, trivial⟩⟩⟩⟩ ?_
        exact tX12_sayName_31 hko (ih) I w1 x3 hF _ hm
      · have hm := it_n c_16 hm
        refine e_aload_n (i := 0) rfl dX12_sayName_19 ?_
        refine e_lload_n (i := 1) rfl dX12_sayName_20 ?_
        refine e_iload_n (i := 3) rfl dX12_sayName_21 ?_
        refine e_lshr dX12_sayName_22 ?_
        refine e_ldc2 kc_RX12_539 dX12_sayName_23 ?_
        refine e_land dX12_sayName_26 ?_
        refine e_l2i dX12_sayName_27 ?_
        obtain ⟨q1, eq1, hm⟩ := ob_some hm
        refine e_cV1 hko dX12_sayName_28 ml_RX12_541 iz_186 (by decide) rfl (by omega) (Nat.le_of_ble_eq_true rfl) (tX12_say hko I J F hF (((w1 >>> (x3.toInt64 &&& 63)) &&& 255).toInt32) _ eq1) ?_
        rintro _ _ ⟨rfl, rfl⟩
        refine e_weak [.ref 186, .long w1, .null, .int x3] ⟨rfl, ⟨rfl, ⟨trivial, ⟨rfl, trivial⟩⟩⟩⟩ ?_
        exact tX12_sayName_31 hko (ih) q1 w1 x3 hF _ hm
set_option maxRecDepth 100000 in
set_option maxHeartbeats 4000000 in
theorem tX12_sayName {l : Launch} {K : a_KT} {g : a_GT} {IA : iT} (hko : a_kok K) (I : iT) (J : jT) (F : fT) (hF : FOK F) (w1 : Int64) (q : iT) (hm : mX12_sayName I w1 = some q) : C l K g 1 0 0 yX12_sayName cX12_sayName 4 none [.ref 186, .long w1] (hg IA I J F) (fun r2 h2 => r2 = none ∧ h2 = hg IA q J F) := by
  unfold mX12_sayName at hm
  refine c_of [.ref 186, .long w1, .null, .null] (by decide) (Nat.le_of_ble_eq_true rfl) rfl ?_
  refine e_bipush (v := 40) (by decide) dX12_sayName_0 ?_
  refine q_istore_n (i := 3) (by decide) rfl dX12_sayName_2 ?_
  refine e_weak [.ref 186, .long w1, .null, .int 40] ⟨rfl, ⟨rfl, ⟨trivial, ⟨rfl, trivial⟩⟩⟩⟩ ?_
  exact tX12_sayName_3 hko LF I w1 40 hF _ hm
theorem dX12_sayType_0 : decode cX12_sayType 0 = .ok (.aload_n 0, 1) := by decide +kernel
theorem dX12_sayType_1 : decode cX12_sayType 1 = .ok (.getfield 17, 3) := by decide +kernel
theorem dX12_sayType_4 : decode cX12_sayType 4 = .ok (.iload_n 1, 1) := by decide +kernel
theorem dX12_sayType_5 : decode cX12_sayType 5 = .ok (.iaload, 1) := by decide +kernel
theorem dX12_sayType_6 : decode cX12_sayType 6 = .ok (.istore_n 2, 1) := by decide +kernel
theorem dX12_sayType_7 : decode cX12_sayType 7 = .ok (.iload_n 2, 1) := by decide +kernel
theorem dX12_sayType_8 : decode cX12_sayType 8 = .ok (.iconst 1, 1) := by decide +kernel
theorem dX12_sayType_9 : decode cX12_sayType 9 = .ok (.if_icmp .ne 11, 3) := by decide +kernel
theorem dX12_sayType_12 : decode cX12_sayType 12 = .ok (.aload_n 0, 1) := by decide +kernel
theorem dX12_sayType_13 : decode cX12_sayType 13 = .ok (.ldc2_w 170, 3) := by decide +kernel
theorem dX12_sayType_16 : decode cX12_sayType 16 = .ok (.invokevirtual 544, 3) := by decide +kernel
theorem dX12_sayType_19 : decode cX12_sayType 19 = .ok (.return_, 1) := by decide +kernel
theorem dX12_sayType_20 : decode cX12_sayType 20 = .ok (.aload_n 0, 1) := by decide +kernel
theorem dX12_sayType_21 : decode cX12_sayType 21 = .ok (.iload_n 2, 1) := by decide +kernel
theorem dX12_sayType_22 : decode cX12_sayType 22 = .ok (.iconst 2, 1) := by decide +kernel
theorem dX12_sayType_23 : decode cX12_sayType 23 = .ok (.if_icmp .ne 8, 3) := by decide +kernel
theorem dX12_sayType_26 : decode cX12_sayType 26 = .ok (.bipush 33, 2) := by decide +kernel
theorem dX12_sayType_28 : decode cX12_sayType 28 = .ok (.goto 46, 3) := by decide +kernel
theorem dX12_sayType_31 : decode cX12_sayType 31 = .ok (.iload_n 2, 1) := by decide +kernel
theorem dX12_sayType_32 : decode cX12_sayType 32 = .ok (.iconst 3, 1) := by decide +kernel
theorem dX12_sayType_33 : decode cX12_sayType 33 = .ok (.if_icmp .ne 8, 3) := by decide +kernel
theorem dX12_sayType_36 : decode cX12_sayType 36 = .ok (.bipush 63, 2) := by decide +kernel
theorem dX12_sayType_38 : decode cX12_sayType 38 = .ok (.goto 36, 3) := by decide +kernel
theorem dX12_sayType_41 : decode cX12_sayType 41 = .ok (.iload_n 2, 1) := by decide +kernel
theorem dX12_sayType_42 : decode cX12_sayType 42 = .ok (.iconst 4, 1) := by decide +kernel
theorem dX12_sayType_43 : decode cX12_sayType 43 = .ok (.if_icmp .ne 8, 3) := by decide +kernel
theorem dX12_sayType_46 : decode cX12_sayType 46 = .ok (.bipush 62, 2) := by decide +kernel
theorem dX12_sayType_48 : decode cX12_sayType 48 = .ok (.goto 26, 3) := by decide +kernel
theorem dX12_sayType_51 : decode cX12_sayType 51 = .ok (.iload_n 2, 1) := by decide +kernel
theorem dX12_sayType_52 : decode cX12_sayType 52 = .ok (.iconst 5, 1) := by decide +kernel
theorem dX12_sayType_53 : decode cX12_sayType 53 = .ok (.if_icmp .ne 8, 3) := by decide +kernel
theorem dX12_sayType_56 : decode cX12_sayType 56 = .ok (.bipush 60, 2) := by decide +kernel
theorem dX12_sayType_58 : decode cX12_sayType 58 = .ok (.goto 16, 3) := by decide +kernel
theorem dX12_sayType_61 : decode cX12_sayType 61 = .ok (.iload_n 2, 1) := by decide +kernel
theorem dX12_sayType_62 : decode cX12_sayType 62 = .ok (.bipush 6, 2) := by decide +kernel
theorem dX12_sayType_64 : decode cX12_sayType 64 = .ok (.if_icmp .ne 8, 3) := by decide +kernel
theorem dX12_sayType_67 : decode cX12_sayType 67 = .ok (.bipush 43, 2) := by decide +kernel
theorem dX12_sayType_69 : decode cX12_sayType 69 = .ok (.goto 5, 3) := by decide +kernel
theorem dX12_sayType_72 : decode cX12_sayType 72 = .ok (.bipush 38, 2) := by decide +kernel
theorem dX12_sayType_74 : decode cX12_sayType 74 = .ok (.invokevirtual 541, 3) := by decide +kernel
theorem dX12_sayType_77 : decode cX12_sayType 77 = .ok (.aload_n 0, 1) := by decide +kernel
theorem dX12_sayType_78 : decode cX12_sayType 78 = .ok (.bipush 32, 2) := by decide +kernel
theorem dX12_sayType_80 : decode cX12_sayType 80 = .ok (.invokevirtual 541, 3) := by decide +kernel
theorem dX12_sayType_83 : decode cX12_sayType 83 = .ok (.iload_n 2, 1) := by decide +kernel
theorem dX12_sayType_84 : decode cX12_sayType 84 = .ok (.bipush 6, 2) := by decide +kernel
theorem dX12_sayType_86 : decode cX12_sayType 86 = .ok (.if_icmp .eq 9, 3) := by decide +kernel
theorem dX12_sayType_89 : decode cX12_sayType 89 = .ok (.iload_n 2, 1) := by decide +kernel
theorem dX12_sayType_90 : decode cX12_sayType 90 = .ok (.bipush 7, 2) := by decide +kernel
theorem dX12_sayType_92 : decode cX12_sayType 92 = .ok (.if_icmp .ne 119, 3) := by decide +kernel
theorem dX12_sayType_95 : decode cX12_sayType 95 = .ok (.aload_n 0, 1) := by decide +kernel
theorem dX12_sayType_96 : decode cX12_sayType 96 = .ok (.bipush 123, 2) := by decide +kernel
theorem dX12_sayType_98 : decode cX12_sayType 98 = .ok (.invokevirtual 541, 3) := by decide +kernel
theorem dX12_sayType_101 : decode cX12_sayType 101 = .ok (.aload_n 0, 1) := by decide +kernel
theorem dX12_sayType_102 : decode cX12_sayType 102 = .ok (.bipush 32, 2) := by decide +kernel
theorem dX12_sayType_104 : decode cX12_sayType 104 = .ok (.invokevirtual 541, 3) := by decide +kernel
theorem dX12_sayType_107 : decode cX12_sayType 107 = .ok (.aload_n 0, 1) := by decide +kernel
theorem dX12_sayType_108 : decode cX12_sayType 108 = .ok (.getfield 20, 3) := by decide +kernel
theorem dX12_sayType_111 : decode cX12_sayType 111 = .ok (.iload_n 1, 1) := by decide +kernel
theorem dX12_sayType_112 : decode cX12_sayType 112 = .ok (.iaload, 1) := by decide +kernel
theorem dX12_sayType_113 : decode cX12_sayType 113 = .ok (.istore_n 3, 1) := by decide +kernel
theorem dX12_sayType_114 : decode cX12_sayType 114 = .ok (.iload_n 3, 1) := by decide +kernel
theorem dX12_sayType_115 : decode cX12_sayType 115 = .ok (.iconst (-1), 1) := by decide +kernel
theorem dX12_sayType_116 : decode cX12_sayType 116 = .ok (.if_icmp .eq 94, 3) := by decide +kernel
theorem dX12_sayType_119 : decode cX12_sayType 119 = .ok (.aload_n 0, 1) := by decide +kernel
theorem dX12_sayType_120 : decode cX12_sayType 120 = .ok (.aload_n 0, 1) := by decide +kernel
theorem dX12_sayType_121 : decode cX12_sayType 121 = .ok (.getfield 29, 3) := by decide +kernel
theorem dX12_sayType_124 : decode cX12_sayType 124 = .ok (.iload_n 3, 1) := by decide +kernel
theorem dX12_sayType_125 : decode cX12_sayType 125 = .ok (.laload, 1) := by decide +kernel
theorem dX12_sayType_126 : decode cX12_sayType 126 = .ok (.invokevirtual 544, 3) := by decide +kernel
theorem dX12_sayType_129 : decode cX12_sayType 129 = .ok (.aload_n 0, 1) := by decide +kernel
theorem dX12_sayType_130 : decode cX12_sayType 130 = .ok (.bipush 32, 2) := by decide +kernel
theorem dX12_sayType_132 : decode cX12_sayType 132 = .ok (.invokevirtual 541, 3) := by decide +kernel
theorem dX12_sayType_135 : decode cX12_sayType 135 = .ok (.aload_n 0, 1) := by decide +kernel
theorem dX12_sayType_136 : decode cX12_sayType 136 = .ok (.bipush 58, 2) := by decide +kernel
theorem dX12_sayType_138 : decode cX12_sayType 138 = .ok (.invokevirtual 541, 3) := by decide +kernel
theorem dX12_sayType_141 : decode cX12_sayType 141 = .ok (.aload_n 0, 1) := by decide +kernel
theorem dX12_sayType_142 : decode cX12_sayType 142 = .ok (.bipush 32, 2) := by decide +kernel
theorem dX12_sayType_144 : decode cX12_sayType 144 = .ok (.invokevirtual 541, 3) := by decide +kernel
theorem dX12_sayType_147 : decode cX12_sayType 147 = .ok (.aload_n 0, 1) := by decide +kernel
theorem dX12_sayType_148 : decode cX12_sayType 148 = .ok (.aload_n 0, 1) := by decide +kernel
theorem dX12_sayType_149 : decode cX12_sayType 149 = .ok (.getfield 20, 3) := by decide +kernel
theorem dX12_sayType_152 : decode cX12_sayType 152 = .ok (.iload_n 3, 1) := by decide +kernel
theorem dX12_sayType_153 : decode cX12_sayType 153 = .ok (.iaload, 1) := by decide +kernel
theorem dX12_sayType_154 : decode cX12_sayType 154 = .ok (.invokevirtual 548, 3) := by decide +kernel
theorem dX12_sayType_157 : decode cX12_sayType 157 = .ok (.aload_n 0, 1) := by decide +kernel
theorem dX12_sayType_158 : decode cX12_sayType 158 = .ok (.bipush 32, 2) := by decide +kernel
theorem dX12_sayType_160 : decode cX12_sayType 160 = .ok (.invokevirtual 541, 3) := by decide +kernel
theorem dX12_sayType_163 : decode cX12_sayType 163 = .ok (.aload_n 0, 1) := by decide +kernel
theorem dX12_sayType_164 : decode cX12_sayType 164 = .ok (.aload_n 0, 1) := by decide +kernel
theorem dX12_sayType_165 : decode cX12_sayType 165 = .ok (.getfield 26, 3) := by decide +kernel
theorem dX12_sayType_168 : decode cX12_sayType 168 = .ok (.iload_n 3, 1) := by decide +kernel
theorem dX12_sayType_169 : decode cX12_sayType 169 = .ok (.iaload, 1) := by decide +kernel
theorem dX12_sayType_170 : decode cX12_sayType 170 = .ok (.iconst (-1), 1) := by decide +kernel
theorem dX12_sayType_171 : decode cX12_sayType 171 = .ok (.if_icmp .ne 8, 3) := by decide +kernel
theorem dX12_sayType_174 : decode cX12_sayType 174 = .ok (.bipush 125, 2) := by decide +kernel
theorem dX12_sayType_176 : decode cX12_sayType 176 = .ok (.goto 5, 3) := by decide +kernel
theorem dX12_sayType_179 : decode cX12_sayType 179 = .ok (.bipush 44, 2) := by decide +kernel
theorem dX12_sayType_181 : decode cX12_sayType 181 = .ok (.invokevirtual 541, 3) := by decide +kernel
theorem dX12_sayType_184 : decode cX12_sayType 184 = .ok (.aload_n 0, 1) := by decide +kernel
theorem dX12_sayType_185 : decode cX12_sayType 185 = .ok (.getfield 26, 3) := by decide +kernel
theorem dX12_sayType_188 : decode cX12_sayType 188 = .ok (.iload_n 3, 1) := by decide +kernel
theorem dX12_sayType_189 : decode cX12_sayType 189 = .ok (.iaload, 1) := by decide +kernel
theorem dX12_sayType_190 : decode cX12_sayType 190 = .ok (.iconst (-1), 1) := by decide +kernel
theorem dX12_sayType_191 : decode cX12_sayType 191 = .ok (.if_icmp .eq 9, 3) := by decide +kernel
theorem dX12_sayType_194 : decode cX12_sayType 194 = .ok (.aload_n 0, 1) := by decide +kernel
theorem dX12_sayType_195 : decode cX12_sayType 195 = .ok (.bipush 32, 2) := by decide +kernel
theorem dX12_sayType_197 : decode cX12_sayType 197 = .ok (.invokevirtual 541, 3) := by decide +kernel
theorem dX12_sayType_200 : decode cX12_sayType 200 = .ok (.aload_n 0, 1) := by decide +kernel
theorem dX12_sayType_201 : decode cX12_sayType 201 = .ok (.getfield 26, 3) := by decide +kernel
theorem dX12_sayType_204 : decode cX12_sayType 204 = .ok (.iload_n 3, 1) := by decide +kernel
theorem dX12_sayType_205 : decode cX12_sayType 205 = .ok (.iaload, 1) := by decide +kernel
theorem dX12_sayType_206 : decode cX12_sayType 206 = .ok (.istore_n 3, 1) := by decide +kernel
theorem dX12_sayType_207 : decode cX12_sayType 207 = .ok (.goto (-93), 3) := by decide +kernel
theorem dX12_sayType_210 : decode cX12_sayType 210 = .ok (.return_, 1) := by decide +kernel
theorem dX12_sayType_211 : decode cX12_sayType 211 = .ok (.aload_n 0, 1) := by decide +kernel
theorem dX12_sayType_212 : decode cX12_sayType 212 = .ok (.aload_n 0, 1) := by decide +kernel
theorem dX12_sayType_213 : decode cX12_sayType 213 = .ok (.getfield 20, 3) := by decide +kernel
theorem dX12_sayType_216 : decode cX12_sayType 216 = .ok (.iload_n 1, 1) := by decide +kernel
theorem dX12_sayType_217 : decode cX12_sayType 217 = .ok (.iaload, 1) := by decide +kernel
theorem dX12_sayType_218 : decode cX12_sayType 218 = .ok (.invokevirtual 548, 3) := by decide +kernel
theorem dX12_sayType_221 : decode cX12_sayType 221 = .ok (.iload_n 2, 1) := by decide +kernel
theorem dX12_sayType_222 : decode cX12_sayType 222 = .ok (.iconst 4, 1) := by decide +kernel
theorem dX12_sayType_223 : decode cX12_sayType 223 = .ok (.if_icmp .eq 9, 3) := by decide +kernel
theorem dX12_sayType_226 : decode cX12_sayType 226 = .ok (.iload_n 2, 1) := by decide +kernel
theorem dX12_sayType_227 : decode cX12_sayType 227 = .ok (.iconst 5, 1) := by decide +kernel
theorem dX12_sayType_228 : decode cX12_sayType 228 = .ok (.if_icmp .eq 4, 3) := by decide +kernel
theorem dX12_sayType_231 : decode cX12_sayType 231 = .ok (.return_, 1) := by decide +kernel
theorem dX12_sayType_232 : decode cX12_sayType 232 = .ok (.aload_n 0, 1) := by decide +kernel
theorem dX12_sayType_233 : decode cX12_sayType 233 = .ok (.bipush 32, 2) := by decide +kernel
theorem dX12_sayType_235 : decode cX12_sayType 235 = .ok (.invokevirtual 541, 3) := by decide +kernel
theorem dX12_sayType_238 : decode cX12_sayType 238 = .ok (.aload_n 0, 1) := by decide +kernel
theorem dX12_sayType_239 : decode cX12_sayType 239 = .ok (.bipush 46, 2) := by decide +kernel
theorem dX12_sayType_241 : decode cX12_sayType 241 = .ok (.invokevirtual 541, 3) := by decide +kernel
theorem dX12_sayType_244 : decode cX12_sayType 244 = .ok (.aload_n 0, 1) := by decide +kernel
theorem dX12_sayType_245 : decode cX12_sayType 245 = .ok (.bipush 32, 2) := by decide +kernel
theorem dX12_sayType_247 : decode cX12_sayType 247 = .ok (.invokevirtual 541, 3) := by decide +kernel
theorem dX12_sayType_250 : decode cX12_sayType 250 = .ok (.aload_n 0, 1) := by decide +kernel
theorem dX12_sayType_251 : decode cX12_sayType 251 = .ok (.aload_n 0, 1) := by decide +kernel
theorem dX12_sayType_252 : decode cX12_sayType 252 = .ok (.getfield 23, 3) := by decide +kernel
theorem dX12_sayType_255 : decode cX12_sayType 255 = .ok (.iload_n 1, 1) := by decide +kernel
theorem dX12_sayType_256 : decode cX12_sayType 256 = .ok (.iaload, 1) := by decide +kernel
theorem dX12_sayType_257 : decode cX12_sayType 257 = .ok (.invokevirtual 548, 3) := by decide +kernel
theorem dX12_sayType_260 : decode cX12_sayType 260 = .ok (.return_, 1) := by decide +kernel
abbrev sc_12sayTypeT : Type := (iT → jT → Int32 → Option (iT))
def sc_12sayType_ok (l : Launch) (K : a_KT) (g : a_GT) (D0 : Nat) (R : sc_12sayTypeT) : Prop := (∀ {IA : iT} (I : iT) (J : jT) (F : fT) (x1 : Int32), FOK F → ∀ q : iT, R I J x1 = some q → C l K g D0 0 0 yX12_sayType cX12_sayType 4 none [.ref 186, .int x1] (hg IA I J F) (fun r2 h2 => r2 = none ∧ h2 = hg IA q J F))
def mX12_sayType_200 (R : sc_12sayTypeT) (k114 : iT → jT → Int32 → Int32 → Int32 → Option (iT)) (I : iT) (J : jT) (x1 : Int32) (x2 : Int32) (x3 : Int32) : Option (iT) := if inb x3 2800 then k114 I J x1 x2 (I 191 x3.toNatClampNeg) else none
def mX12_sayType_181 (R : sc_12sayTypeT) (k114 : iT → jT → Int32 → Int32 → Int32 → Option (iT)) (I : iT) (J : jT) (x1 : Int32) (x2 : Int32) (x3 : Int32) (s0 : Int32) : Option (iT) := (mX12_say I s0).bind fun q1 => if inb x3 2800 then if (q1 191 x3.toNatClampNeg) = ((-1)) then mX12_sayType_200 R (k114) q1 J x1 x2 x3 else (mX12_say q1 32).bind fun q2 => mX12_sayType_200 R (k114) q2 J x1 x2 x3 else none
def mX12_sayType_114 (R : sc_12sayTypeT) : Nat → iT → jT → Int32 → Int32 → Int32 → Option (iT)
  | 0, _, _, _, _, _ => none
  | n + 1, I, J, x1, x2, x3 => if x3 = ((-1)) then some I else if inb x3 2800 then (mX12_sayName I (J 192 x3.toNatClampNeg)).bind fun q3 => (mX12_say q3 32).bind fun q4 => (mX12_say q4 58).bind fun q5 => (mX12_say q5 32).bind fun q6 => if inb x3 2800 then (R q6 J (q6 189 x3.toNatClampNeg)).bind fun q7 => (mX12_say q7 32).bind fun q8 => if inb x3 2800 then if (q8 191 x3.toNatClampNeg) = ((-1)) then mX12_sayType_181 R (mX12_sayType_114 R n) q8 J x1 x2 x3 125 else mX12_sayType_181 R (mX12_sayType_114 R n) q8 J x1 x2 x3 44 else none else none else none
def mX12_sayType_95 (R : sc_12sayTypeT) (I : iT) (J : jT) (x1 : Int32) (x2 : Int32) : Option (iT) := (mX12_say I 123).bind fun q9 => (mX12_say q9 32).bind fun q10 => if inb x1 2800 then mX12_sayType_114 R LF q10 J x1 x2 (q10 189 x1.toNatClampNeg) else none
def mX12_sayType_232 (R : sc_12sayTypeT) (I : iT) (J : jT) (x1 : Int32) (x2 : Int32) : Option (iT) := (mX12_say I 32).bind fun q11 => (mX12_say q11 46).bind fun q12 => (mX12_say q12 32).bind fun q13 => if inb x1 2800 then (R q13 J (q13 190 x1.toNatClampNeg)).bind fun q14 => some q14 else none
def mX12_sayType_74 (R : sc_12sayTypeT) (I : iT) (J : jT) (x1 : Int32) (x2 : Int32) (s0 : Int32) : Option (iT) := (mX12_say I s0).bind fun q15 => (mX12_say q15 32).bind fun q16 => if x2 = 6 then mX12_sayType_95 R q16 J x1 x2 else if x2 = 7 then mX12_sayType_95 R q16 J x1 x2 else if inb x1 2800 then (R q16 J (q16 189 x1.toNatClampNeg)).bind fun q17 => if x2 = 4 then mX12_sayType_232 R q17 J x1 x2 else if x2 = 5 then mX12_sayType_232 R q17 J x1 x2 else some q17 else none
def bX12_sayType (R : sc_12sayTypeT) (I : iT) (J : jT) (x1 : Int32) : Option (iT) := if inb x1 2800 then if (I 188 x1.toNatClampNeg) = 1 then (mX12_sayName I 6647396).bind fun q18 => some q18 else if (I 188 x1.toNatClampNeg) = 2 then mX12_sayType_74 R I J x1 (I 188 x1.toNatClampNeg) 33 else if (I 188 x1.toNatClampNeg) = 3 then mX12_sayType_74 R I J x1 (I 188 x1.toNatClampNeg) 63 else if (I 188 x1.toNatClampNeg) = 4 then mX12_sayType_74 R I J x1 (I 188 x1.toNatClampNeg) 62 else if (I 188 x1.toNatClampNeg) = 5 then mX12_sayType_74 R I J x1 (I 188 x1.toNatClampNeg) 60 else if (I 188 x1.toNatClampNeg) = 6 then mX12_sayType_74 R I J x1 (I 188 x1.toNatClampNeg) 43 else mX12_sayType_74 R I J x1 (I 188 x1.toNatClampNeg) 38 else none
def sc_12sayType : Nat → sc_12sayTypeT
  | 0 => (fun _ _ _ => none)
  | n + 1 => (bX12_sayType (sc_12sayType n))
def mX12_sayType (n : Nat) : iT → jT → Int32 → Option (iT) := (sc_12sayType n)
set_option maxRecDepth 100000 in
set_option maxHeartbeats 4000000 in
theorem tX12_sayType_200 {l : Launch} {K : a_KT} {g : a_GT} {IA : iT} {D0 : Nat} {R : sc_12sayTypeT} (hko : a_kok K) (hB : 2 ≤ D0 + 1) (hR : sc_12sayType_ok l K g D0 R) {F : fT} {k114 : iT → jT → Int32 → Int32 → Int32 → Option (iT)} (hk114 : ∀ (I : iT) (J : jT) (x1 : Int32) (x2 : Int32) (x3 : Int32) (_ : FOK F) (q : iT), k114 I J x1 x2 x3 = some q → E l K g (D0 + 1) 0 0 yX12_sayType cX12_sayType 4 none 114 [.ref 186, .int x1, .int x2, .int x3] [] (hg IA I J F) (fun r2 h2 => r2 = none ∧ h2 = hg IA q J F)) (I : iT) (J : jT) (x1 : Int32) (x2 : Int32) (x3 : Int32) (hF : FOK F) (q : iT) (hm : mX12_sayType_200 R k114 I J x1 x2 x3 = some q) : E l K g (D0 + 1) 0 0 yX12_sayType cX12_sayType 4 none 200 [.ref 186, .int x1, .int x2, .int x3] [] (hg IA I J F) (fun r2 h2 => r2 = none ∧ h2 = hg IA q J F) := by
  unfold mX12_sayType_200 at hm
  refine e_aload_n (i := 0) rfl dX12_sayType_200 ?_
  refine q_getF 12 14 191 dX12_sayType_201 fl_RX12_26 rfl iz_186 (fr_186_14 hF) ?_
  refine e_iload_n (i := 3) rfl dX12_sayType_204 ?_
  obtain ⟨c_205, hm⟩ := gd_s hm
  refine l_iald dX12_sayType_205 iz_191 (inb_in ln_191 c_205) (by decide) ?_
  refine q_istore_n (i := 3) (by decide) rfl dX12_sayType_206 ?_
  refine e_goto 114 dX12_sayType_207 (by decide) ?_
  refine e_weak [.ref 186, .int x1, .int x2, .int (I 191 x3.toNatClampNeg)] ⟨rfl, ⟨rfl, ⟨rfl, ⟨rfl, trivial⟩⟩⟩⟩ ?_
  exact hk114 I J x1 x2 (I 191 x3.toNatClampNeg) hF _ hm
set_option maxRecDepth 100000 in
set_option maxHeartbeats 4000000 in
theorem tX12_sayType_181 {l : Launch} {K : a_KT} {g : a_GT} {IA : iT} {D0 : Nat} {R : sc_12sayTypeT} (hko : a_kok K) (hB : 2 ≤ D0 + 1) (hR : sc_12sayType_ok l K g D0 R) {F : fT} {k114 : iT → jT → Int32 → Int32 → Int32 → Option (iT)} (hk114 : ∀ (I : iT) (J : jT) (x1 : Int32) (x2 : Int32) (x3 : Int32) (_ : FOK F) (q : iT), k114 I J x1 x2 x3 = some q → E l K g (D0 + 1) 0 0 yX12_sayType cX12_sayType 4 none 114 [.ref 186, .int x1, .int x2, .int x3] [] (hg IA I J F) (fun r2 h2 => r2 = none ∧ h2 = hg IA q J F)) (I : iT) (J : jT) (x1 : Int32) (x2 : Int32) (x3 : Int32) (s0 : Int32) (hF : FOK F) (q : iT) (hm : mX12_sayType_181 R k114 I J x1 x2 x3 s0 = some q) : E l K g (D0 + 1) 0 0 yX12_sayType cX12_sayType 4 none 181 [.ref 186, .int x1, .int x2, .int x3] [.int s0, .ref 186] (hg IA I J F) (fun r2 h2 => r2 = none ∧ h2 = hg IA q J F) := by
  unfold mX12_sayType_181 at hm
  obtain ⟨q1, eq1, hm⟩ := ob_some hm
  refine e_cV1 hko dX12_sayType_181 ml_RX12_541 iz_186 (by decide) rfl (by omega) (Nat.le_of_ble_eq_true rfl) (tX12_say hko I J F hF s0 _ eq1) ?_
  rintro _ _ ⟨rfl, rfl⟩
  refine e_aload_n (i := 0) rfl dX12_sayType_184 ?_
  refine q_getF 12 14 191 dX12_sayType_185 fl_RX12_26 rfl iz_186 (fr_186_14 hF) ?_
  refine e_iload_n (i := 3) rfl dX12_sayType_188 ?_
  obtain ⟨c_189, hm⟩ := gd_s hm
  refine l_iald dX12_sayType_189 iz_191 (inb_in ln_191 c_189) (by decide) ?_
  refine e_iconst (v := (-1)) (by decide) dX12_sayType_190 ?_
  refine e_icmp_eq 200 dX12_sayType_191 (by decide) (fun c_191 => ?_) (fun c_191 => ?_)
  · have hm := it_p c_191 hm
    refine e_weak [.ref 186, .int x1, .int x2, .int x3] ⟨rfl, ⟨rfl, ⟨rfl, ⟨rfl, trivial⟩⟩⟩⟩ ?_
    exact tX12_sayType_200 hko hB hR (hk114) q1 J x1 x2 x3 hF _ hm
  · have hm := it_n c_191 hm
    refine e_aload_n (i := 0) rfl dX12_sayType_194 ?_
    refine e_bipush (v := 32) (by decide) dX12_sayType_195 ?_
    obtain ⟨q2, eq2, hm⟩ := ob_some hm
    refine e_cV1 hko dX12_sayType_197 ml_RX12_541 iz_186 (by decide) rfl (by omega) (Nat.le_of_ble_eq_true rfl) (tX12_say hko q1 J F hF 32 _ eq2) ?_
    rintro _ _ ⟨rfl, rfl⟩
    refine e_weak [.ref 186, .int x1, .int x2, .int x3] ⟨rfl, ⟨rfl, ⟨rfl, ⟨rfl, trivial⟩⟩⟩⟩ ?_
    exact tX12_sayType_200 hko hB hR (hk114) q2 J x1 x2 x3 hF _ hm
set_option maxRecDepth 100000 in
set_option maxHeartbeats 4000000 in
theorem tX12_sayType_114 {l : Launch} {K : a_KT} {g : a_GT} {IA : iT} {D0 : Nat} {R : sc_12sayTypeT} (hko : a_kok K) (hB : 2 ≤ D0 + 1) (hR : sc_12sayType_ok l K g D0 R) {F : fT} : ∀ (n : Nat) (I : iT) (J : jT) (x1 : Int32) (x2 : Int32) (x3 : Int32) (hF : FOK F) (q : iT), mX12_sayType_114 R n I J x1 x2 x3 = some q → E l K g (D0 + 1) 0 0 yX12_sayType cX12_sayType 4 none 114 [.ref 186, .int x1, .int x2, .int x3] [] (hg IA I J F) (fun r2 h2 => r2 = none ∧ h2 = hg IA q J F) := by
  intro n
  induction n with
  | zero => intro I J x1 x2 x3 hF q hm; cases hm
  | succ n ih =>
    intro I J x1 x2 x3 hF q hm
    rw [mX12_sayType_114] at hm
    refine e_iload_n (i := 3) rfl dX12_sayType_114 ?_
    refine e_iconst (v := (-1)) (by decide) dX12_sayType_115 ?_
    refine e_icmp_eq 210 dX12_sayType_116 (by decide) (fun c_116 => ?_) (fun c_116 => ?_)
    · have hm := it_p c_116 hm
      refine e_vret dX12_sayType_210 rfl ?_
      have hm := some_in hm
      subst hm
      exact ⟨rfl, rfl⟩
    · have hm := it_n c_116 hm
      refine e_aload_n (i := 0) rfl dX12_sayType_119 ?_
      refine e_aload_n (i := 0) rfl dX12_sayType_120 ?_
      refine q_getF 12 15 192 dX12_sayType_121 fl_RX12_29 rfl iz_186 (fr_186_15 hF) ?_
      refine e_iload_n (i := 3) rfl dX12_sayType_124 ?_
      obtain ⟨c_125, hm⟩ := gd_s hm
      refine q_lald dX12_sayType_125 iz_192 (inb_in ln_192 c_125) ?_
      obtain ⟨q3, eq3, hm⟩ := ob_some hm
      refine e_cV1 hko dX12_sayType_126 ml_RX12_544 iz_186 (by decide) rfl (by omega) (Nat.le_of_ble_eq_true rfl) (tX12_sayName hko I J F hF (J 192 x3.toNatClampNeg) _ eq3) ?_
      rintro _ _ ⟨rfl, rfl⟩
      refine e_aload_n (i := 0) rfl dX12_sayType_129 ?_
      refine e_bipush (v := 32) (by decide) dX12_sayType_130 ?_
      obtain ⟨q4, eq4, hm⟩ := ob_some hm
      refine e_cV1 hko dX12_sayType_132 ml_RX12_541 iz_186 (by decide) rfl (by omega) (Nat.le_of_ble_eq_true rfl) (tX12_say hko q3 J F hF 32 _ eq4) ?_
      rintro _ _ ⟨rfl, rfl⟩
      refine e_aload_n (i := 0) rfl dX12_sayType_135 ?_
      refine e_bipush (v := 58) (by decide) dX12_sayType_136 ?_
      obtain ⟨q5, eq5, hm⟩ := ob_some hm
      refine e_cV1 hko dX12_sayType_138 ml_RX12_541 iz_186 (by decide) rfl (by omega) (Nat.le_of_ble_eq_true rfl) (tX12_say hko q4 J F hF 58 _ eq5) ?_
      rintro _ _ ⟨rfl, rfl⟩
      refine e_aload_n (i := 0) rfl dX12_sayType_141 ?_
      refine e_bipush (v := 32) (by decide) dX12_sayType_142 ?_
      obtain ⟨q6, eq6, hm⟩ := ob_some hm
      refine e_cV1 hko dX12_sayType_144 ml_RX12_541 iz_186 (by decide) rfl (by omega) (Nat.le_of_ble_eq_true rfl) (tX12_say hko q5 J F hF 32 _ eq6) ?_
      rintro _ _ ⟨rfl, rfl⟩
      refine e_aload_n (i := 0) rfl dX12_sayType_147 ?_
      refine e_aload_n (i := 0) rfl dX12_sayType_148 ?_
      refine q_getF 12 12 189 dX12_sayType_149 fl_RX12_20 rfl iz_186 (fr_186_12 hF) ?_
      refine e_iload_n (i := 3) rfl dX12_sayType_152 ?_
      obtain ⟨c_153, hm⟩ := gd_s hm
      refine l_iald dX12_sayType_153 iz_189 (inb_in ln_189 c_153) (by decide) ?_
      obtain ⟨q7, eq7, hm⟩ := ob_some hm
      refine e_cV1 hko dX12_sayType_154 ml_RX12_548 iz_186 (by decide) rfl (by omega) (Nat.le_of_ble_eq_true rfl) (hR q6 J F (q6 189 x3.toNatClampNeg) hF q7 eq7) ?_
      rintro _ _ ⟨rfl, rfl⟩
      refine e_aload_n (i := 0) rfl dX12_sayType_157 ?_
      refine e_bipush (v := 32) (by decide) dX12_sayType_158 ?_
      obtain ⟨q8, eq8, hm⟩ := ob_some hm
      refine e_cV1 hko dX12_sayType_160 ml_RX12_541 iz_186 (by decide) rfl (by omega) (Nat.le_of_ble_eq_true rfl) (tX12_say hko q7 J F hF 32 _ eq8) ?_
      rintro _ _ ⟨rfl, rfl⟩
      refine e_aload_n (i := 0) rfl dX12_sayType_163 ?_
      refine e_aload_n (i := 0) rfl dX12_sayType_164 ?_
      refine q_getF 12 14 191 dX12_sayType_165 fl_RX12_26 rfl iz_186 (fr_186_14 hF) ?_
      refine e_iload_n (i := 3) rfl dX12_sayType_168 ?_
      obtain ⟨c_169, hm⟩ := gd_s hm
      refine l_iald dX12_sayType_169 iz_191 (inb_in ln_191 c_169) (by decide) ?_
      refine e_iconst (v := (-1)) (by decide) dX12_sayType_170 ?_
      refine e_icmp_ne 179 dX12_sayType_171 (by decide) (fun c_171 => ?_) (fun c_171 => ?_)
      · have hm := it_n c_171 hm
        refine e_bipush (v := 44) (by decide) dX12_sayType_179 ?_
        refine e_weak [.ref 186, .int x1, .int x2, .int x3] ⟨rfl, ⟨rfl, ⟨rfl, ⟨rfl, trivial⟩⟩⟩⟩ ?_
        exact tX12_sayType_181 hko hB hR (ih) q8 J x1 x2 x3 44 hF _ hm
      · have hm := it_p c_171 hm
        refine e_bipush (v := 125) (by decide) dX12_sayType_174 ?_
        refine e_goto 181 dX12_sayType_176 (by decide) ?_
        refine e_weak [.ref 186, .int x1, .int x2, .int x3] ⟨rfl, ⟨rfl, ⟨rfl, ⟨rfl, trivial⟩⟩⟩⟩ ?_
        exact tX12_sayType_181 hko hB hR (ih) q8 J x1 x2 x3 125 hF _ hm
set_option maxRecDepth 100000 in
set_option maxHeartbeats 4000000 in
theorem tX12_sayType_95 {l : Launch} {K : a_KT} {g : a_GT} {IA : iT} {D0 : Nat} {R : sc_12sayTypeT} (hko : a_kok K) (hB : 2 ≤ D0 + 1) (hR : sc_12sayType_ok l K g D0 R) {F : fT} (I : iT) (J : jT) (x1 : Int32) (x2 : Int32) (hF : FOK F) (q : iT) (hm : mX12_sayType_95 R I J x1 x2 = some q) : E l K g (D0 + 1) 0 0 yX12_sayType cX12_sayType 4 none 95 [.ref 186, .int x1, .int x2, .null] [] (hg IA I J F) (fun r2 h2 => r2 = none ∧ h2 = hg IA q J F) := by
  unfold mX12_sayType_95 at hm
  refine e_aload_n (i := 0) rfl dX12_sayType_95 ?_
  refine e_bipush (v := 123) (by decide) dX12_sayType_96 ?_
  obtain ⟨q9, eq9, hm⟩ := ob_some hm
  refine e_cV1 hko dX12_sayType_98 ml_RX12_541 iz_186 (by decide) rfl (by omega) (Nat.le_of_ble_eq_true rfl) (tX12_say hko I J F hF 123 _ eq9) ?_
  rintro _ _ ⟨rfl, rfl⟩
  refine e_aload_n (i := 0) rfl dX12_sayType_101 ?_
  refine e_bipush (v := 32) (by decide) dX12_sayType_102 ?_
  obtain ⟨q10, eq10, hm⟩ := ob_some hm
  refine e_cV1 hko dX12_sayType_104 ml_RX12_541 iz_186 (by decide) rfl (by omega) (Nat.le_of_ble_eq_true rfl) (tX12_say hko q9 J F hF 32 _ eq10) ?_
  rintro _ _ ⟨rfl, rfl⟩
  refine e_aload_n (i := 0) rfl dX12_sayType_107 ?_
  refine q_getF 12 12 189 dX12_sayType_108 fl_RX12_20 rfl iz_186 (fr_186_12 hF) ?_
  refine e_iload_n (i := 1) rfl dX12_sayType_111 ?_
  obtain ⟨c_112, hm⟩ := gd_s hm
  refine l_iald dX12_sayType_112 iz_189 (inb_in ln_189 c_112) (by decide) ?_
  refine q_istore_n (i := 3) (by decide) rfl dX12_sayType_113 ?_
  refine e_weak [.ref 186, .int x1, .int x2, .int (q10 189 x1.toNatClampNeg)] ⟨rfl, ⟨rfl, ⟨rfl, ⟨rfl, trivial⟩⟩⟩⟩ ?_
  exact tX12_sayType_114 hko hB hR LF q10 J x1 x2 (q10 189 x1.toNatClampNeg) hF _ hm
set_option maxRecDepth 100000 in
set_option maxHeartbeats 4000000 in
theorem tX12_sayType_232 {l : Launch} {K : a_KT} {g : a_GT} {IA : iT} {D0 : Nat} {R : sc_12sayTypeT} (hko : a_kok K) (hB : 2 ≤ D0 + 1) (hR : sc_12sayType_ok l K g D0 R) {F : fT} (I : iT) (J : jT) (x1 : Int32) (x2 : Int32) (hF : FOK F) (q : iT) (hm : mX12_sayType_232 R I J x1 x2 = some q) : E l K g (D0 + 1) 0 0 yX12_sayType cX12_sayType 4 none 232 [.ref 186, .int x1, .int x2, .null] [] (hg IA I J F) (fun r2 h2 => r2 = none ∧ h2 = hg IA q J F) := by
  unfold mX12_sayType_232 at hm
  refine e_aload_n (i := 0) rfl dX12_sayType_232 ?_
  refine e_bipush (v := 32) (by decide) dX12_sayType_233 ?_
  obtain ⟨q11, eq11, hm⟩ := ob_some hm
  refine e_cV1 hko dX12_sayType_235 ml_RX12_541 iz_186 (by decide) rfl (by omega) (Nat.le_of_ble_eq_true rfl) (tX12_say hko I J F hF 32 _ eq11) ?_
  rintro _ _ ⟨rfl, rfl⟩
  refine e_aload_n (i := 0) rfl dX12_sayType_238 ?_
  refine e_bipush (v := 46) (by decide) dX12_sayType_239 ?_
  obtain ⟨q12, eq12, hm⟩ := ob_some hm
  refine e_cV1 hko dX12_sayType_241 ml_RX12_541 iz_186 (by decide) rfl (by omega) (Nat.le_of_ble_eq_true rfl) (tX12_say hko q11 J F hF 46 _ eq12) ?_
  rintro _ _ ⟨rfl, rfl⟩
  refine e_aload_n (i := 0) rfl dX12_sayType_244 ?_
  refine e_bipush (v := 32) (by decide) dX12_sayType_245 ?_
  obtain ⟨q13, eq13, hm⟩ := ob_some hm
  refine e_cV1 hko dX12_sayType_247 ml_RX12_541 iz_186 (by decide) rfl (by omega) (Nat.le_of_ble_eq_true rfl) (tX12_say hko q12 J F hF 32 _ eq13) ?_
  rintro _ _ ⟨rfl, rfl⟩
  refine e_aload_n (i := 0) rfl dX12_sayType_250 ?_
  refine e_aload_n (i := 0) rfl dX12_sayType_251 ?_
  refine q_getF 12 13 190 dX12_sayType_252 fl_RX12_23 rfl iz_186 (fr_186_13 hF) ?_
  refine e_iload_n (i := 1) rfl dX12_sayType_255 ?_
  obtain ⟨c_256, hm⟩ := gd_s hm
  refine l_iald dX12_sayType_256 iz_190 (inb_in ln_190 c_256) (by decide) ?_
  obtain ⟨q14, eq14, hm⟩ := ob_some hm
  refine e_cV1 hko dX12_sayType_257 ml_RX12_548 iz_186 (by decide) rfl (by omega) (Nat.le_of_ble_eq_true rfl) (hR q13 J F (q13 190 x1.toNatClampNeg) hF q14 eq14) ?_
  rintro _ _ ⟨rfl, rfl⟩
  refine e_vret dX12_sayType_260 rfl ?_
  have hm := some_in hm
  subst hm
  exact ⟨rfl, rfl⟩
set_option maxRecDepth 100000 in
set_option maxHeartbeats 4000000 in
theorem tX12_sayType_74 {l : Launch} {K : a_KT} {g : a_GT} {IA : iT} {D0 : Nat} {R : sc_12sayTypeT} (hko : a_kok K) (hB : 2 ≤ D0 + 1) (hR : sc_12sayType_ok l K g D0 R) {F : fT} (I : iT) (J : jT) (x1 : Int32) (x2 : Int32) (s0 : Int32) (hF : FOK F) (q : iT) (hm : mX12_sayType_74 R I J x1 x2 s0 = some q) : E l K g (D0 + 1) 0 0 yX12_sayType cX12_sayType 4 none 74 [.ref 186, .int x1, .int x2, .null] [.int s0, .ref 186] (hg IA I J F) (fun r2 h2 => r2 = none ∧ h2 = hg IA q J F) := by
  unfold mX12_sayType_74 at hm
  obtain ⟨q15, eq15, hm⟩ := ob_some hm
  refine e_cV1 hko dX12_sayType_74 ml_RX12_541 iz_186 (by decide) rfl (by omega) (Nat.le_of_ble_eq_true rfl) (tX12_say hko I J F hF s0 _ eq15) ?_
  rintro _ _ ⟨rfl, rfl⟩
  refine e_aload_n (i := 0) rfl dX12_sayType_77 ?_
  refine e_bipush (v := 32) (by decide) dX12_sayType_78 ?_
  obtain ⟨q16, eq16, hm⟩ := ob_some hm
  refine e_cV1 hko dX12_sayType_80 ml_RX12_541 iz_186 (by decide) rfl (by omega) (Nat.le_of_ble_eq_true rfl) (tX12_say hko q15 J F hF 32 _ eq16) ?_
  rintro _ _ ⟨rfl, rfl⟩
  refine e_iload_n (i := 2) rfl dX12_sayType_83 ?_
  refine e_bipush (v := 6) (by decide) dX12_sayType_84 ?_
  refine e_icmp_eq 95 dX12_sayType_86 (by decide) (fun c_86 => ?_) (fun c_86 => ?_)
  · have hm := it_p c_86 hm
    refine e_weak [.ref 186, .int x1, .int x2, .null] ⟨rfl, ⟨rfl, ⟨rfl, ⟨trivial, trivial⟩⟩⟩⟩ ?_
    exact tX12_sayType_95 hko hB hR q16 J x1 x2 hF _ hm
  · have hm := it_n c_86 hm
    refine e_iload_n (i := 2) rfl dX12_sayType_89 ?_
    refine e_bipush (v := 7) (by decide) dX12_sayType_90 ?_
    refine e_icmp_ne 211 dX12_sayType_92 (by decide) (fun c_92 => ?_) (fun c_92 => ?_)
    · have hm := it_n c_92 hm
      refine e_aload_n (i := 0) rfl dX12_sayType_211 ?_
      refine e_aload_n (i := 0) rfl dX12_sayType_212 ?_
      refine q_getF 12 12 189 dX12_sayType_213 fl_RX12_20 rfl iz_186 (fr_186_12 hF) ?_
      refine e_iload_n (i := 1) rfl dX12_sayType_216 ?_
      obtain ⟨c_217, hm⟩ := gd_s hm
      refine l_iald dX12_sayType_217 iz_189 (inb_in ln_189 c_217) (by decide) ?_
      obtain ⟨q17, eq17, hm⟩ := ob_some hm
      refine e_cV1 hko dX12_sayType_218 ml_RX12_548 iz_186 (by decide) rfl (by omega) (Nat.le_of_ble_eq_true rfl) (hR q16 J F (q16 189 x1.toNatClampNeg) hF q17 eq17) ?_
      rintro _ _ ⟨rfl, rfl⟩
      refine e_iload_n (i := 2) rfl dX12_sayType_221 ?_
      refine e_iconst (v := 4) (by decide) dX12_sayType_222 ?_
      refine e_icmp_eq 232 dX12_sayType_223 (by decide) (fun c_223 => ?_) (fun c_223 => ?_)
      · have hm := it_p c_223 hm
        refine e_weak [.ref 186, .int x1, .int x2, .null] ⟨rfl, ⟨rfl, ⟨rfl, ⟨trivial, trivial⟩⟩⟩⟩ ?_
        exact tX12_sayType_232 hko hB hR q17 J x1 x2 hF _ hm
      · have hm := it_n c_223 hm
        refine e_iload_n (i := 2) rfl dX12_sayType_226 ?_
        refine e_iconst (v := 5) (by decide) dX12_sayType_227 ?_
        refine e_icmp_eq 232 dX12_sayType_228 (by decide) (fun c_228 => ?_) (fun c_228 => ?_)
        · have hm := it_p c_228 hm
          refine e_weak [.ref 186, .int x1, .int x2, .null] ⟨rfl, ⟨rfl, ⟨rfl, ⟨trivial, trivial⟩⟩⟩⟩ ?_
          exact tX12_sayType_232 hko hB hR q17 J x1 x2 hF _ hm
        · have hm := it_n c_228 hm
          refine e_vret dX12_sayType_231 rfl ?_
          have hm := some_in hm
          subst hm
          exact ⟨rfl, rfl⟩
    · have hm := it_p c_92 hm
      refine e_weak [.ref 186, .int x1, .int x2, .null] ⟨rfl, ⟨rfl, ⟨rfl, ⟨trivial, trivial⟩⟩⟩⟩ ?_
      exact tX12_sayType_95 hko hB hR q16 J x1 x2 hF _ hm
set_option maxRecDepth 100000 in
set_option maxHeartbeats 4000000 in
theorem tbX12_sayType {l : Launch} {K : a_KT} {g : a_GT} {IA : iT} {D0 : Nat} {R : sc_12sayTypeT} (hko : a_kok K) (hB : 2 ≤ D0 + 1) (hR : sc_12sayType_ok l K g D0 R) (I : iT) (J : jT) (F : fT) (hF : FOK F) (x1 : Int32) (q : iT) (hm : bX12_sayType R I J x1 = some q) : C l K g (D0 + 1) 0 0 yX12_sayType cX12_sayType 4 none [.ref 186, .int x1] (hg IA I J F) (fun r2 h2 => r2 = none ∧ h2 = hg IA q J F) := by
  unfold bX12_sayType at hm
  refine c_of [.ref 186, .int x1, .null, .null] (by decide) (Nat.le_of_ble_eq_true rfl) rfl ?_
  refine e_aload_n (i := 0) rfl dX12_sayType_0 ?_
  refine q_getF 12 11 188 dX12_sayType_1 fl_RX12_17 rfl iz_186 (fr_186_11 hF) ?_
  refine e_iload_n (i := 1) rfl dX12_sayType_4 ?_
  obtain ⟨c_5, hm⟩ := gd_s hm
  refine l_iald dX12_sayType_5 iz_188 (inb_in ln_188 c_5) (by decide) ?_
  refine q_istore_n (i := 2) (by decide) rfl dX12_sayType_6 ?_
  refine e_iload_n (i := 2) rfl dX12_sayType_7 ?_
  refine e_iconst (v := 1) (by decide) dX12_sayType_8 ?_
  refine e_icmp_ne 20 dX12_sayType_9 (by decide) (fun c_9 => ?_) (fun c_9 => ?_)
  · have hm := it_n c_9 hm
    refine e_aload_n (i := 0) rfl dX12_sayType_20 ?_
    refine e_iload_n (i := 2) rfl dX12_sayType_21 ?_
    refine e_iconst (v := 2) (by decide) dX12_sayType_22 ?_
    refine e_icmp_ne 31 dX12_sayType_23 (by decide) (fun c_23 => ?_) (fun c_23 => ?_)
    · have hm := it_n c_23 hm
      refine e_iload_n (i := 2) rfl dX12_sayType_31 ?_
      refine e_iconst (v := 3) (by decide) dX12_sayType_32 ?_
      refine e_icmp_ne 41 dX12_sayType_33 (by decide) (fun c_33 => ?_) (fun c_33 => ?_)
      · have hm := it_n c_33 hm
        refine e_iload_n (i := 2) rfl dX12_sayType_41 ?_
        refine e_iconst (v := 4) (by decide) dX12_sayType_42 ?_
        refine e_icmp_ne 51 dX12_sayType_43 (by decide) (fun c_43 => ?_) (fun c_43 => ?_)
        · have hm := it_n c_43 hm
          refine e_iload_n (i := 2) rfl dX12_sayType_51 ?_
          refine e_iconst (v := 5) (by decide) dX12_sayType_52 ?_
          refine e_icmp_ne 61 dX12_sayType_53 (by decide) (fun c_53 => ?_) (fun c_53 => ?_)
          · have hm := it_n c_53 hm
            refine e_iload_n (i := 2) rfl dX12_sayType_61 ?_
            refine e_bipush (v := 6) (by decide) dX12_sayType_62 ?_
            refine e_icmp_ne 72 dX12_sayType_64 (by decide) (fun c_64 => ?_) (fun c_64 => ?_)
            · have hm := it_n c_64 hm
              refine e_bipush (v := 38) (by decide) dX12_sayType_72 ?_
              refine e_weak [.ref 186, .int x1, .int (I 188 x1.toNatClampNeg), .null] ⟨rfl, ⟨rfl, ⟨rfl, ⟨trivial, trivial⟩⟩⟩⟩ ?_
              exact tX12_sayType_74 hko hB hR I J x1 (I 188 x1.toNatClampNeg) 38 hF _ hm
            · have hm := it_p c_64 hm
              refine e_bipush (v := 43) (by decide) dX12_sayType_67 ?_
              refine e_goto 74 dX12_sayType_69 (by decide) ?_
              refine e_weak [.ref 186, .int x1, .int (I 188 x1.toNatClampNeg), .null] ⟨rfl, ⟨rfl, ⟨rfl, ⟨trivial, trivial⟩⟩⟩⟩ ?_
              exact tX12_sayType_74 hko hB hR I J x1 (I 188 x1.toNatClampNeg) 43 hF _ hm
          · have hm := it_p c_53 hm
            refine e_bipush (v := 60) (by decide) dX12_sayType_56 ?_
            refine e_goto 74 dX12_sayType_58 (by decide) ?_
            refine e_weak [.ref 186, .int x1, .int (I 188 x1.toNatClampNeg), .null] ⟨rfl, ⟨rfl, ⟨rfl, ⟨trivial, trivial⟩⟩⟩⟩ ?_
            exact tX12_sayType_74 hko hB hR I J x1 (I 188 x1.toNatClampNeg) 60 hF _ hm
        · have hm := it_p c_43 hm
          refine e_bipush (v := 62) (by decide) dX12_sayType_46 ?_
          refine e_goto 74 dX12_sayType_48 (by decide) ?_
          refine e_weak [.ref 186, .int x1, .int (I 188 x1.toNatClampNeg), .null] ⟨rfl, ⟨rfl, ⟨rfl, ⟨trivial, trivial⟩⟩⟩⟩ ?_
          exact tX12_sayType_74 hko hB hR I J x1 (I 188 x1.toNatClampNeg) 62 hF _ hm
      · have hm := it_p c_33 hm
        refine e_bipush (v := 63) (by decide) dX12_sayType_36 ?_
        refine e_goto 74 dX12_sayType_38 (by decide) ?_
        refine e_weak [.ref 186, .int x1, .int (I 188 x1.toNatClampNeg), .null] ⟨rfl, ⟨rfl, ⟨rfl, ⟨trivial, trivial⟩⟩⟩⟩ ?_
        exact tX12_sayType_74 hko hB hR I J x1 (I 188 x1.toNatClampNeg) 63 hF _ hm
    · have hm := it_p c_23 hm
      refine e_bipush (v := 33) (by decide) dX12_sayType_26 ?_
      refine e_goto 74 dX12_sayType_28 (by decide) ?_
      refine e_weak [.ref 186, .int x1, .int (I 188 x1.toNatClampNeg), .null] ⟨rfl, ⟨rfl, ⟨rfl, ⟨trivial, trivial⟩⟩⟩⟩ ?_
      exact tX12_sayType_74 hko hB hR I J x1 (I 188 x1.toNatClampNeg) 33 hF _ hm
  · have hm := it_p c_9 hm
    refine e_aload_n (i := 0) rfl dX12_sayType_12 ?_
    refine e_ldc2 kc_RX12_170 dX12_sayType_13 ?_
    obtain ⟨q18, eq18, hm⟩ := ob_some hm
    refine e_cV1 hko dX12_sayType_16 ml_RX12_544 iz_186 (by decide) rfl (by omega) (Nat.le_of_ble_eq_true rfl) (tX12_sayName hko I J F hF 6647396 _ eq18) ?_
    rintro _ _ ⟨rfl, rfl⟩
    refine e_vret dX12_sayType_19 rfl ?_
    have hm := some_in hm
    subst hm
    exact ⟨rfl, rfl⟩
set_option maxRecDepth 100000 in
set_option maxHeartbeats 4000000 in
theorem sc_12sayType_all {l : Launch} {K : a_KT} {g : a_GT} (hko : a_kok K) : ∀ n : Nat, sc_12sayType_ok l K g (2 + n) (sc_12sayType n) := by
  intro n
  induction n with
  | zero => exact (by unfold sc_12sayType_ok; intros; rename_i h; cases (show (none : Option _) = some _ from h))
  | succ n ih =>
    exact fun I J F x1 hF q hm => tbX12_sayType hko (by omega) ih I J F hF x1 q hm
theorem tX12_sayType {l : Launch} {K : a_KT} {g : a_GT} {IA : iT} (hko : a_kok K) (I : iT) (J : jT) (F : fT) (hF : FOK F) (x1 : Int32) (q : iT) (hm : mX12_sayType SF I J x1 = some q) : C l K g 452 0 0 yX12_sayType cX12_sayType 4 none [.ref 186, .int x1] (hg IA I J F) (fun r2 h2 => r2 = none ∧ h2 = hg IA q J F) := (sc_12sayType_all hko SF) I J F x1 hF q hm
theorem dX12_typeOf_0 : decode cX12_typeOf 0 = .ok (.aload_n 0, 1) := by decide +kernel
theorem dX12_typeOf_1 : decode cX12_typeOf 1 = .ok (.iload_n 1, 1) := by decide +kernel
theorem dX12_typeOf_2 : decode cX12_typeOf 2 = .ok (.invokevirtual 530, 3) := by decide +kernel
theorem dX12_typeOf_5 : decode cX12_typeOf 5 = .ok (.ifCond .ne 5, 3) := by decide +kernel
theorem dX12_typeOf_8 : decode cX12_typeOf 8 = .ok (.iconst (-1), 1) := by decide +kernel
theorem dX12_typeOf_9 : decode cX12_typeOf 9 = .ok (.ireturn, 1) := by decide +kernel
theorem dX12_typeOf_10 : decode cX12_typeOf 10 = .ok (.aload_n 0, 1) := by decide +kernel
theorem dX12_typeOf_11 : decode cX12_typeOf 11 = .ok (.iload_n 1, 1) := by decide +kernel
theorem dX12_typeOf_12 : decode cX12_typeOf 12 = .ok (.invokevirtual 424, 3) := by decide +kernel
theorem dX12_typeOf_15 : decode cX12_typeOf 15 = .ok (.istore_n 3, 1) := by decide +kernel
theorem dX12_typeOf_16 : decode cX12_typeOf 16 = .ok (.iload_n 2, 1) := by decide +kernel
theorem dX12_typeOf_17 : decode cX12_typeOf 17 = .ok (.iconst (-1), 1) := by decide +kernel
theorem dX12_typeOf_18 : decode cX12_typeOf 18 = .ok (.if_icmp .ne 12, 3) := by decide +kernel
theorem dX12_typeOf_21 : decode cX12_typeOf 21 = .ok (.aload_n 0, 1) := by decide +kernel
theorem dX12_typeOf_22 : decode cX12_typeOf 22 = .ok (.getfield 54, 3) := by decide +kernel
theorem dX12_typeOf_25 : decode cX12_typeOf 25 = .ok (.iload_n 3, 1) := by decide +kernel
theorem dX12_typeOf_26 : decode cX12_typeOf 26 = .ok (.iaload, 1) := by decide +kernel
theorem dX12_typeOf_27 : decode cX12_typeOf 27 = .ok (.goto 33, 3) := by decide +kernel
theorem dX12_typeOf_30 : decode cX12_typeOf 30 = .ok (.iload_n 2, 1) := by decide +kernel
theorem dX12_typeOf_31 : decode cX12_typeOf 31 = .ok (.iconst 0, 1) := by decide +kernel
theorem dX12_typeOf_32 : decode cX12_typeOf 32 = .ok (.aload_n 0, 1) := by decide +kernel
theorem dX12_typeOf_33 : decode cX12_typeOf 33 = .ok (.getfield 48, 3) := by decide +kernel
theorem dX12_typeOf_36 : decode cX12_typeOf 36 = .ok (.iload_n 3, 1) := by decide +kernel
theorem dX12_typeOf_37 : decode cX12_typeOf 37 = .ok (.iaload, 1) := by decide +kernel
theorem dX12_typeOf_38 : decode cX12_typeOf 38 = .ok (.iconst 1, 1) := by decide +kernel
theorem dX12_typeOf_39 : decode cX12_typeOf 39 = .ok (.isub, 1) := by decide +kernel
theorem dX12_typeOf_40 : decode cX12_typeOf 40 = .ok (.invokestatic 154, 3) := by decide +kernel
theorem dX12_typeOf_43 : decode cX12_typeOf 43 = .ok (.ifCond .eq 16, 3) := by decide +kernel
theorem dX12_typeOf_46 : decode cX12_typeOf 46 = .ok (.aload_n 0, 1) := by decide +kernel
theorem dX12_typeOf_47 : decode cX12_typeOf 47 = .ok (.getfield 51, 3) := by decide +kernel
theorem dX12_typeOf_50 : decode cX12_typeOf 50 = .ok (.iconst 4, 1) := by decide +kernel
theorem dX12_typeOf_51 : decode cX12_typeOf 51 = .ok (.iload_n 3, 1) := by decide +kernel
theorem dX12_typeOf_52 : decode cX12_typeOf 52 = .ok (.imul, 1) := by decide +kernel
theorem dX12_typeOf_53 : decode cX12_typeOf 53 = .ok (.iload_n 2, 1) := by decide +kernel
theorem dX12_typeOf_54 : decode cX12_typeOf 54 = .ok (.iadd, 1) := by decide +kernel
theorem dX12_typeOf_55 : decode cX12_typeOf 55 = .ok (.iaload, 1) := by decide +kernel
theorem dX12_typeOf_56 : decode cX12_typeOf 56 = .ok (.goto 4, 3) := by decide +kernel
theorem dX12_typeOf_59 : decode cX12_typeOf 59 = .ok (.iconst (-1), 1) := by decide +kernel
theorem dX12_typeOf_60 : decode cX12_typeOf 60 = .ok (.ireturn, 1) := by decide +kernel
def mX12_typeOf (I : iT) (x1 : Int32) (x2 : Int32) : Option (Int32) := (mX12_isDef I x1).bind fun q1 => if q1 = 0 then some ((-1)) else (mX12_def0 I x1).bind fun q2 => if x2 = ((-1)) then if inb q2 24 then some (I 200 q2.toNatClampNeg) else none else if inb q2 24 then (mX12_isIn x2 0 ((I 198 q2.toNatClampNeg) - 1)).bind fun q3 => if q3 = 0 then some ((-1)) else if inb ((4 * q2) + x2) 96 then some (I 199 ((4 * q2) + x2).toNatClampNeg) else none else none
set_option maxRecDepth 100000 in
set_option maxHeartbeats 4000000 in
theorem tX12_typeOf {l : Launch} {K : a_KT} {g : a_GT} {IA : iT} (hko : a_kok K) (I : iT) (J : jT) (F : fT) (hF : FOK F) (x1 : Int32) (x2 : Int32) (q : Int32) (hm : mX12_typeOf I x1 x2 = some q) : C l K g 2 0 0 yX12_typeOf cX12_typeOf 4 (some .int) [.ref 186, .int x1, .int x2] (hg IA I J F) (fun r2 h2 => r2 = some (.int q) ∧ h2 = hg IA I J F) := by
  unfold mX12_typeOf at hm
  refine c_of [.ref 186, .int x1, .int x2, .null] (by decide) (Nat.le_of_ble_eq_true rfl) rfl ?_
  refine e_aload_n (i := 0) rfl dX12_typeOf_0 ?_
  refine e_iload_n (i := 1) rfl dX12_typeOf_1 ?_
  obtain ⟨q1, eq1, hm⟩ := ob_some hm
  refine e_cV1 hko dX12_typeOf_2 ml_RX12_530 iz_186 (by decide) rfl (by omega) (Nat.le_of_ble_eq_true rfl) (tX12_isDef hko I J F hF x1 _ eq1) ?_
  rintro _ _ ⟨rfl, rfl⟩
  refine e_if_ne 10 dX12_typeOf_5 (by decide) (fun c_5 => ?_) (fun c_5 => ?_)
  · have hm := it_n c_5 hm
    refine e_aload_n (i := 0) rfl dX12_typeOf_10 ?_
    refine e_iload_n (i := 1) rfl dX12_typeOf_11 ?_
    obtain ⟨q2, eq2, hm⟩ := ob_some hm
    refine e_cV1 hko dX12_typeOf_12 ml_RX12_424 iz_186 (by decide) rfl (by omega) (Nat.le_of_ble_eq_true rfl) (tX12_def0 hko I J F hF x1 _ eq2) ?_
    rintro _ _ ⟨rfl, rfl⟩
    refine q_istore_n (i := 3) (by decide) rfl dX12_typeOf_15 ?_
    refine e_iload_n (i := 2) rfl dX12_typeOf_16 ?_
    refine e_iconst (v := (-1)) (by decide) dX12_typeOf_17 ?_
    refine e_icmp_ne 30 dX12_typeOf_18 (by decide) (fun c_18 => ?_) (fun c_18 => ?_)
    · have hm := it_n c_18 hm
      refine e_iload_n (i := 2) rfl dX12_typeOf_30 ?_
      refine e_iconst (v := 0) (by decide) dX12_typeOf_31 ?_
      refine e_aload_n (i := 0) rfl dX12_typeOf_32 ?_
      refine q_getF 12 23 198 dX12_typeOf_33 fl_RX12_48 rfl iz_186 (fr_186_23 hF) ?_
      refine e_iload_n (i := 3) rfl dX12_typeOf_36 ?_
      obtain ⟨c_37, hm⟩ := gd_s hm
      refine l_iald dX12_typeOf_37 iz_198 (inb_in ln_198 c_37) (by decide) ?_
      refine e_iconst (v := 1) (by decide) dX12_typeOf_38 ?_
      refine e_isub dX12_typeOf_39 ?_
      obtain ⟨q3, eq3, hm⟩ := ob_some hm
      refine e_cS3 hko dX12_typeOf_40 ml_RX12_154 (by omega) (Nat.le_of_ble_eq_true rfl) (tX12_isIn hko I J F hF x2 0 ((I 198 q2.toNatClampNeg) - 1) _ eq3) ?_
      rintro _ _ ⟨rfl, rfl⟩
      refine e_if_eq 59 dX12_typeOf_43 (by decide) (fun c_43 => ?_) (fun c_43 => ?_)
      · have hm := it_p c_43 hm
        refine e_iconst (v := (-1)) (by decide) dX12_typeOf_59 ?_
        refine e_iret dX12_typeOf_60 rfl ?_
        have hm := some_in hm
        subst hm
        exact ⟨rfl, rfl⟩
      · have hm := it_n c_43 hm
        refine e_aload_n (i := 0) rfl dX12_typeOf_46 ?_
        refine q_getF 12 24 199 dX12_typeOf_47 fl_RX12_51 rfl iz_186 (fr_186_24 hF) ?_
        refine e_iconst (v := 4) (by decide) dX12_typeOf_50 ?_
        refine e_iload_n (i := 3) rfl dX12_typeOf_51 ?_
        refine e_imul dX12_typeOf_52 ?_
        refine e_iload_n (i := 2) rfl dX12_typeOf_53 ?_
        refine e_iadd dX12_typeOf_54 ?_
        obtain ⟨c_55, hm⟩ := gd_s hm
        refine l_iald dX12_typeOf_55 iz_199 (inb_in ln_199 c_55) (by decide) ?_
        refine e_goto 60 dX12_typeOf_56 (by decide) ?_
        refine e_iret dX12_typeOf_60 rfl ?_
        have hm := some_in hm
        subst hm
        exact ⟨rfl, rfl⟩
    · have hm := it_p c_18 hm
      refine e_aload_n (i := 0) rfl dX12_typeOf_21 ?_
      refine q_getF 12 25 200 dX12_typeOf_22 fl_RX12_54 rfl iz_186 (fr_186_25 hF) ?_
      refine e_iload_n (i := 3) rfl dX12_typeOf_25 ?_
      obtain ⟨c_26, hm⟩ := gd_s hm
      refine l_iald dX12_typeOf_26 iz_200 (inb_in ln_200 c_26) (by decide) ?_
      refine e_goto 60 dX12_typeOf_27 (by decide) ?_
      refine e_iret dX12_typeOf_60 rfl ?_
      have hm := some_in hm
      subst hm
      exact ⟨rfl, rfl⟩
  · have hm := it_p c_5 hm
    refine e_iconst (v := (-1)) (by decide) dX12_typeOf_8 ?_
    refine e_iret dX12_typeOf_9 rfl ?_
    have hm := some_in hm
    subst hm
    exact ⟨rfl, rfl⟩
theorem dX12_print_0 : decode cX12_print 0 = .ok (.aload_n 0, 1) := by decide +kernel
theorem dX12_print_1 : decode cX12_print 1 = .ok (.iload_n 1, 1) := by decide +kernel
theorem dX12_print_2 : decode cX12_print 2 = .ok (.iload_n 2, 1) := by decide +kernel
theorem dX12_print_3 : decode cX12_print 3 = .ok (.invokevirtual 533, 3) := by decide +kernel
theorem dX12_print_6 : decode cX12_print 6 = .ok (.istore_n 3, 1) := by decide +kernel
theorem dX12_print_7 : decode cX12_print 7 = .ok (.iload_n 3, 1) := by decide +kernel
theorem dX12_print_8 : decode cX12_print 8 = .ok (.iconst (-1), 1) := by decide +kernel
theorem dX12_print_9 : decode cX12_print 9 = .ok (.if_icmp .ne 5, 3) := by decide +kernel
theorem dX12_print_12 : decode cX12_print 12 = .ok (.iconst (-1), 1) := by decide +kernel
theorem dX12_print_13 : decode cX12_print 13 = .ok (.ireturn, 1) := by decide +kernel
theorem dX12_print_14 : decode cX12_print 14 = .ok (.aload_n 0, 1) := by decide +kernel
theorem dX12_print_15 : decode cX12_print 15 = .ok (.iconst 0, 1) := by decide +kernel
theorem dX12_print_16 : decode cX12_print 16 = .ok (.putfield 536, 3) := by decide +kernel
theorem dX12_print_19 : decode cX12_print 19 = .ok (.aload_n 0, 1) := by decide +kernel
theorem dX12_print_20 : decode cX12_print 20 = .ok (.iload_n 3, 1) := by decide +kernel
theorem dX12_print_21 : decode cX12_print 21 = .ok (.invokevirtual 548, 3) := by decide +kernel
theorem dX12_print_24 : decode cX12_print 24 = .ok (.aload_n 0, 1) := by decide +kernel
theorem dX12_print_25 : decode cX12_print 25 = .ok (.getfield 536, 3) := by decide +kernel
theorem dX12_print_28 : decode cX12_print 28 = .ok (.ireturn, 1) := by decide +kernel
def mX12_print (I : iT) (J : jT) (x1 : Int32) (x2 : Int32) : Option (Int32 × iT) := (mX12_typeOf I x1 x2).bind fun q1 => if q1 = ((-1)) then some ((-1), I) else (mX12_sayType SF (a_u2 I 186 80 0) J q1).bind fun q2 => some (q2 186 80, q2)
set_option maxRecDepth 100000 in
set_option maxHeartbeats 4000000 in
theorem tX12_print {l : Launch} {K : a_KT} {g : a_GT} {IA : iT} (hko : a_kok K) (I : iT) (J : jT) (F : fT) (hF : FOK F) (x1 : Int32) (x2 : Int32) (q : Int32 × iT) (hm : mX12_print I J x1 x2 = some q) : C l K g 453 0 0 yX12_print cX12_print 4 (some .int) [.ref 186, .int x1, .int x2] (hg IA I J F) (fun r2 h2 => r2 = some (.int q.1) ∧ h2 = hg IA q.2 J F) := by
  unfold mX12_print at hm
  refine c_of [.ref 186, .int x1, .int x2, .null] (by decide) (Nat.le_of_ble_eq_true rfl) rfl ?_
  refine e_aload_n (i := 0) rfl dX12_print_0 ?_
  refine e_iload_n (i := 1) rfl dX12_print_1 ?_
  refine e_iload_n (i := 2) rfl dX12_print_2 ?_
  obtain ⟨q1, eq1, hm⟩ := ob_some hm
  refine e_cV2 hko dX12_print_3 ml_RX12_533 iz_186 (by decide) rfl (by omega) (Nat.le_of_ble_eq_true rfl) (tX12_typeOf hko I J F hF x1 x2 _ eq1) ?_
  rintro _ _ ⟨rfl, rfl⟩
  refine q_istore_n (i := 3) (by decide) rfl dX12_print_6 ?_
  refine e_iload_n (i := 3) rfl dX12_print_7 ?_
  refine e_iconst (v := (-1)) (by decide) dX12_print_8 ?_
  refine e_icmp_ne 14 dX12_print_9 (by decide) (fun c_9 => ?_) (fun c_9 => ?_)
  · have hm := it_n c_9 hm
    refine e_aload_n (i := 0) rfl dX12_print_14 ?_
    refine e_iconst (v := 0) (by decide) dX12_print_15 ?_
    refine l_putI 12 80 dX12_print_16 fl_RX12_536 rfl rfl iz_186 (by decide) ?_
    refine e_aload_n (i := 0) rfl dX12_print_19 ?_
    refine e_iload_n (i := 3) rfl dX12_print_20 ?_
    obtain ⟨q2, eq2, hm⟩ := ob_some hm
    refine e_cV1 hko dX12_print_21 ml_RX12_548 iz_186 (by decide) rfl (by omega) (Nat.le_of_ble_eq_true rfl) (tX12_sayType hko (a_u2 I 186 80 0) J F hF q1 _ eq2) ?_
    rintro _ _ ⟨rfl, rfl⟩
    refine e_aload_n (i := 0) rfl dX12_print_24 ?_
    refine l_getI 12 80 dX12_print_25 fl_RX12_536 rfl iz_186 (by decide) ?_
    refine e_iret dX12_print_28 rfl ?_
    have hm := some_in hm
    subst hm
    exact ⟨rfl, rfl⟩
  · have hm := it_p c_9 hm
    refine e_iconst (v := (-1)) (by decide) dX12_print_12 ?_
    refine e_iret dX12_print_13 rfl ?_
    have hm := some_in hm
    subst hm
    exact ⟨rfl, rfl⟩
theorem dX12_waits_0 : decode cX12_waits 0 = .ok (.aload_n 0, 1) := by decide +kernel
theorem dX12_waits_1 : decode cX12_waits 1 = .ok (.getfield 93, 3) := by decide +kernel
theorem dX12_waits_4 : decode cX12_waits 4 = .ok (.iload_n 1, 1) := by decide +kernel
theorem dX12_waits_5 : decode cX12_waits 5 = .ok (.iaload, 1) := by decide +kernel
theorem dX12_waits_6 : decode cX12_waits 6 = .ok (.istore_n 2, 1) := by decide +kernel
theorem dX12_waits_7 : decode cX12_waits 7 = .ok (.aload_n 0, 1) := by decide +kernel
theorem dX12_waits_8 : decode cX12_waits 8 = .ok (.getfield 111, 3) := by decide +kernel
theorem dX12_waits_11 : decode cX12_waits 11 = .ok (.iload_n 1, 1) := by decide +kernel
theorem dX12_waits_12 : decode cX12_waits 12 = .ok (.baload, 1) := by decide +kernel
theorem dX12_waits_13 : decode cX12_waits 13 = .ok (.ifCond .ne 39, 3) := by decide +kernel
theorem dX12_waits_16 : decode cX12_waits 16 = .ok (.aload_n 0, 1) := by decide +kernel
theorem dX12_waits_17 : decode cX12_waits 17 = .ok (.getfield 17, 3) := by decide +kernel
theorem dX12_waits_20 : decode cX12_waits 20 = .ok (.iload_n 2, 1) := by decide +kernel
theorem dX12_waits_21 : decode cX12_waits 21 = .ok (.iaload, 1) := by decide +kernel
theorem dX12_waits_22 : decode cX12_waits 22 = .ok (.invokestatic 475, 3) := by decide +kernel
theorem dX12_waits_25 : decode cX12_waits 25 = .ok (.ifCond .eq 27, 3) := by decide +kernel
theorem dX12_waits_28 : decode cX12_waits 28 = .ok (.aload_n 0, 1) := by decide +kernel
theorem dX12_waits_29 : decode cX12_waits 29 = .ok (.getfield 118, 3) := by decide +kernel
theorem dX12_waits_32 : decode cX12_waits 32 = .ok (.aload_n 0, 1) := by decide +kernel
theorem dX12_waits_33 : decode cX12_waits 33 = .ok (.iload_n 1, 1) := by decide +kernel
theorem dX12_waits_34 : decode cX12_waits 34 = .ok (.aload_n 0, 1) := by decide +kernel
theorem dX12_waits_35 : decode cX12_waits 35 = .ok (.getfield 20, 3) := by decide +kernel
theorem dX12_waits_38 : decode cX12_waits 38 = .ok (.iload_n 2, 1) := by decide +kernel
theorem dX12_waits_39 : decode cX12_waits 39 = .ok (.iaload, 1) := by decide +kernel
theorem dX12_waits_40 : decode cX12_waits 40 = .ok (.invokevirtual 478, 3) := by decide +kernel
theorem dX12_waits_43 : decode cX12_waits 43 = .ok (.iaload, 1) := by decide +kernel
theorem dX12_waits_44 : decode cX12_waits 44 = .ok (.iconst (-1), 1) := by decide +kernel
theorem dX12_waits_45 : decode cX12_waits 45 = .ok (.if_icmp .ne 7, 3) := by decide +kernel
theorem dX12_waits_48 : decode cX12_waits 48 = .ok (.iconst 1, 1) := by decide +kernel
theorem dX12_waits_49 : decode cX12_waits 49 = .ok (.goto 4, 3) := by decide +kernel
theorem dX12_waits_52 : decode cX12_waits 52 = .ok (.iconst 0, 1) := by decide +kernel
theorem dX12_waits_53 : decode cX12_waits 53 = .ok (.ireturn, 1) := by decide +kernel
def mX12_waits (I : iT) (x1 : Int32) : Option (Int32) := if inb x1 80 then if inb x1 80 then if (I 219 x1.toNatClampNeg) = 0 then if inb (I 213 x1.toNatClampNeg) 2800 then (mX12_isReading (I 188 (I 213 x1.toNatClampNeg).toNatClampNeg)).bind fun q1 => if q1 = 0 then some 0 else if inb (I 213 x1.toNatClampNeg) 2800 then (mX12_reads I x1 (I 189 (I 213 x1.toNatClampNeg).toNatClampNeg)).bind fun q2 => if inb q2 160 then if (I 221 q2.toNatClampNeg) = ((-1)) then some 1 else some 0 else none else none else none else some 0 else none else none
set_option maxRecDepth 100000 in
set_option maxHeartbeats 4000000 in
theorem tX12_waits {l : Launch} {K : a_KT} {g : a_GT} {IA : iT} (hko : a_kok K) (I : iT) (J : jT) (F : fT) (hF : FOK F) (x1 : Int32) (q : Int32) (hm : mX12_waits I x1 = some q) : C l K g 3 0 0 yX12_waits cX12_waits 3 (some .boolean) [.ref 186, .int x1] (hg IA I J F) (fun r2 h2 => r2 = some (.int q) ∧ h2 = hg IA I J F) := by
  unfold mX12_waits at hm
  refine c_of [.ref 186, .int x1, .null] (by decide) (Nat.le_of_ble_eq_true rfl) rfl ?_
  refine e_aload_n (i := 0) rfl dX12_waits_0 ?_
  refine q_getF 12 53 213 dX12_waits_1 fl_RX12_93 rfl iz_186 (fr_186_53 hF) ?_
  refine e_iload_n (i := 1) rfl dX12_waits_4 ?_
  obtain ⟨c_5, hm⟩ := gd_s hm
  refine l_iald dX12_waits_5 iz_213 (inb_in ln_213 c_5) (by decide) ?_
  refine q_istore_n (i := 2) (by decide) rfl dX12_waits_6 ?_
  refine e_aload_n (i := 0) rfl dX12_waits_7 ?_
  refine q_getF 12 59 219 dX12_waits_8 fl_RX12_111 rfl iz_186 (fr_186_59 hF) ?_
  refine e_iload_n (i := 1) rfl dX12_waits_11 ?_
  obtain ⟨c_12, hm⟩ := gd_s hm
  refine l_zald dX12_waits_12 iz_219 (inb_in ln_219 c_12) (by decide) ?_
  refine e_if_ne 52 dX12_waits_13 (by decide) (fun c_13 => ?_) (fun c_13 => ?_)
  · have hm := it_n c_13 hm
    refine e_iconst (v := 0) (by decide) dX12_waits_52 ?_
    refine e_zret dX12_waits_53 rfl rfl ?_
    have hm := some_in hm
    subst hm
    exact ⟨rfl, rfl⟩
  · have hm := it_p c_13 hm
    refine e_aload_n (i := 0) rfl dX12_waits_16 ?_
    refine q_getF 12 11 188 dX12_waits_17 fl_RX12_17 rfl iz_186 (fr_186_11 hF) ?_
    refine e_iload_n (i := 2) rfl dX12_waits_20 ?_
    obtain ⟨c_21, hm⟩ := gd_s hm
    refine l_iald dX12_waits_21 iz_188 (inb_in ln_188 c_21) (by decide) ?_
    obtain ⟨q1, eq1, hm⟩ := ob_some hm
    refine e_cS1 hko dX12_waits_22 ml_RX12_475 (by omega) (Nat.le_of_ble_eq_true rfl) (tX12_isReading hko I J F hF (I 188 (I 213 x1.toNatClampNeg).toNatClampNeg) _ eq1) ?_
    rintro _ _ ⟨rfl, rfl⟩
    refine e_if_eq 52 dX12_waits_25 (by decide) (fun c_25 => ?_) (fun c_25 => ?_)
    · have hm := it_p c_25 hm
      refine e_iconst (v := 0) (by decide) dX12_waits_52 ?_
      refine e_zret dX12_waits_53 rfl rfl ?_
      have hm := some_in hm
      subst hm
      exact ⟨rfl, rfl⟩
    · have hm := it_n c_25 hm
      refine e_aload_n (i := 0) rfl dX12_waits_28 ?_
      refine q_getF 12 67 221 dX12_waits_29 fl_RX12_118 rfl iz_186 (fr_186_67 hF) ?_
      refine e_aload_n (i := 0) rfl dX12_waits_32 ?_
      refine e_iload_n (i := 1) rfl dX12_waits_33 ?_
      refine e_aload_n (i := 0) rfl dX12_waits_34 ?_
      refine q_getF 12 12 189 dX12_waits_35 fl_RX12_20 rfl iz_186 (fr_186_12 hF) ?_
      refine e_iload_n (i := 2) rfl dX12_waits_38 ?_
      obtain ⟨c_39, hm⟩ := gd_s hm
      refine l_iald dX12_waits_39 iz_189 (inb_in ln_189 c_39) (by decide) ?_
      obtain ⟨q2, eq2, hm⟩ := ob_some hm
      refine e_cV2 hko dX12_waits_40 ml_RX12_478 iz_186 (by decide) rfl (by omega) (Nat.le_of_ble_eq_true rfl) (tX12_reads hko I J F hF x1 (I 189 (I 213 x1.toNatClampNeg).toNatClampNeg) _ eq2) ?_
      rintro _ _ ⟨rfl, rfl⟩
      obtain ⟨c_43, hm⟩ := gd_s hm
      refine l_iald dX12_waits_43 iz_221 (inb_in ln_221 c_43) (by decide) ?_
      refine e_iconst (v := (-1)) (by decide) dX12_waits_44 ?_
      refine e_icmp_ne 52 dX12_waits_45 (by decide) (fun c_45 => ?_) (fun c_45 => ?_)
      · have hm := it_n c_45 hm
        refine e_iconst (v := 0) (by decide) dX12_waits_52 ?_
        refine e_zret dX12_waits_53 rfl rfl ?_
        have hm := some_in hm
        subst hm
        exact ⟨rfl, rfl⟩
      · have hm := it_p c_45 hm
        refine e_iconst (v := 1) (by decide) dX12_waits_48 ?_
        refine e_goto 53 dX12_waits_49 (by decide) ?_
        refine e_zret dX12_waits_53 rfl rfl ?_
        have hm := some_in hm
        subst hm
        exact ⟨rfl, rfl⟩
theorem dX12_process_0 : decode cX12_process 0 = .ok (.aload_n 0, 1) := by decide +kernel
theorem dX12_process_1 : decode cX12_process 1 = .ok (.getfield 414, 3) := by decide +kernel
theorem dX12_process_4 : decode cX12_process 4 = .ok (.ifCond .eq 17, 3) := by decide +kernel
theorem dX12_process_7 : decode cX12_process 7 = .ok (.iload_n 1, 1) := by decide +kernel
theorem dX12_process_8 : decode cX12_process 8 = .ok (.iconst 0, 1) := by decide +kernel
theorem dX12_process_9 : decode cX12_process 9 = .ok (.aload_n 0, 1) := by decide +kernel
theorem dX12_process_10 : decode cX12_process 10 = .ok (.getfield 427, 3) := by decide +kernel
theorem dX12_process_13 : decode cX12_process 13 = .ok (.iconst 1, 1) := by decide +kernel
theorem dX12_process_14 : decode cX12_process 14 = .ok (.isub, 1) := by decide +kernel
theorem dX12_process_15 : decode cX12_process 15 = .ok (.invokestatic 154, 3) := by decide +kernel
theorem dX12_process_18 : decode cX12_process 18 = .ok (.ifCond .ne 5, 3) := by decide +kernel
theorem dX12_process_21 : decode cX12_process 21 = .ok (.iconst (-1), 1) := by decide +kernel
theorem dX12_process_22 : decode cX12_process 22 = .ok (.ireturn, 1) := by decide +kernel
theorem dX12_process_23 : decode cX12_process 23 = .ok (.iload_n 2, 1) := by decide +kernel
theorem dX12_process_24 : decode cX12_process 24 = .ok (.tableswitch 138 0 6 #[44, 51, 66, 80, 87, 111, 131], 44) := by decide +kernel
theorem dX12_process_68 : decode cX12_process 68 = .ok (.aload_n 0, 1) := by decide +kernel
theorem dX12_process_69 : decode cX12_process 69 = .ok (.getfield 90, 3) := by decide +kernel
theorem dX12_process_72 : decode cX12_process 72 = .ok (.iload_n 1, 1) := by decide +kernel
theorem dX12_process_73 : decode cX12_process 73 = .ok (.iaload, 1) := by decide +kernel
theorem dX12_process_74 : decode cX12_process 74 = .ok (.ireturn, 1) := by decide +kernel
theorem dX12_process_75 : decode cX12_process 75 = .ok (.aload_n 0, 1) := by decide +kernel
theorem dX12_process_76 : decode cX12_process 76 = .ok (.getfield 111, 3) := by decide +kernel
theorem dX12_process_79 : decode cX12_process 79 = .ok (.iload_n 1, 1) := by decide +kernel
theorem dX12_process_80 : decode cX12_process 80 = .ok (.baload, 1) := by decide +kernel
theorem dX12_process_81 : decode cX12_process 81 = .ok (.ifCond .eq 7, 3) := by decide +kernel
theorem dX12_process_84 : decode cX12_process 84 = .ok (.iconst 1, 1) := by decide +kernel
theorem dX12_process_85 : decode cX12_process 85 = .ok (.goto 4, 3) := by decide +kernel
theorem dX12_process_88 : decode cX12_process 88 = .ok (.iconst 0, 1) := by decide +kernel
theorem dX12_process_89 : decode cX12_process 89 = .ok (.ireturn, 1) := by decide +kernel
theorem dX12_process_90 : decode cX12_process 90 = .ok (.aload_n 0, 1) := by decide +kernel
theorem dX12_process_91 : decode cX12_process 91 = .ok (.iload_n 1, 1) := by decide +kernel
theorem dX12_process_92 : decode cX12_process 92 = .ok (.invokevirtual 481, 3) := by decide +kernel
theorem dX12_process_95 : decode cX12_process 95 = .ok (.ifCond .eq 7, 3) := by decide +kernel
theorem dX12_process_98 : decode cX12_process 98 = .ok (.iconst 1, 1) := by decide +kernel
theorem dX12_process_99 : decode cX12_process 99 = .ok (.goto 4, 3) := by decide +kernel
theorem dX12_process_102 : decode cX12_process 102 = .ok (.iconst 0, 1) := by decide +kernel
theorem dX12_process_103 : decode cX12_process 103 = .ok (.ireturn, 1) := by decide +kernel
theorem dX12_process_104 : decode cX12_process 104 = .ok (.aload_n 0, 1) := by decide +kernel
theorem dX12_process_105 : decode cX12_process 105 = .ok (.getfield 99, 3) := by decide +kernel
theorem dX12_process_108 : decode cX12_process 108 = .ok (.iload_n 1, 1) := by decide +kernel
theorem dX12_process_109 : decode cX12_process 109 = .ok (.iaload, 1) := by decide +kernel
theorem dX12_process_110 : decode cX12_process 110 = .ok (.ireturn, 1) := by decide +kernel
theorem dX12_process_111 : decode cX12_process 111 = .ok (.aload_n 0, 1) := by decide +kernel
theorem dX12_process_112 : decode cX12_process 112 = .ok (.getfield 111, 3) := by decide +kernel
theorem dX12_process_115 : decode cX12_process 115 = .ok (.iload_n 1, 1) := by decide +kernel
theorem dX12_process_116 : decode cX12_process 116 = .ok (.baload, 1) := by decide +kernel
theorem dX12_process_117 : decode cX12_process 117 = .ok (.ifCond .eq 7, 3) := by decide +kernel
theorem dX12_process_120 : decode cX12_process 120 = .ok (.iconst (-1), 1) := by decide +kernel
theorem dX12_process_121 : decode cX12_process 121 = .ok (.goto 13, 3) := by decide +kernel
theorem dX12_process_124 : decode cX12_process 124 = .ok (.aload_n 0, 1) := by decide +kernel
theorem dX12_process_125 : decode cX12_process 125 = .ok (.aload_n 0, 1) := by decide +kernel
theorem dX12_process_126 : decode cX12_process 126 = .ok (.getfield 96, 3) := by decide +kernel
theorem dX12_process_129 : decode cX12_process 129 = .ok (.iload_n 1, 1) := by decide +kernel
theorem dX12_process_130 : decode cX12_process 130 = .ok (.iaload, 1) := by decide +kernel
theorem dX12_process_131 : decode cX12_process 131 = .ok (.invokevirtual 469, 3) := by decide +kernel
theorem dX12_process_134 : decode cX12_process 134 = .ok (.ireturn, 1) := by decide +kernel
theorem dX12_process_135 : decode cX12_process 135 = .ok (.aload_n 0, 1) := by decide +kernel
theorem dX12_process_136 : decode cX12_process 136 = .ok (.getfield 111, 3) := by decide +kernel
theorem dX12_process_139 : decode cX12_process 139 = .ok (.iload_n 1, 1) := by decide +kernel
theorem dX12_process_140 : decode cX12_process 140 = .ok (.baload, 1) := by decide +kernel
theorem dX12_process_141 : decode cX12_process 141 = .ok (.ifCond .eq 7, 3) := by decide +kernel
theorem dX12_process_144 : decode cX12_process 144 = .ok (.iconst 0, 1) := by decide +kernel
theorem dX12_process_145 : decode cX12_process 145 = .ok (.goto 9, 3) := by decide +kernel
theorem dX12_process_148 : decode cX12_process 148 = .ok (.aload_n 0, 1) := by decide +kernel
theorem dX12_process_149 : decode cX12_process 149 = .ok (.getfield 105, 3) := by decide +kernel
theorem dX12_process_152 : decode cX12_process 152 = .ok (.iload_n 1, 1) := by decide +kernel
theorem dX12_process_153 : decode cX12_process 153 = .ok (.iaload, 1) := by decide +kernel
theorem dX12_process_154 : decode cX12_process 154 = .ok (.ireturn, 1) := by decide +kernel
theorem dX12_process_155 : decode cX12_process 155 = .ok (.aload_n 0, 1) := by decide +kernel
theorem dX12_process_156 : decode cX12_process 156 = .ok (.getfield 102, 3) := by decide +kernel
theorem dX12_process_159 : decode cX12_process 159 = .ok (.iload_n 1, 1) := by decide +kernel
theorem dX12_process_160 : decode cX12_process 160 = .ok (.iaload, 1) := by decide +kernel
theorem dX12_process_161 : decode cX12_process 161 = .ok (.ireturn, 1) := by decide +kernel
theorem dX12_process_162 : decode cX12_process 162 = .ok (.iconst (-1), 1) := by decide +kernel
theorem dX12_process_163 : decode cX12_process 163 = .ok (.ireturn, 1) := by decide +kernel
def mX12_process (I : iT) (x1 : Int32) (x2 : Int32) : Option (Int32) := if (I 186 33) = 0 then some ((-1)) else (mX12_isIn x1 0 ((I 186 60) - 1)).bind fun q1 => if q1 = 0 then some ((-1)) else if x2 = 0 then if inb x1 80 then some (I 212 x1.toNatClampNeg) else none else if x2 = 1 then if inb x1 80 then if (I 219 x1.toNatClampNeg) = 0 then some 0 else some 1 else none else if x2 = 2 then (mX12_waits I x1).bind fun q2 => if q2 = 0 then some 0 else some 1 else if x2 = 3 then if inb x1 80 then some (I 215 x1.toNatClampNeg) else none else if x2 = 4 then if inb x1 80 then if (I 219 x1.toNatClampNeg) = 0 then if inb x1 80 then (mX12_real I (I 214 x1.toNatClampNeg)).bind fun q3 => some q3 else none else some ((-1)) else none else if x2 = 5 then if inb x1 80 then if (I 219 x1.toNatClampNeg) = 0 then if inb x1 80 then some (I 217 x1.toNatClampNeg) else none else some 0 else none else if x2 = 6 then if inb x1 80 then some (I 216 x1.toNatClampNeg) else none else some ((-1))
set_option maxRecDepth 100000 in
set_option maxHeartbeats 4000000 in
theorem tX12_process {l : Launch} {K : a_KT} {g : a_GT} {IA : iT} (hko : a_kok K) (I : iT) (J : jT) (F : fT) (hF : FOK F) (x1 : Int32) (x2 : Int32) (q : Int32) (hm : mX12_process I x1 x2 = some q) : C l K g 4 0 0 yX12_process cX12_process 3 (some .int) [.ref 186, .int x1, .int x2] (hg IA I J F) (fun r2 h2 => r2 = some (.int q) ∧ h2 = hg IA I J F) := by
  unfold mX12_process at hm
  refine c_of [.ref 186, .int x1, .int x2] (by decide) (Nat.le_of_ble_eq_true rfl) rfl ?_
  refine e_aload_n (i := 0) rfl dX12_process_0 ?_
  refine l_getI 12 33 dX12_process_1 fl_RX12_414 rfl iz_186 (by decide) ?_
  refine e_if_eq 21 dX12_process_4 (by decide) (fun c_4 => ?_) (fun c_4 => ?_)
  · have hm := it_p c_4 hm
    refine e_iconst (v := (-1)) (by decide) dX12_process_21 ?_
    refine e_iret dX12_process_22 rfl ?_
    have hm := some_in hm
    subst hm
    exact ⟨rfl, rfl⟩
  · have hm := it_n c_4 hm
    refine e_iload_n (i := 1) rfl dX12_process_7 ?_
    refine e_iconst (v := 0) (by decide) dX12_process_8 ?_
    refine e_aload_n (i := 0) rfl dX12_process_9 ?_
    refine l_getI 12 60 dX12_process_10 fl_RX12_427 rfl iz_186 (by decide) ?_
    refine e_iconst (v := 1) (by decide) dX12_process_13 ?_
    refine e_isub dX12_process_14 ?_
    obtain ⟨q1, eq1, hm⟩ := ob_some hm
    refine e_cS3 hko dX12_process_15 ml_RX12_154 (by omega) (Nat.le_of_ble_eq_true rfl) (tX12_isIn hko I J F hF x1 0 ((I 186 60) - 1) _ eq1) ?_
    rintro _ _ ⟨rfl, rfl⟩
    refine e_if_ne 23 dX12_process_18 (by decide) (fun c_18 => ?_) (fun c_18 => ?_)
    · have hm := it_n c_18 hm
      refine e_iload_n (i := 2) rfl dX12_process_23 ?_
      by_cases c_24_0 : x2 = 0
      · have hm := it_p c_24_0 hm
        refine e_tableIn 68 dX12_process_24 (by rw [c_24_0]; decide) (by rw [c_24_0]; decide) (off := 44) (by rw [c_24_0]; decide) (by decide) ?_
        refine e_aload_n (i := 0) rfl dX12_process_68 ?_
        refine q_getF 12 52 212 dX12_process_69 fl_RX12_90 rfl iz_186 (fr_186_52 hF) ?_
        refine e_iload_n (i := 1) rfl dX12_process_72 ?_
        obtain ⟨c_73, hm⟩ := gd_s hm
        refine l_iald dX12_process_73 iz_212 (inb_in ln_212 c_73) (by decide) ?_
        refine e_iret dX12_process_74 rfl ?_
        have hm := some_in hm
        subst hm
        exact ⟨rfl, rfl⟩
      have hm := it_n c_24_0 hm
      by_cases c_24_1 : x2 = 1
      · have hm := it_p c_24_1 hm
        refine e_tableIn 75 dX12_process_24 (by rw [c_24_1]; decide) (by rw [c_24_1]; decide) (off := 51) (by rw [c_24_1]; decide) (by decide) ?_
        refine e_aload_n (i := 0) rfl dX12_process_75 ?_
        refine q_getF 12 59 219 dX12_process_76 fl_RX12_111 rfl iz_186 (fr_186_59 hF) ?_
        refine e_iload_n (i := 1) rfl dX12_process_79 ?_
        obtain ⟨c_80, hm⟩ := gd_s hm
        refine l_zald dX12_process_80 iz_219 (inb_in ln_219 c_80) (by decide) ?_
        refine e_if_eq 88 dX12_process_81 (by decide) (fun c_81 => ?_) (fun c_81 => ?_)
        · have hm := it_p c_81 hm
          refine e_iconst (v := 0) (by decide) dX12_process_88 ?_
          refine e_iret dX12_process_89 rfl ?_
          have hm := some_in hm
          subst hm
          exact ⟨rfl, rfl⟩
        · have hm := it_n c_81 hm
          refine e_iconst (v := 1) (by decide) dX12_process_84 ?_
          refine e_goto 89 dX12_process_85 (by decide) ?_
          refine e_iret dX12_process_89 rfl ?_
          have hm := some_in hm
          subst hm
          exact ⟨rfl, rfl⟩
      have hm := it_n c_24_1 hm
      by_cases c_24_2 : x2 = 2
      · have hm := it_p c_24_2 hm
        refine e_tableIn 90 dX12_process_24 (by rw [c_24_2]; decide) (by rw [c_24_2]; decide) (off := 66) (by rw [c_24_2]; decide) (by decide) ?_
        refine e_aload_n (i := 0) rfl dX12_process_90 ?_
        refine e_iload_n (i := 1) rfl dX12_process_91 ?_
        obtain ⟨q2, eq2, hm⟩ := ob_some hm
        refine e_cV1 hko dX12_process_92 ml_RX12_481 iz_186 (by decide) rfl (by omega) (Nat.le_of_ble_eq_true rfl) (tX12_waits hko I J F hF x1 _ eq2) ?_
        rintro _ _ ⟨rfl, rfl⟩
        refine e_if_eq 102 dX12_process_95 (by decide) (fun c_95 => ?_) (fun c_95 => ?_)
        · have hm := it_p c_95 hm
          refine e_iconst (v := 0) (by decide) dX12_process_102 ?_
          refine e_iret dX12_process_103 rfl ?_
          have hm := some_in hm
          subst hm
          exact ⟨rfl, rfl⟩
        · have hm := it_n c_95 hm
          refine e_iconst (v := 1) (by decide) dX12_process_98 ?_
          refine e_goto 103 dX12_process_99 (by decide) ?_
          refine e_iret dX12_process_103 rfl ?_
          have hm := some_in hm
          subst hm
          exact ⟨rfl, rfl⟩
      have hm := it_n c_24_2 hm
      by_cases c_24_3 : x2 = 3
      · have hm := it_p c_24_3 hm
        refine e_tableIn 104 dX12_process_24 (by rw [c_24_3]; decide) (by rw [c_24_3]; decide) (off := 80) (by rw [c_24_3]; decide) (by decide) ?_
        refine e_aload_n (i := 0) rfl dX12_process_104 ?_
        refine q_getF 12 55 215 dX12_process_105 fl_RX12_99 rfl iz_186 (fr_186_55 hF) ?_
        refine e_iload_n (i := 1) rfl dX12_process_108 ?_
        obtain ⟨c_109, hm⟩ := gd_s hm
        refine l_iald dX12_process_109 iz_215 (inb_in ln_215 c_109) (by decide) ?_
        refine e_iret dX12_process_110 rfl ?_
        have hm := some_in hm
        subst hm
        exact ⟨rfl, rfl⟩
      have hm := it_n c_24_3 hm
      by_cases c_24_4 : x2 = 4
      · have hm := it_p c_24_4 hm
        refine e_tableIn 111 dX12_process_24 (by rw [c_24_4]; decide) (by rw [c_24_4]; decide) (off := 87) (by rw [c_24_4]; decide) (by decide) ?_
        refine e_aload_n (i := 0) rfl dX12_process_111 ?_
        refine q_getF 12 59 219 dX12_process_112 fl_RX12_111 rfl iz_186 (fr_186_59 hF) ?_
        refine e_iload_n (i := 1) rfl dX12_process_115 ?_
        obtain ⟨c_116, hm⟩ := gd_s hm
        refine l_zald dX12_process_116 iz_219 (inb_in ln_219 c_116) (by decide) ?_
        refine e_if_eq 124 dX12_process_117 (by decide) (fun c_117 => ?_) (fun c_117 => ?_)
        · have hm := it_p c_117 hm
          refine e_aload_n (i := 0) rfl dX12_process_124 ?_
          refine e_aload_n (i := 0) rfl dX12_process_125 ?_
          refine q_getF 12 54 214 dX12_process_126 fl_RX12_96 rfl iz_186 (fr_186_54 hF) ?_
          refine e_iload_n (i := 1) rfl dX12_process_129 ?_
          obtain ⟨c_130, hm⟩ := gd_s hm
          refine l_iald dX12_process_130 iz_214 (inb_in ln_214 c_130) (by decide) ?_
          obtain ⟨q3, eq3, hm⟩ := ob_some hm
          refine e_cV1 hko dX12_process_131 ml_RX12_469 iz_186 (by decide) rfl (by omega) (Nat.le_of_ble_eq_true rfl) (tX12_real hko I J F hF (I 214 x1.toNatClampNeg) _ eq3) ?_
          rintro _ _ ⟨rfl, rfl⟩
          refine e_iret dX12_process_134 rfl ?_
          have hm := some_in hm
          subst hm
          exact ⟨rfl, rfl⟩
        · have hm := it_n c_117 hm
          refine e_iconst (v := (-1)) (by decide) dX12_process_120 ?_
          refine e_goto 134 dX12_process_121 (by decide) ?_
          refine e_iret dX12_process_134 rfl ?_
          have hm := some_in hm
          subst hm
          exact ⟨rfl, rfl⟩
      have hm := it_n c_24_4 hm
      by_cases c_24_5 : x2 = 5
      · have hm := it_p c_24_5 hm
        refine e_tableIn 135 dX12_process_24 (by rw [c_24_5]; decide) (by rw [c_24_5]; decide) (off := 111) (by rw [c_24_5]; decide) (by decide) ?_
        refine e_aload_n (i := 0) rfl dX12_process_135 ?_
        refine q_getF 12 59 219 dX12_process_136 fl_RX12_111 rfl iz_186 (fr_186_59 hF) ?_
        refine e_iload_n (i := 1) rfl dX12_process_139 ?_
        obtain ⟨c_140, hm⟩ := gd_s hm
        refine l_zald dX12_process_140 iz_219 (inb_in ln_219 c_140) (by decide) ?_
        refine e_if_eq 148 dX12_process_141 (by decide) (fun c_141 => ?_) (fun c_141 => ?_)
        · have hm := it_p c_141 hm
          refine e_aload_n (i := 0) rfl dX12_process_148 ?_
          refine q_getF 12 57 217 dX12_process_149 fl_RX12_105 rfl iz_186 (fr_186_57 hF) ?_
          refine e_iload_n (i := 1) rfl dX12_process_152 ?_
          obtain ⟨c_153, hm⟩ := gd_s hm
          refine l_iald dX12_process_153 iz_217 (inb_in ln_217 c_153) (by decide) ?_
          refine e_iret dX12_process_154 rfl ?_
          have hm := some_in hm
          subst hm
          exact ⟨rfl, rfl⟩
        · have hm := it_n c_141 hm
          refine e_iconst (v := 0) (by decide) dX12_process_144 ?_
          refine e_goto 154 dX12_process_145 (by decide) ?_
          refine e_iret dX12_process_154 rfl ?_
          have hm := some_in hm
          subst hm
          exact ⟨rfl, rfl⟩
      have hm := it_n c_24_5 hm
      by_cases c_24_6 : x2 = 6
      · have hm := it_p c_24_6 hm
        refine e_tableIn 155 dX12_process_24 (by rw [c_24_6]; decide) (by rw [c_24_6]; decide) (off := 131) (by rw [c_24_6]; decide) (by decide) ?_
        refine e_aload_n (i := 0) rfl dX12_process_155 ?_
        refine q_getF 12 56 216 dX12_process_156 fl_RX12_102 rfl iz_186 (fr_186_56 hF) ?_
        refine e_iload_n (i := 1) rfl dX12_process_159 ?_
        obtain ⟨c_160, hm⟩ := gd_s hm
        refine l_iald dX12_process_160 iz_216 (inb_in ln_216 c_160) (by decide) ?_
        refine e_iret dX12_process_161 rfl ?_
        have hm := some_in hm
        subst hm
        exact ⟨rfl, rfl⟩
      have hm := it_n c_24_6 hm
      have n_24_0 := lv_neT (a := 0) c_24_0 (by decide)
      have n_24_1 := lv_neT (a := 1) c_24_1 (by decide)
      have n_24_2 := lv_neT (a := 2) c_24_2 (by decide)
      have n_24_3 := lv_neT (a := 3) c_24_3 (by decide)
      have n_24_4 := lv_neT (a := 4) c_24_4 (by decide)
      have n_24_5 := lv_neT (a := 5) c_24_5 (by decide)
      have n_24_6 := lv_neT (a := 6) c_24_6 (by decide)
      refine e_tableOut 162 dX12_process_24 (by omega) (by decide) ?_
      refine e_iconst (v := (-1)) (by decide) dX12_process_162 ?_
      refine e_iret dX12_process_163 rfl ?_
      have hm := some_in hm
      subst hm
      exact ⟨rfl, rfl⟩
    · have hm := it_p c_18 hm
      refine e_iconst (v := (-1)) (by decide) dX12_process_21 ?_
      refine e_iret dX12_process_22 rfl ?_
      have hm := some_in hm
      subst hm
      exact ⟨rfl, rfl⟩
theorem dX12_ready_0 : decode cX12_ready 0 = .ok (.aload_n 0, 1) := by decide +kernel
theorem dX12_ready_1 : decode cX12_ready 1 = .ok (.getfield 414, 3) := by decide +kernel
theorem dX12_ready_4 : decode cX12_ready 4 = .ok (.ifCond .eq 10, 3) := by decide +kernel
theorem dX12_ready_7 : decode cX12_ready 7 = .ok (.aload_n 0, 1) := by decide +kernel
theorem dX12_ready_8 : decode cX12_ready 8 = .ok (.getfield 439, 3) := by decide +kernel
theorem dX12_ready_11 : decode cX12_ready 11 = .ok (.ifCond .eq 5, 3) := by decide +kernel
theorem dX12_ready_14 : decode cX12_ready 14 = .ok (.iconst 0, 1) := by decide +kernel
theorem dX12_ready_15 : decode cX12_ready 15 = .ok (.ireturn, 1) := by decide +kernel
theorem dX12_ready_16 : decode cX12_ready 16 = .ok (.iconst 0, 1) := by decide +kernel
theorem dX12_ready_17 : decode cX12_ready 17 = .ok (.istore_n 1, 1) := by decide +kernel
theorem dX12_ready_18 : decode cX12_ready 18 = .ok (.iconst 0, 1) := by decide +kernel
theorem dX12_ready_19 : decode cX12_ready 19 = .ok (.istore_n 2, 1) := by decide +kernel
theorem dX12_ready_20 : decode cX12_ready 20 = .ok (.iload_n 2, 1) := by decide +kernel
theorem dX12_ready_21 : decode cX12_ready 21 = .ok (.aload_n 0, 1) := by decide +kernel
theorem dX12_ready_22 : decode cX12_ready 22 = .ok (.getfield 427, 3) := by decide +kernel
theorem dX12_ready_25 : decode cX12_ready 25 = .ok (.if_icmp .ge 34, 3) := by decide +kernel
theorem dX12_ready_28 : decode cX12_ready 28 = .ok (.iload_n 1, 1) := by decide +kernel
theorem dX12_ready_29 : decode cX12_ready 29 = .ok (.aload_n 0, 1) := by decide +kernel
theorem dX12_ready_30 : decode cX12_ready 30 = .ok (.getfield 111, 3) := by decide +kernel
theorem dX12_ready_33 : decode cX12_ready 33 = .ok (.iload_n 2, 1) := by decide +kernel
theorem dX12_ready_34 : decode cX12_ready 34 = .ok (.baload, 1) := by decide +kernel
theorem dX12_ready_35 : decode cX12_ready 35 = .ok (.ifCond .ne 15, 3) := by decide +kernel
theorem dX12_ready_38 : decode cX12_ready 38 = .ok (.aload_n 0, 1) := by decide +kernel
theorem dX12_ready_39 : decode cX12_ready 39 = .ok (.iload_n 2, 1) := by decide +kernel
theorem dX12_ready_40 : decode cX12_ready 40 = .ok (.invokevirtual 481, 3) := by decide +kernel
theorem dX12_ready_43 : decode cX12_ready 43 = .ok (.ifCond .ne 7, 3) := by decide +kernel
theorem dX12_ready_46 : decode cX12_ready 46 = .ok (.iconst 1, 1) := by decide +kernel
theorem dX12_ready_47 : decode cX12_ready 47 = .ok (.goto 4, 3) := by decide +kernel
theorem dX12_ready_50 : decode cX12_ready 50 = .ok (.iconst 0, 1) := by decide +kernel
theorem dX12_ready_51 : decode cX12_ready 51 = .ok (.iadd, 1) := by decide +kernel
theorem dX12_ready_52 : decode cX12_ready 52 = .ok (.istore_n 1, 1) := by decide +kernel
theorem dX12_ready_53 : decode cX12_ready 53 = .ok (.iinc 2 1, 3) := by decide +kernel
theorem dX12_ready_56 : decode cX12_ready 56 = .ok (.goto (-36), 3) := by decide +kernel
theorem dX12_ready_59 : decode cX12_ready 59 = .ok (.iload_n 1, 1) := by decide +kernel
theorem dX12_ready_60 : decode cX12_ready 60 = .ok (.ireturn, 1) := by decide +kernel
def mX12_ready_51 (k20 : iT → Int32 → Int32 → Option (Int32)) (I : iT) (x1 : Int32) (x2 : Int32) (s0 : Int32) (s1 : Int32) : Option (Int32) := k20 I (s1 + s0) (x2 + 1)
def mX12_ready_50 (k20 : iT → Int32 → Int32 → Option (Int32)) (I : iT) (x1 : Int32) (x2 : Int32) (s0 : Int32) : Option (Int32) := mX12_ready_51 (k20) I x1 x2 0 s0
def mX12_ready_20 : Nat → iT → Int32 → Int32 → Option (Int32)
  | 0, _, _, _ => none
  | n + 1, I, x1, x2 => if (I 186 60) ≤ x2 then some x1 else if inb x2 80 then if (I 219 x2.toNatClampNeg) = 0 then (mX12_waits I x2).bind fun q1 => if q1 = 0 then mX12_ready_51 (mX12_ready_20 n) I x1 x2 1 x1 else mX12_ready_50 (mX12_ready_20 n) I x1 x2 x1 else mX12_ready_50 (mX12_ready_20 n) I x1 x2 x1 else none
def mX12_ready (I : iT) : Option (Int32) := if (I 186 33) = 0 then some 0 else if (I 186 65) = 0 then mX12_ready_20 LF I 0 0 else some 0
set_option maxRecDepth 100000 in
set_option maxHeartbeats 4000000 in
theorem tX12_ready_51 {l : Launch} {K : a_KT} {g : a_GT} {IA : iT} (hko : a_kok K) {J : jT} {F : fT} {k20 : iT → Int32 → Int32 → Option (Int32)} (hk20 : ∀ (I : iT) (x1 : Int32) (x2 : Int32) (_ : FOK F) (q : Int32), k20 I x1 x2 = some q → E l K g 4 0 0 yX12_ready cX12_ready 3 (some .int) 20 [.ref 186, .int x1, .int x2] [] (hg IA I J F) (fun r2 h2 => r2 = some (.int q) ∧ h2 = hg IA I J F)) (I : iT) (x1 : Int32) (x2 : Int32) (s0 : Int32) (s1 : Int32) (hF : FOK F) (q : Int32) (hm : mX12_ready_51 k20 I x1 x2 s0 s1 = some q) : E l K g 4 0 0 yX12_ready cX12_ready 3 (some .int) 51 [.ref 186, .int x1, .int x2] [.int s0, .int s1] (hg IA I J F) (fun r2 h2 => r2 = some (.int q) ∧ h2 = hg IA I J F) := by
  unfold mX12_ready_51 at hm
  refine e_iadd dX12_ready_51 ?_
  refine q_istore_n (i := 1) (by decide) rfl dX12_ready_52 ?_
  refine q_iinc (i := 2) (x2 + 1) rfl ic_1 rfl dX12_ready_53 ?_
  refine e_goto 20 dX12_ready_56 (by decide) ?_
  refine e_weak [.ref 186, .int (s1 + s0), .int (x2 + 1)] ⟨rfl, ⟨rfl, ⟨rfl, trivial⟩⟩⟩ ?_
  exact hk20 I (s1 + s0) (x2 + 1) hF _ hm
set_option maxRecDepth 100000 in
set_option maxHeartbeats 4000000 in
theorem tX12_ready_50 {l : Launch} {K : a_KT} {g : a_GT} {IA : iT} (hko : a_kok K) {J : jT} {F : fT} {k20 : iT → Int32 → Int32 → Option (Int32)} (hk20 : ∀ (I : iT) (x1 : Int32) (x2 : Int32) (_ : FOK F) (q : Int32), k20 I x1 x2 = some q → E l K g 4 0 0 yX12_ready cX12_ready 3 (some .int) 20 [.ref 186, .int x1, .int x2] [] (hg IA I J F) (fun r2 h2 => r2 = some (.int q) ∧ h2 = hg IA I J F)) (I : iT) (x1 : Int32) (x2 : Int32) (s0 : Int32) (hF : FOK F) (q : Int32) (hm : mX12_ready_50 k20 I x1 x2 s0 = some q) : E l K g 4 0 0 yX12_ready cX12_ready 3 (some .int) 50 [.ref 186, .int x1, .int x2] [.int s0] (hg IA I J F) (fun r2 h2 => r2 = some (.int q) ∧ h2 = hg IA I J F) := by
  unfold mX12_ready_50 at hm
  refine e_iconst (v := 0) (by decide) dX12_ready_50 ?_
  refine e_weak [.ref 186, .int x1, .int x2] ⟨rfl, ⟨rfl, ⟨rfl, trivial⟩⟩⟩ ?_
  exact tX12_ready_51 hko (hk20) I x1 x2 0 s0 hF _ hm
set_option maxRecDepth 100000 in
set_option maxHeartbeats 4000000 in
theorem tX12_ready_20 {l : Launch} {K : a_KT} {g : a_GT} {IA : iT} (hko : a_kok K) {J : jT} {F : fT} : ∀ (n : Nat) (I : iT) (x1 : Int32) (x2 : Int32) (hF : FOK F) (q : Int32), mX12_ready_20 n I x1 x2 = some q → E l K g 4 0 0 yX12_ready cX12_ready 3 (some .int) 20 [.ref 186, .int x1, .int x2] [] (hg IA I J F) (fun r2 h2 => r2 = some (.int q) ∧ h2 = hg IA I J F) := by
  intro n
  induction n with
  | zero => intro I x1 x2 hF q hm; cases hm
  | succ n ih =>
    intro I x1 x2 hF q hm
    rw [mX12_ready_20] at hm
    refine e_iload_n (i := 2) rfl dX12_ready_20 ?_
    refine e_aload_n (i := 0) rfl dX12_ready_21 ?_
    refine l_getI 12 60 dX12_ready_22 fl_RX12_427 rfl iz_186 (by decide) ?_
    refine e_icmp_ge 59 dX12_ready_25 (by decide) (fun c_25 => ?_) (fun c_25 => ?_)
    · have hm := it_p c_25 hm
      refine e_iload_n (i := 1) rfl dX12_ready_59 ?_
      refine e_iret dX12_ready_60 rfl ?_
      have hm := some_in hm
      subst hm
      exact ⟨rfl, rfl⟩
    · have hm := it_n c_25 hm
      refine e_iload_n (i := 1) rfl dX12_ready_28 ?_
      refine e_aload_n (i := 0) rfl dX12_ready_29 ?_
      refine q_getF 12 59 219 dX12_ready_30 fl_RX12_111 rfl iz_186 (fr_186_59 hF) ?_
      refine e_iload_n (i := 2) rfl dX12_ready_33 ?_
      obtain ⟨c_34, hm⟩ := gd_s hm
      refine l_zald dX12_ready_34 iz_219 (inb_in ln_219 c_34) (by decide) ?_
      refine e_if_ne 50 dX12_ready_35 (by decide) (fun c_35 => ?_) (fun c_35 => ?_)
      · have hm := it_n c_35 hm
        refine e_weak [.ref 186, .int x1, .int x2] ⟨rfl, ⟨rfl, ⟨rfl, trivial⟩⟩⟩ ?_
        exact tX12_ready_50 hko (ih) I x1 x2 x1 hF _ hm
      · have hm := it_p c_35 hm
        refine e_aload_n (i := 0) rfl dX12_ready_38 ?_
        refine e_iload_n (i := 2) rfl dX12_ready_39 ?_
        obtain ⟨q1, eq1, hm⟩ := ob_some hm
        refine e_cV1 hko dX12_ready_40 ml_RX12_481 iz_186 (by decide) rfl (by omega) (Nat.le_of_ble_eq_true rfl) (tX12_waits hko I J F hF x2 _ eq1) ?_
        rintro _ _ ⟨rfl, rfl⟩
        refine e_if_ne 50 dX12_ready_43 (by decide) (fun c_43 => ?_) (fun c_43 => ?_)
        · have hm := it_n c_43 hm
          refine e_weak [.ref 186, .int x1, .int x2] ⟨rfl, ⟨rfl, ⟨rfl, trivial⟩⟩⟩ ?_
          exact tX12_ready_50 hko (ih) I x1 x2 x1 hF _ hm
        · have hm := it_p c_43 hm
          refine e_iconst (v := 1) (by decide) dX12_ready_46 ?_
          refine e_goto 51 dX12_ready_47 (by decide) ?_
          refine e_weak [.ref 186, .int x1, .int x2] ⟨rfl, ⟨rfl, ⟨rfl, trivial⟩⟩⟩ ?_
          exact tX12_ready_51 hko (ih) I x1 x2 1 x1 hF _ hm
set_option maxRecDepth 100000 in
set_option maxHeartbeats 4000000 in
theorem tX12_ready {l : Launch} {K : a_KT} {g : a_GT} {IA : iT} (hko : a_kok K) (I : iT) (J : jT) (F : fT) (hF : FOK F) (q : Int32) (hm : mX12_ready I = some q) : C l K g 4 0 0 yX12_ready cX12_ready 3 (some .int) [.ref 186] (hg IA I J F) (fun r2 h2 => r2 = some (.int q) ∧ h2 = hg IA I J F) := by
  unfold mX12_ready at hm
  refine c_of [.ref 186, .null, .null] (by decide) (Nat.le_of_ble_eq_true rfl) rfl ?_
  refine e_aload_n (i := 0) rfl dX12_ready_0 ?_
  refine l_getI 12 33 dX12_ready_1 fl_RX12_414 rfl iz_186 (by decide) ?_
  refine e_if_eq 14 dX12_ready_4 (by decide) (fun c_4 => ?_) (fun c_4 => ?_)
  · have hm := it_p c_4 hm
    refine e_iconst (v := 0) (by decide) dX12_ready_14 ?_
    refine e_iret dX12_ready_15 rfl ?_
    have hm := some_in hm
    subst hm
    exact ⟨rfl, rfl⟩
  · have hm := it_n c_4 hm
    refine e_aload_n (i := 0) rfl dX12_ready_7 ?_
    refine l_getI 12 65 dX12_ready_8 fl_RX12_439 rfl iz_186 (by decide) ?_
    refine e_if_eq 16 dX12_ready_11 (by decide) (fun c_11 => ?_) (fun c_11 => ?_)
    · have hm := it_p c_11 hm
      refine e_iconst (v := 0) (by decide) dX12_ready_16 ?_
      refine q_istore_n (i := 1) (by decide) rfl dX12_ready_17 ?_
      refine e_iconst (v := 0) (by decide) dX12_ready_18 ?_
      refine q_istore_n (i := 2) (by decide) rfl dX12_ready_19 ?_
      refine e_weak [.ref 186, .int 0, .int 0] ⟨rfl, ⟨rfl, ⟨rfl, trivial⟩⟩⟩ ?_
      exact tX12_ready_20 hko LF I 0 0 hF _ hm
    · have hm := it_n c_11 hm
      refine e_iconst (v := 0) (by decide) dX12_ready_14 ?_
      refine e_iret dX12_ready_15 rfl ?_
      have hm := some_in hm
      subst hm
      exact ⟨rfl, rfl⟩
theorem dX12_which_0 : decode cX12_which 0 = .ok (.iload_n 1, 1) := by decide +kernel
theorem dX12_which_1 : decode cX12_which 1 = .ok (.iconst 0, 1) := by decide +kernel
theorem dX12_which_2 : decode cX12_which 2 = .ok (.aload_n 0, 1) := by decide +kernel
theorem dX12_which_3 : decode cX12_which 3 = .ok (.invokevirtual 484, 3) := by decide +kernel
theorem dX12_which_6 : decode cX12_which 6 = .ok (.iconst 1, 1) := by decide +kernel
theorem dX12_which_7 : decode cX12_which 7 = .ok (.isub, 1) := by decide +kernel
theorem dX12_which_8 : decode cX12_which 8 = .ok (.invokestatic 154, 3) := by decide +kernel
theorem dX12_which_11 : decode cX12_which 11 = .ok (.ifCond .ne 5, 3) := by decide +kernel
theorem dX12_which_14 : decode cX12_which 14 = .ok (.iconst (-1), 1) := by decide +kernel
theorem dX12_which_15 : decode cX12_which 15 = .ok (.ireturn, 1) := by decide +kernel
theorem dX12_which_16 : decode cX12_which 16 = .ok (.iconst (-1), 1) := by decide +kernel
theorem dX12_which_17 : decode cX12_which 17 = .ok (.istore_n 2, 1) := by decide +kernel
theorem dX12_which_18 : decode cX12_which 18 = .ok (.iconst 0, 1) := by decide +kernel
theorem dX12_which_19 : decode cX12_which 19 = .ok (.istore_n 3, 1) := by decide +kernel
theorem dX12_which_20 : decode cX12_which 20 = .ok (.iload_n 3, 1) := by decide +kernel
theorem dX12_which_21 : decode cX12_which 21 = .ok (.iload_n 1, 1) := by decide +kernel
theorem dX12_which_22 : decode cX12_which 22 = .ok (.if_icmp .gt 35, 3) := by decide +kernel
theorem dX12_which_25 : decode cX12_which 25 = .ok (.iinc 2 1, 3) := by decide +kernel
theorem dX12_which_28 : decode cX12_which 28 = .ok (.aload_n 0, 1) := by decide +kernel
theorem dX12_which_29 : decode cX12_which 29 = .ok (.getfield 111, 3) := by decide +kernel
theorem dX12_which_32 : decode cX12_which 32 = .ok (.iload_n 2, 1) := by decide +kernel
theorem dX12_which_33 : decode cX12_which 33 = .ok (.baload, 1) := by decide +kernel
theorem dX12_which_34 : decode cX12_which 34 = .ok (.ifCond .ne 11, 3) := by decide +kernel
theorem dX12_which_37 : decode cX12_which 37 = .ok (.aload_n 0, 1) := by decide +kernel
theorem dX12_which_38 : decode cX12_which 38 = .ok (.iload_n 2, 1) := by decide +kernel
theorem dX12_which_39 : decode cX12_which 39 = .ok (.invokevirtual 481, 3) := by decide +kernel
theorem dX12_which_42 : decode cX12_which 42 = .ok (.ifCond .eq 9, 3) := by decide +kernel
theorem dX12_which_45 : decode cX12_which 45 = .ok (.iinc 2 1, 3) := by decide +kernel
theorem dX12_which_48 : decode cX12_which 48 = .ok (.goto (-20), 3) := by decide +kernel
theorem dX12_which_51 : decode cX12_which 51 = .ok (.iinc 3 1, 3) := by decide +kernel
theorem dX12_which_54 : decode cX12_which 54 = .ok (.goto (-34), 3) := by decide +kernel
theorem dX12_which_57 : decode cX12_which 57 = .ok (.iload_n 2, 1) := by decide +kernel
theorem dX12_which_58 : decode cX12_which 58 = .ok (.ireturn, 1) := by decide +kernel
def mX12_which_45 (k20 : iT → Int32 → Int32 → Int32 → Option (Int32)) (k28 : iT → Int32 → Int32 → Int32 → Option (Int32)) (I : iT) (x1 : Int32) (x2 : Int32) (x3 : Int32) : Option (Int32) := k28 I x1 (x2 + 1) x3
def mX12_which_28 (k20 : iT → Int32 → Int32 → Int32 → Option (Int32)) : Nat → iT → Int32 → Int32 → Int32 → Option (Int32)
  | 0, _, _, _, _ => none
  | n + 1, I, x1, x2, x3 => if inb x2 80 then if (I 219 x2.toNatClampNeg) = 0 then (mX12_waits I x2).bind fun q1 => if q1 = 0 then k20 I x1 x2 (x3 + 1) else mX12_which_45 (k20) (mX12_which_28 k20 n) I x1 x2 x3 else mX12_which_45 (k20) (mX12_which_28 k20 n) I x1 x2 x3 else none
def mX12_which_20 : Nat → iT → Int32 → Int32 → Int32 → Option (Int32)
  | 0, _, _, _, _ => none
  | n + 1, I, x1, x2, x3 => if x1 < x3 then some x2 else mX12_which_28 (mX12_which_20 n) LF I x1 (x2 + 1) x3
def mX12_which (I : iT) (x1 : Int32) : Option (Int32) := (mX12_ready I).bind fun q2 => (mX12_isIn x1 0 (q2 - 1)).bind fun q3 => if q3 = 0 then some ((-1)) else mX12_which_20 LF I x1 ((-1)) 0
set_option maxRecDepth 100000 in
set_option maxHeartbeats 4000000 in
theorem tX12_which_45 {l : Launch} {K : a_KT} {g : a_GT} {IA : iT} (hko : a_kok K) {J : jT} {F : fT} {k20 : iT → Int32 → Int32 → Int32 → Option (Int32)} {k28 : iT → Int32 → Int32 → Int32 → Option (Int32)} (hk20 : ∀ (I : iT) (x1 : Int32) (x2 : Int32) (x3 : Int32) (_ : FOK F) (q : Int32), k20 I x1 x2 x3 = some q → E l K g 5 0 0 yX12_which cX12_which 4 (some .int) 20 [.ref 186, .int x1, .int x2, .int x3] [] (hg IA I J F) (fun r2 h2 => r2 = some (.int q) ∧ h2 = hg IA I J F)) (hk28 : ∀ (I : iT) (x1 : Int32) (x2 : Int32) (x3 : Int32) (_ : FOK F) (q : Int32), k28 I x1 x2 x3 = some q → E l K g 5 0 0 yX12_which cX12_which 4 (some .int) 28 [.ref 186, .int x1, .int x2, .int x3] [] (hg IA I J F) (fun r2 h2 => r2 = some (.int q) ∧ h2 = hg IA I J F)) (I : iT) (x1 : Int32) (x2 : Int32) (x3 : Int32) (hF : FOK F) (q : Int32) (hm : mX12_which_45 k20 k28 I x1 x2 x3 = some q) : E l K g 5 0 0 yX12_which cX12_which 4 (some .int) 45 [.ref 186, .int x1, .int x2, .int x3] [] (hg IA I J F) (fun r2 h2 => r2 = some (.int q) ∧ h2 = hg IA I J F) := by
  unfold mX12_which_45 at hm
  refine q_iinc (i := 2) (x2 + 1) rfl ic_1 rfl dX12_which_45 ?_
  refine e_goto 28 dX12_which_48 (by decide) ?_
  refine e_weak [.ref 186, .int x1, .int (x2 + 1), .int x3] ⟨rfl, ⟨rfl, ⟨rfl, ⟨rfl, trivial⟩⟩⟩⟩ ?_
  exact hk28 I x1 (x2 + 1) x3 hF _ hm
set_option maxRecDepth 100000 in
set_option maxHeartbeats 4000000 in
theorem tX12_which_28 {l : Launch} {K : a_KT} {g : a_GT} {IA : iT} (hko : a_kok K) {J : jT} {F : fT} {k20 : iT → Int32 → Int32 → Int32 → Option (Int32)} (hk20 : ∀ (I : iT) (x1 : Int32) (x2 : Int32) (x3 : Int32) (_ : FOK F) (q : Int32), k20 I x1 x2 x3 = some q → E l K g 5 0 0 yX12_which cX12_which 4 (some .int) 20 [.ref 186, .int x1, .int x2, .int x3] [] (hg IA I J F) (fun r2 h2 => r2 = some (.int q) ∧ h2 = hg IA I J F)) : ∀ (n : Nat) (I : iT) (x1 : Int32) (x2 : Int32) (x3 : Int32) (hF : FOK F) (q : Int32), mX12_which_28 k20 n I x1 x2 x3 = some q → E l K g 5 0 0 yX12_which cX12_which 4 (some .int) 28 [.ref 186, .int x1, .int x2, .int x3] [] (hg IA I J F) (fun r2 h2 => r2 = some (.int q) ∧ h2 = hg IA I J F) := by
  intro n
  induction n with
  | zero => intro I x1 x2 x3 hF q hm; cases hm
  | succ n ih =>
    intro I x1 x2 x3 hF q hm
    rw [mX12_which_28] at hm
    refine e_aload_n (i := 0) rfl dX12_which_28 ?_
    refine q_getF 12 59 219 dX12_which_29 fl_RX12_111 rfl iz_186 (fr_186_59 hF) ?_
    refine e_iload_n (i := 2) rfl dX12_which_32 ?_
    obtain ⟨c_33, hm⟩ := gd_s hm
    refine l_zald dX12_which_33 iz_219 (inb_in ln_219 c_33) (by decide) ?_
    refine e_if_ne 45 dX12_which_34 (by decide) (fun c_34 => ?_) (fun c_34 => ?_)
    · have hm := it_n c_34 hm
      refine e_weak [.ref 186, .int x1, .int x2, .int x3] ⟨rfl, ⟨rfl, ⟨rfl, ⟨rfl, trivial⟩⟩⟩⟩ ?_
      exact tX12_which_45 hko (hk20) (ih) I x1 x2 x3 hF _ hm
    · have hm := it_p c_34 hm
      refine e_aload_n (i := 0) rfl dX12_which_37 ?_
      refine e_iload_n (i := 2) rfl dX12_which_38 ?_
      obtain ⟨q1, eq1, hm⟩ := ob_some hm
      refine e_cV1 hko dX12_which_39 ml_RX12_481 iz_186 (by decide) rfl (by omega) (Nat.le_of_ble_eq_true rfl) (tX12_waits hko I J F hF x2 _ eq1) ?_
      rintro _ _ ⟨rfl, rfl⟩
      refine e_if_eq 51 dX12_which_42 (by decide) (fun c_42 => ?_) (fun c_42 => ?_)
      · have hm := it_p c_42 hm
        refine q_iinc (i := 3) (x3 + 1) rfl ic_1 rfl dX12_which_51 ?_
        refine e_goto 20 dX12_which_54 (by decide) ?_
        refine e_weak [.ref 186, .int x1, .int x2, .int (x3 + 1)] ⟨rfl, ⟨rfl, ⟨rfl, ⟨rfl, trivial⟩⟩⟩⟩ ?_
        exact hk20 I x1 x2 (x3 + 1) hF _ hm
      · have hm := it_n c_42 hm
        refine e_weak [.ref 186, .int x1, .int x2, .int x3] ⟨rfl, ⟨rfl, ⟨rfl, ⟨rfl, trivial⟩⟩⟩⟩ ?_
        exact tX12_which_45 hko (hk20) (ih) I x1 x2 x3 hF _ hm
set_option maxRecDepth 100000 in
set_option maxHeartbeats 4000000 in
theorem tX12_which_20 {l : Launch} {K : a_KT} {g : a_GT} {IA : iT} (hko : a_kok K) {J : jT} {F : fT} : ∀ (n : Nat) (I : iT) (x1 : Int32) (x2 : Int32) (x3 : Int32) (hF : FOK F) (q : Int32), mX12_which_20 n I x1 x2 x3 = some q → E l K g 5 0 0 yX12_which cX12_which 4 (some .int) 20 [.ref 186, .int x1, .int x2, .int x3] [] (hg IA I J F) (fun r2 h2 => r2 = some (.int q) ∧ h2 = hg IA I J F) := by
  intro n
  induction n with
  | zero => intro I x1 x2 x3 hF q hm; cases hm
  | succ n ih =>
    intro I x1 x2 x3 hF q hm
    rw [mX12_which_20] at hm
    refine e_iload_n (i := 3) rfl dX12_which_20 ?_
    refine e_iload_n (i := 1) rfl dX12_which_21 ?_
    refine e_icmp_gt 57 dX12_which_22 (by decide) (fun c_22 => ?_) (fun c_22 => ?_)
    · have hm := it_p c_22 hm
      refine e_iload_n (i := 2) rfl dX12_which_57 ?_
      refine e_iret dX12_which_58 rfl ?_
      have hm := some_in hm
      subst hm
      exact ⟨rfl, rfl⟩
    · have hm := it_n c_22 hm
      refine q_iinc (i := 2) (x2 + 1) rfl ic_1 rfl dX12_which_25 ?_
      refine e_weak [.ref 186, .int x1, .int (x2 + 1), .int x3] ⟨rfl, ⟨rfl, ⟨rfl, ⟨rfl, trivial⟩⟩⟩⟩ ?_
      exact tX12_which_28 hko (ih) LF I x1 (x2 + 1) x3 hF _ hm
set_option maxRecDepth 100000 in
set_option maxHeartbeats 4000000 in
theorem tX12_which {l : Launch} {K : a_KT} {g : a_GT} {IA : iT} (hko : a_kok K) (I : iT) (J : jT) (F : fT) (hF : FOK F) (x1 : Int32) (q : Int32) (hm : mX12_which I x1 = some q) : C l K g 5 0 0 yX12_which cX12_which 4 (some .int) [.ref 186, .int x1] (hg IA I J F) (fun r2 h2 => r2 = some (.int q) ∧ h2 = hg IA I J F) := by
  unfold mX12_which at hm
  refine c_of [.ref 186, .int x1, .null, .null] (by decide) (Nat.le_of_ble_eq_true rfl) rfl ?_
  refine e_iload_n (i := 1) rfl dX12_which_0 ?_
  refine e_iconst (v := 0) (by decide) dX12_which_1 ?_
  refine e_aload_n (i := 0) rfl dX12_which_2 ?_
  obtain ⟨q2, eq2, hm⟩ := ob_some hm
  refine e_cV0 hko dX12_which_3 ml_RX12_484 iz_186 (by decide) rfl (by omega) (Nat.le_of_ble_eq_true rfl) (tX12_ready hko I J F hF _ eq2) ?_
  rintro _ _ ⟨rfl, rfl⟩
  refine e_iconst (v := 1) (by decide) dX12_which_6 ?_
  refine e_isub dX12_which_7 ?_
  obtain ⟨q3, eq3, hm⟩ := ob_some hm
  refine e_cS3 hko dX12_which_8 ml_RX12_154 (by omega) (Nat.le_of_ble_eq_true rfl) (tX12_isIn hko I J F hF x1 0 (q2 - 1) _ eq3) ?_
  rintro _ _ ⟨rfl, rfl⟩
  refine e_if_ne 16 dX12_which_11 (by decide) (fun c_11 => ?_) (fun c_11 => ?_)
  · have hm := it_n c_11 hm
    refine e_iconst (v := (-1)) (by decide) dX12_which_16 ?_
    refine q_istore_n (i := 2) (by decide) rfl dX12_which_17 ?_
    refine e_iconst (v := 0) (by decide) dX12_which_18 ?_
    refine q_istore_n (i := 3) (by decide) rfl dX12_which_19 ?_
    refine e_weak [.ref 186, .int x1, .int ((-1)), .int 0] ⟨rfl, ⟨rfl, ⟨rfl, ⟨rfl, trivial⟩⟩⟩⟩ ?_
    exact tX12_which_20 hko LF I x1 ((-1)) 0 hF _ hm
  · have hm := it_p c_11 hm
    refine e_iconst (v := (-1)) (by decide) dX12_which_14 ?_
    refine e_iret dX12_which_15 rfl ?_
    have hm := some_in hm
    subst hm
    exact ⟨rfl, rfl⟩
theorem dX12_step_0 : decode cX12_step 0 = .ok (.aload_n 0, 1) := by decide +kernel
theorem dX12_step_1 : decode cX12_step 1 = .ok (.iload_n 1, 1) := by decide +kernel
theorem dX12_step_2 : decode cX12_step 2 = .ok (.invokevirtual 517, 3) := by decide +kernel
theorem dX12_step_5 : decode cX12_step 5 = .ok (.istore_n 2, 1) := by decide +kernel
theorem dX12_step_6 : decode cX12_step 6 = .ok (.iload_n 2, 1) := by decide +kernel
theorem dX12_step_7 : decode cX12_step 7 = .ok (.iconst (-1), 1) := by decide +kernel
theorem dX12_step_8 : decode cX12_step 8 = .ok (.if_icmp .ne 5, 3) := by decide +kernel
theorem dX12_step_11 : decode cX12_step 11 = .ok (.iconst (-1), 1) := by decide +kernel
theorem dX12_step_12 : decode cX12_step 12 = .ok (.ireturn, 1) := by decide +kernel
theorem dX12_step_13 : decode cX12_step 13 = .ok (.aload_n 0, 1) := by decide +kernel
theorem dX12_step_14 : decode cX12_step 14 = .ok (.getfield 430, 3) := by decide +kernel
theorem dX12_step_17 : decode cX12_step 17 = .ok (.sipush 600, 3) := by decide +kernel
theorem dX12_step_20 : decode cX12_step 20 = .ok (.if_icmp .eq 28, 3) := by decide +kernel
theorem dX12_step_23 : decode cX12_step 23 = .ok (.aload_n 0, 1) := by decide +kernel
theorem dX12_step_24 : decode cX12_step 24 = .ok (.getfield 17, 3) := by decide +kernel
theorem dX12_step_27 : decode cX12_step 27 = .ok (.aload_n 0, 1) := by decide +kernel
theorem dX12_step_28 : decode cX12_step 28 = .ok (.getfield 93, 3) := by decide +kernel
theorem dX12_step_31 : decode cX12_step 31 = .ok (.iload_n 2, 1) := by decide +kernel
theorem dX12_step_32 : decode cX12_step 32 = .ok (.iaload, 1) := by decide +kernel
theorem dX12_step_33 : decode cX12_step 33 = .ok (.iaload, 1) := by decide +kernel
theorem dX12_step_34 : decode cX12_step 34 = .ok (.bipush 48, 2) := by decide +kernel
theorem dX12_step_36 : decode cX12_step 36 = .ok (.if_icmp .ne 19, 3) := by decide +kernel
theorem dX12_step_39 : decode cX12_step 39 = .ok (.aload_n 0, 1) := by decide +kernel
theorem dX12_step_40 : decode cX12_step 40 = .ok (.getfield 427, 3) := by decide +kernel
theorem dX12_step_43 : decode cX12_step 43 = .ok (.bipush 80, 2) := by decide +kernel
theorem dX12_step_45 : decode cX12_step 45 = .ok (.if_icmp .ne 10, 3) := by decide +kernel
theorem dX12_step_48 : decode cX12_step 48 = .ok (.aload_n 0, 1) := by decide +kernel
theorem dX12_step_49 : decode cX12_step 49 = .ok (.iconst 1, 1) := by decide +kernel
theorem dX12_step_50 : decode cX12_step 50 = .ok (.putfield 439, 3) := by decide +kernel
theorem dX12_step_53 : decode cX12_step 53 = .ok (.iconst (-1), 1) := by decide +kernel
theorem dX12_step_54 : decode cX12_step 54 = .ok (.ireturn, 1) := by decide +kernel
theorem dX12_step_55 : decode cX12_step 55 = .ok (.aload_n 0, 1) := by decide +kernel
theorem dX12_step_56 : decode cX12_step 56 = .ok (.dup, 1) := by decide +kernel
theorem dX12_step_57 : decode cX12_step 57 = .ok (.getfield 430, 3) := by decide +kernel
theorem dX12_step_60 : decode cX12_step 60 = .ok (.iconst 1, 1) := by decide +kernel
theorem dX12_step_61 : decode cX12_step 61 = .ok (.iadd, 1) := by decide +kernel
theorem dX12_step_62 : decode cX12_step 62 = .ok (.putfield 430, 3) := by decide +kernel
theorem dX12_step_65 : decode cX12_step 65 = .ok (.aload_n 0, 1) := by decide +kernel
theorem dX12_step_66 : decode cX12_step 66 = .ok (.getfield 99, 3) := by decide +kernel
theorem dX12_step_69 : decode cX12_step 69 = .ok (.iload_n 2, 1) := by decide +kernel
theorem dX12_step_70 : decode cX12_step 70 = .ok (.dup2, 1) := by decide +kernel
theorem dX12_step_71 : decode cX12_step 71 = .ok (.iaload, 1) := by decide +kernel
theorem dX12_step_72 : decode cX12_step 72 = .ok (.iconst 1, 1) := by decide +kernel
theorem dX12_step_73 : decode cX12_step 73 = .ok (.iadd, 1) := by decide +kernel
theorem dX12_step_74 : decode cX12_step 74 = .ok (.iastore, 1) := by decide +kernel
theorem dX12_step_75 : decode cX12_step 75 = .ok (.aload_n 0, 1) := by decide +kernel
theorem dX12_step_76 : decode cX12_step 76 = .ok (.iload_n 2, 1) := by decide +kernel
theorem dX12_step_77 : decode cX12_step 77 = .ok (.invokevirtual 520, 3) := by decide +kernel
theorem dX12_step_80 : decode cX12_step 80 = .ok (.aload_n 0, 1) := by decide +kernel
theorem dX12_step_81 : decode cX12_step 81 = .ok (.getfield 111, 3) := by decide +kernel
theorem dX12_step_84 : decode cX12_step 84 = .ok (.iload_n 2, 1) := by decide +kernel
theorem dX12_step_85 : decode cX12_step 85 = .ok (.baload, 1) := by decide +kernel
theorem dX12_step_86 : decode cX12_step 86 = .ok (.ifCond .ne 8, 3) := by decide +kernel
theorem dX12_step_89 : decode cX12_step 89 = .ok (.aload_n 0, 1) := by decide +kernel
theorem dX12_step_90 : decode cX12_step 90 = .ok (.iload_n 2, 1) := by decide +kernel
theorem dX12_step_91 : decode cX12_step 91 = .ok (.invokevirtual 452, 3) := by decide +kernel
theorem dX12_step_94 : decode cX12_step 94 = .ok (.iload_n 2, 1) := by decide +kernel
theorem dX12_step_95 : decode cX12_step 95 = .ok (.ireturn, 1) := by decide +kernel
def mX12_step_48 (I : iT) (J : jT) (x1 : Int32) (x2 : Int32) : Option (Int32 × iT × jT) := some ((-1), a_u2 I 186 65 1, J)
def mX12_step_55 (I : iT) (J : jT) (x1 : Int32) (x2 : Int32) : Option (Int32 × iT × jT) := if inb x2 80 then if inb x2 80 then (mX12_goesOn (a_u2 (a_u2 I 186 62 ((I 186 62) + 1)) 215 x2.toNatClampNeg (((a_u2 I 186 62 ((I 186 62) + 1)) 215 x2.toNatClampNeg) + 1)) J x2).bind fun q1 => if inb x2 80 then if (q1.1 219 x2.toNatClampNeg) = 0 then (mX12_settles q1.1 q1.2 x2).bind fun q2 => some (x2, q2, q1.2) else some (x2, q1.1, q1.2) else none else none else none
def mX12_step (I : iT) (J : jT) (x1 : Int32) : Option (Int32 × iT × jT) := (mX12_which I x1).bind fun q3 => if q3 = ((-1)) then some ((-1), I, J) else if (I 186 62) = 600 then mX12_step_48 I J x1 q3 else if inb q3 80 then if inb (I 213 q3.toNatClampNeg) 2800 then if (I 188 (I 213 q3.toNatClampNeg).toNatClampNeg) = 48 then if (I 186 60) = 80 then mX12_step_48 I J x1 q3 else mX12_step_55 I J x1 q3 else mX12_step_55 I J x1 q3 else none else none
set_option maxRecDepth 100000 in
set_option maxHeartbeats 4000000 in
theorem tX12_step_48 {l : Launch} {K : a_KT} {g : a_GT} {IA : iT} (hko : a_kok K) {F : fT} (I : iT) (J : jT) (x1 : Int32) (x2 : Int32) (hF : FOK F) (q : Int32 × iT × jT) (hm : mX12_step_48 I J x1 x2 = some q) : E l K g 455 0 0 yX12_step cX12_step 3 (some .int) 48 [.ref 186, .int x1, .int x2] [] (hg IA I J F) (fun r2 h2 => r2 = some (.int q.1) ∧ h2 = hg IA q.2.1 q.2.2 F) := by
  unfold mX12_step_48 at hm
  refine e_aload_n (i := 0) rfl dX12_step_48 ?_
  refine e_iconst (v := 1) (by decide) dX12_step_49 ?_
  refine l_putZ 12 65 dX12_step_50 fl_RX12_439 rfl rfl (by decide) iz_186 (by decide) ?_
  refine e_iconst (v := (-1)) (by decide) dX12_step_53 ?_
  refine e_iret dX12_step_54 rfl ?_
  have hm := some_in hm
  subst hm
  exact ⟨rfl, rfl⟩
set_option maxRecDepth 100000 in
set_option maxHeartbeats 4000000 in
theorem tX12_step_55 {l : Launch} {K : a_KT} {g : a_GT} {IA : iT} (hko : a_kok K) {F : fT} (I : iT) (J : jT) (x1 : Int32) (x2 : Int32) (hF : FOK F) (q : Int32 × iT × jT) (hm : mX12_step_55 I J x1 x2 = some q) : E l K g 455 0 0 yX12_step cX12_step 3 (some .int) 55 [.ref 186, .int x1, .int x2] [] (hg IA I J F) (fun r2 h2 => r2 = some (.int q.1) ∧ h2 = hg IA q.2.1 q.2.2 F) := by
  unfold mX12_step_55 at hm
  refine e_aload_n (i := 0) rfl dX12_step_55 ?_
  refine e_dup rfl dX12_step_56 ?_
  refine l_getI 12 62 dX12_step_57 fl_RX12_430 rfl iz_186 (by decide) ?_
  refine e_iconst (v := 1) (by decide) dX12_step_60 ?_
  refine e_iadd dX12_step_61 ?_
  refine l_putI 12 62 dX12_step_62 fl_RX12_430 rfl rfl iz_186 (by decide) ?_
  refine e_aload_n (i := 0) rfl dX12_step_65 ?_
  refine q_getF 12 55 215 dX12_step_66 fl_RX12_99 rfl iz_186 (fr_186_55 hF) ?_
  refine e_iload_n (i := 2) rfl dX12_step_69 ?_
  refine e_dup2 rfl rfl dX12_step_70 ?_
  obtain ⟨c_71, hm⟩ := gd_s hm
  refine l_iald dX12_step_71 iz_215 (inb_in ln_215 c_71) (by decide) ?_
  refine e_iconst (v := 1) (by decide) dX12_step_72 ?_
  refine e_iadd dX12_step_73 ?_
  obtain ⟨c_74, hm⟩ := gd_s hm
  refine l_iast dX12_step_74 iz_215 (inb_in ln_215 c_74) (by decide) ?_
  refine e_aload_n (i := 0) rfl dX12_step_75 ?_
  refine e_iload_n (i := 2) rfl dX12_step_76 ?_
  obtain ⟨q1, eq1, hm⟩ := ob_some hm
  refine e_cV1 hko dX12_step_77 ml_RX12_520 iz_186 (by decide) rfl (by omega) (Nat.le_of_ble_eq_true rfl) (tX12_goesOn hko (a_u2 (a_u2 I 186 62 ((I 186 62) + 1)) 215 x2.toNatClampNeg (((a_u2 I 186 62 ((I 186 62) + 1)) 215 x2.toNatClampNeg) + 1)) J F hF x2 _ eq1) ?_
  rintro _ _ ⟨rfl, rfl⟩
  refine e_aload_n (i := 0) rfl dX12_step_80 ?_
  refine q_getF 12 59 219 dX12_step_81 fl_RX12_111 rfl iz_186 (fr_186_59 hF) ?_
  refine e_iload_n (i := 2) rfl dX12_step_84 ?_
  obtain ⟨c_85, hm⟩ := gd_s hm
  refine l_zald dX12_step_85 iz_219 (inb_in ln_219 c_85) (by decide) ?_
  refine e_if_ne 94 dX12_step_86 (by decide) (fun c_86 => ?_) (fun c_86 => ?_)
  · have hm := it_n c_86 hm
    refine e_iload_n (i := 2) rfl dX12_step_94 ?_
    refine e_iret dX12_step_95 rfl ?_
    have hm := some_in hm
    subst hm
    exact ⟨rfl, rfl⟩
  · have hm := it_p c_86 hm
    refine e_aload_n (i := 0) rfl dX12_step_89 ?_
    refine e_iload_n (i := 2) rfl dX12_step_90 ?_
    obtain ⟨q2, eq2, hm⟩ := ob_some hm
    refine e_cV1 hko dX12_step_91 ml_RX12_452 iz_186 (by decide) rfl (by omega) (Nat.le_of_ble_eq_true rfl) (tX12_settles hko q1.1 q1.2 F hF x2 _ eq2) ?_
    rintro _ _ ⟨rfl, rfl⟩
    refine e_iload_n (i := 2) rfl dX12_step_94 ?_
    refine e_iret dX12_step_95 rfl ?_
    have hm := some_in hm
    subst hm
    exact ⟨rfl, rfl⟩
set_option maxRecDepth 100000 in
set_option maxHeartbeats 4000000 in
theorem tX12_step {l : Launch} {K : a_KT} {g : a_GT} {IA : iT} (hko : a_kok K) (I : iT) (J : jT) (F : fT) (hF : FOK F) (x1 : Int32) (q : Int32 × iT × jT) (hm : mX12_step I J x1 = some q) : C l K g 455 0 0 yX12_step cX12_step 3 (some .int) [.ref 186, .int x1] (hg IA I J F) (fun r2 h2 => r2 = some (.int q.1) ∧ h2 = hg IA q.2.1 q.2.2 F) := by
  unfold mX12_step at hm
  refine c_of [.ref 186, .int x1, .null] (by decide) (Nat.le_of_ble_eq_true rfl) rfl ?_
  refine e_aload_n (i := 0) rfl dX12_step_0 ?_
  refine e_iload_n (i := 1) rfl dX12_step_1 ?_
  obtain ⟨q3, eq3, hm⟩ := ob_some hm
  refine e_cV1 hko dX12_step_2 ml_RX12_517 iz_186 (by decide) rfl (by omega) (Nat.le_of_ble_eq_true rfl) (tX12_which hko I J F hF x1 _ eq3) ?_
  rintro _ _ ⟨rfl, rfl⟩
  refine q_istore_n (i := 2) (by decide) rfl dX12_step_5 ?_
  refine e_iload_n (i := 2) rfl dX12_step_6 ?_
  refine e_iconst (v := (-1)) (by decide) dX12_step_7 ?_
  refine e_icmp_ne 13 dX12_step_8 (by decide) (fun c_8 => ?_) (fun c_8 => ?_)
  · have hm := it_n c_8 hm
    refine e_aload_n (i := 0) rfl dX12_step_13 ?_
    refine l_getI 12 62 dX12_step_14 fl_RX12_430 rfl iz_186 (by decide) ?_
    refine e_sipush (v := 600) (by decide) dX12_step_17 ?_
    refine e_icmp_eq 48 dX12_step_20 (by decide) (fun c_20 => ?_) (fun c_20 => ?_)
    · have hm := it_p c_20 hm
      refine e_weak [.ref 186, .int x1, .int q3] ⟨rfl, ⟨rfl, ⟨rfl, trivial⟩⟩⟩ ?_
      exact tX12_step_48 hko I J x1 q3 hF _ hm
    · have hm := it_n c_20 hm
      refine e_aload_n (i := 0) rfl dX12_step_23 ?_
      refine q_getF 12 11 188 dX12_step_24 fl_RX12_17 rfl iz_186 (fr_186_11 hF) ?_
      refine e_aload_n (i := 0) rfl dX12_step_27 ?_
      refine q_getF 12 53 213 dX12_step_28 fl_RX12_93 rfl iz_186 (fr_186_53 hF) ?_
      refine e_iload_n (i := 2) rfl dX12_step_31 ?_
      obtain ⟨c_32, hm⟩ := gd_s hm
      refine l_iald dX12_step_32 iz_213 (inb_in ln_213 c_32) (by decide) ?_
      obtain ⟨c_33, hm⟩ := gd_s hm
      refine l_iald dX12_step_33 iz_188 (inb_in ln_188 c_33) (by decide) ?_
      refine e_bipush (v := 48) (by decide) dX12_step_34 ?_
      refine e_icmp_ne 55 dX12_step_36 (by decide) (fun c_36 => ?_) (fun c_36 => ?_)
      · have hm := it_n c_36 hm
        refine e_weak [.ref 186, .int x1, .int q3] ⟨rfl, ⟨rfl, ⟨rfl, trivial⟩⟩⟩ ?_
        exact tX12_step_55 hko I J x1 q3 hF _ hm
      · have hm := it_p c_36 hm
        refine e_aload_n (i := 0) rfl dX12_step_39 ?_
        refine l_getI 12 60 dX12_step_40 fl_RX12_427 rfl iz_186 (by decide) ?_
        refine e_bipush (v := 80) (by decide) dX12_step_43 ?_
        refine e_icmp_ne 55 dX12_step_45 (by decide) (fun c_45 => ?_) (fun c_45 => ?_)
        · have hm := it_n c_45 hm
          refine e_weak [.ref 186, .int x1, .int q3] ⟨rfl, ⟨rfl, ⟨rfl, trivial⟩⟩⟩ ?_
          exact tX12_step_55 hko I J x1 q3 hF _ hm
        · have hm := it_p c_45 hm
          refine e_weak [.ref 186, .int x1, .int q3] ⟨rfl, ⟨rfl, ⟨rfl, trivial⟩⟩⟩ ?_
          exact tX12_step_48 hko I J x1 q3 hF _ hm
  · have hm := it_p c_8 hm
    refine e_iconst (v := (-1)) (by decide) dX12_step_11 ?_
    refine e_iret dX12_step_12 rfl ?_
    have hm := some_in hm
    subst hm
    exact ⟨rfl, rfl⟩
theorem dX12_run_0 : decode cX12_run 0 = .ok (.iload_n 2, 1) := by decide +kernel
theorem dX12_run_1 : decode cX12_run 1 = .ok (.iconst 0, 1) := by decide +kernel
theorem dX12_run_2 : decode cX12_run 2 = .ok (.sipush 600, 3) := by decide +kernel
theorem dX12_run_5 : decode cX12_run 5 = .ok (.invokestatic 154, 3) := by decide +kernel
theorem dX12_run_8 : decode cX12_run 8 = .ok (.ifCond .ne 5, 3) := by decide +kernel
theorem dX12_run_11 : decode cX12_run 11 = .ok (.iconst (-1), 1) := by decide +kernel
theorem dX12_run_12 : decode cX12_run 12 = .ok (.ireturn, 1) := by decide +kernel
theorem dX12_run_13 : decode cX12_run 13 = .ok (.iload_n 1, 1) := by decide +kernel
theorem dX12_run_14 : decode cX12_run 14 = .ok (.istore_n 3, 1) := by decide +kernel
theorem dX12_run_15 : decode cX12_run 15 = .ok (.iconst 0, 1) := by decide +kernel
theorem dX12_run_16 : decode cX12_run 16 = .ok (.istore 4, 2) := by decide +kernel
theorem dX12_run_18 : decode cX12_run 18 = .ok (.iload 4, 2) := by decide +kernel
theorem dX12_run_20 : decode cX12_run 20 = .ok (.iload_n 2, 1) := by decide +kernel
theorem dX12_run_21 : decode cX12_run 21 = .ok (.if_icmp .ge 46, 3) := by decide +kernel
theorem dX12_run_24 : decode cX12_run 24 = .ok (.aload_n 0, 1) := by decide +kernel
theorem dX12_run_25 : decode cX12_run 25 = .ok (.invokevirtual 484, 3) := by decide +kernel
theorem dX12_run_28 : decode cX12_run 28 = .ok (.ifCond .le 39, 3) := by decide +kernel
theorem dX12_run_31 : decode cX12_run 31 = .ok (.iload_n 3, 1) := by decide +kernel
theorem dX12_run_32 : decode cX12_run 32 = .ok (.ldc_w 523, 3) := by decide +kernel
theorem dX12_run_35 : decode cX12_run 35 = .ok (.imul, 1) := by decide +kernel
theorem dX12_run_36 : decode cX12_run 36 = .ok (.sipush 12345, 3) := by decide +kernel
theorem dX12_run_39 : decode cX12_run 39 = .ok (.iadd, 1) := by decide +kernel
theorem dX12_run_40 : decode cX12_run 40 = .ok (.istore_n 3, 1) := by decide +kernel
theorem dX12_run_41 : decode cX12_run 41 = .ok (.aload_n 0, 1) := by decide +kernel
theorem dX12_run_42 : decode cX12_run 42 = .ok (.iload_n 3, 1) := by decide +kernel
theorem dX12_run_43 : decode cX12_run 43 = .ok (.bipush 16, 2) := by decide +kernel
theorem dX12_run_45 : decode cX12_run 45 = .ok (.iushr, 1) := by decide +kernel
theorem dX12_run_46 : decode cX12_run 46 = .ok (.aload_n 0, 1) := by decide +kernel
theorem dX12_run_47 : decode cX12_run 47 = .ok (.invokevirtual 484, 3) := by decide +kernel
theorem dX12_run_50 : decode cX12_run 50 = .ok (.irem, 1) := by decide +kernel
theorem dX12_run_51 : decode cX12_run 51 = .ok (.invokevirtual 524, 3) := by decide +kernel
theorem dX12_run_54 : decode cX12_run 54 = .ok (.iconst (-1), 1) := by decide +kernel
theorem dX12_run_55 : decode cX12_run 55 = .ok (.if_icmp .ne 6, 3) := by decide +kernel
theorem dX12_run_58 : decode cX12_run 58 = .ok (.iload 4, 2) := by decide +kernel
theorem dX12_run_60 : decode cX12_run 60 = .ok (.ireturn, 1) := by decide +kernel
theorem dX12_run_61 : decode cX12_run 61 = .ok (.iinc 4 1, 3) := by decide +kernel
theorem dX12_run_64 : decode cX12_run 64 = .ok (.goto (-46), 3) := by decide +kernel
theorem dX12_run_67 : decode cX12_run 67 = .ok (.iload 4, 2) := by decide +kernel
theorem dX12_run_69 : decode cX12_run 69 = .ok (.ireturn, 1) := by decide +kernel
def mX12_run_18 : Nat → iT → jT → Int32 → Int32 → Int32 → Int32 → Option (Int32 × iT × jT)
  | 0, _, _, _, _, _, _ => none
  | n + 1, I, J, x1, x2, x3, x4 => if x2 ≤ x4 then some (x4, I, J) else (mX12_ready I).bind fun q1 => if q1 ≤ 0 then some (x4, I, J) else (mX12_ready I).bind fun q2 => if ¬ (q2 : Int32) = 0 then (mX12_step I J (((((x3 * 1103515245) + 12345).toUInt32 >>> (Int32.toUInt32 16 &&& Int32.toUInt32 31)).toInt32) - ((((x3 * 1103515245) + 12345).toUInt32 >>> (Int32.toUInt32 16 &&& Int32.toUInt32 31)).toInt32) / q2 * q2)).bind fun q3 => if q3.1 = ((-1)) then some (x4, q3.2.1, q3.2.2) else mX12_run_18 n q3.2.1 q3.2.2 x1 x2 ((x3 * 1103515245) + 12345) (x4 + 1) else none
def mX12_run (I : iT) (J : jT) (x1 : Int32) (x2 : Int32) : Option (Int32 × iT × jT) := (mX12_isIn x2 0 600).bind fun q4 => if q4 = 0 then some ((-1), I, J) else mX12_run_18 LF I J x1 x2 x1 0
set_option maxRecDepth 100000 in
set_option maxHeartbeats 4000000 in
theorem tX12_run_18 {l : Launch} {K : a_KT} {g : a_GT} {IA : iT} (hko : a_kok K) {F : fT} : ∀ (n : Nat) (I : iT) (J : jT) (x1 : Int32) (x2 : Int32) (x3 : Int32) (x4 : Int32) (hF : FOK F) (q : Int32 × iT × jT), mX12_run_18 n I J x1 x2 x3 x4 = some q → E l K g 456 0 0 yX12_run cX12_run 5 (some .int) 18 [.ref 186, .int x1, .int x2, .int x3, .int x4] [] (hg IA I J F) (fun r2 h2 => r2 = some (.int q.1) ∧ h2 = hg IA q.2.1 q.2.2 F) := by
  intro n
  induction n with
  | zero => intro I J x1 x2 x3 x4 hF q hm; cases hm
  | succ n ih =>
    intro I J x1 x2 x3 x4 hF q hm
    rw [mX12_run_18] at hm
    refine e_iload (i := 4) rfl dX12_run_18 ?_
    refine e_iload_n (i := 2) rfl dX12_run_20 ?_
    refine e_icmp_ge 67 dX12_run_21 (by decide) (fun c_21 => ?_) (fun c_21 => ?_)
    · have hm := it_p c_21 hm
      refine e_iload (i := 4) rfl dX12_run_67 ?_
      refine e_iret dX12_run_69 rfl ?_
      have hm := some_in hm
      subst hm
      exact ⟨rfl, rfl⟩
    · have hm := it_n c_21 hm
      refine e_aload_n (i := 0) rfl dX12_run_24 ?_
      obtain ⟨q1, eq1, hm⟩ := ob_some hm
      refine e_cV0 hko dX12_run_25 ml_RX12_484 iz_186 (by decide) rfl (by omega) (Nat.le_of_ble_eq_true rfl) (tX12_ready hko I J F hF _ eq1) ?_
      rintro _ _ ⟨rfl, rfl⟩
      refine e_if_le 67 dX12_run_28 (by decide) (fun c_28 => ?_) (fun c_28 => ?_)
      · have hm := it_p c_28 hm
        refine e_iload (i := 4) rfl dX12_run_67 ?_
        refine e_iret dX12_run_69 rfl ?_
        have hm := some_in hm
        subst hm
        exact ⟨rfl, rfl⟩
      · have hm := it_n c_28 hm
        refine e_iload_n (i := 3) rfl dX12_run_31 ?_
        refine e_ldcw kc_RX12_523 dX12_run_32 ?_
        refine e_imul dX12_run_35 ?_
        refine e_sipush (v := 12345) (by decide) dX12_run_36 ?_
        refine e_iadd dX12_run_39 ?_
        refine q_istore_n (i := 3) (by decide) rfl dX12_run_40 ?_
        refine e_aload_n (i := 0) rfl dX12_run_41 ?_
        refine e_iload_n (i := 3) rfl dX12_run_42 ?_
        refine e_bipush (v := 16) (by decide) dX12_run_43 ?_
        refine e_iushr dX12_run_45 ?_
        refine e_aload_n (i := 0) rfl dX12_run_46 ?_
        obtain ⟨q2, eq2, hm⟩ := ob_some hm
        refine e_cV0 hko dX12_run_47 ml_RX12_484 iz_186 (by decide) rfl (by omega) (Nat.le_of_ble_eq_true rfl) (tX12_ready hko I J F hF _ eq2) ?_
        rintro _ _ ⟨rfl, rfl⟩
        obtain ⟨c_50, hm⟩ := gd_s hm
        refine e_irem c_50 dX12_run_50 ?_
        obtain ⟨q3, eq3, hm⟩ := ob_some hm
        refine e_cV1 hko dX12_run_51 ml_RX12_524 iz_186 (by decide) rfl (by omega) (Nat.le_of_ble_eq_true rfl) (tX12_step hko I J F hF (((((x3 * 1103515245) + 12345).toUInt32 >>> (Int32.toUInt32 16 &&& Int32.toUInt32 31)).toInt32) - ((((x3 * 1103515245) + 12345).toUInt32 >>> (Int32.toUInt32 16 &&& Int32.toUInt32 31)).toInt32) / q2 * q2) _ eq3) ?_
        rintro _ _ ⟨rfl, rfl⟩
        refine e_iconst (v := (-1)) (by decide) dX12_run_54 ?_
        refine e_icmp_ne 61 dX12_run_55 (by decide) (fun c_55 => ?_) (fun c_55 => ?_)
        · have hm := it_n c_55 hm
          refine q_iinc (i := 4) (x4 + 1) rfl ic_1 rfl dX12_run_61 ?_
          refine e_goto 18 dX12_run_64 (by decide) ?_
          refine e_weak [.ref 186, .int x1, .int x2, .int ((x3 * 1103515245) + 12345), .int (x4 + 1)] ⟨rfl, ⟨rfl, ⟨rfl, ⟨rfl, ⟨rfl, trivial⟩⟩⟩⟩⟩ ?_
          exact ih q3.2.1 q3.2.2 x1 x2 ((x3 * 1103515245) + 12345) (x4 + 1) hF _ hm
        · have hm := it_p c_55 hm
          refine e_iload (i := 4) rfl dX12_run_58 ?_
          refine e_iret dX12_run_60 rfl ?_
          have hm := some_in hm
          subst hm
          exact ⟨rfl, rfl⟩
set_option maxRecDepth 100000 in
set_option maxHeartbeats 4000000 in
theorem tX12_run {l : Launch} {K : a_KT} {g : a_GT} {IA : iT} (hko : a_kok K) (I : iT) (J : jT) (F : fT) (hF : FOK F) (x1 : Int32) (x2 : Int32) (q : Int32 × iT × jT) (hm : mX12_run I J x1 x2 = some q) : C l K g 456 0 0 yX12_run cX12_run 5 (some .int) [.ref 186, .int x1, .int x2] (hg IA I J F) (fun r2 h2 => r2 = some (.int q.1) ∧ h2 = hg IA q.2.1 q.2.2 F) := by
  unfold mX12_run at hm
  refine c_of [.ref 186, .int x1, .int x2, .null, .null] (by decide) (Nat.le_of_ble_eq_true rfl) rfl ?_
  refine e_iload_n (i := 2) rfl dX12_run_0 ?_
  refine e_iconst (v := 0) (by decide) dX12_run_1 ?_
  refine e_sipush (v := 600) (by decide) dX12_run_2 ?_
  obtain ⟨q4, eq4, hm⟩ := ob_some hm
  refine e_cS3 hko dX12_run_5 ml_RX12_154 (by omega) (Nat.le_of_ble_eq_true rfl) (tX12_isIn hko I J F hF x2 0 600 _ eq4) ?_
  rintro _ _ ⟨rfl, rfl⟩
  refine e_if_ne 13 dX12_run_8 (by decide) (fun c_8 => ?_) (fun c_8 => ?_)
  · have hm := it_n c_8 hm
    refine e_iload_n (i := 1) rfl dX12_run_13 ?_
    refine q_istore_n (i := 3) (by decide) rfl dX12_run_14 ?_
    refine e_iconst (v := 0) (by decide) dX12_run_15 ?_
    refine q_istore (i := 4) (by decide) rfl dX12_run_16 ?_
    refine e_weak [.ref 186, .int x1, .int x2, .int x1, .int 0] ⟨rfl, ⟨rfl, ⟨rfl, ⟨rfl, ⟨rfl, trivial⟩⟩⟩⟩⟩ ?_
    exact tX12_run_18 hko LF I J x1 x2 x1 0 hF _ hm
  · have hm := it_p c_8 hm
    refine e_iconst (v := (-1)) (by decide) dX12_run_11 ?_
    refine e_iret dX12_run_12 rfl ?_
    have hm := some_in hm
    subst hm
    exact ⟨rfl, rfl⟩
theorem dX12_said_0 : decode cX12_said 0 = .ok (.aload_n 0, 1) := by decide +kernel
theorem dX12_said_1 : decode cX12_said 1 = .ok (.getfield 414, 3) := by decide +kernel
theorem dX12_said_4 : decode cX12_said 4 = .ok (.ifCond .eq 33, 3) := by decide +kernel
theorem dX12_said_7 : decode cX12_said 7 = .ok (.iload_n 1, 1) := by decide +kernel
theorem dX12_said_8 : decode cX12_said 8 = .ok (.iconst 0, 1) := by decide +kernel
theorem dX12_said_9 : decode cX12_said 9 = .ok (.aload_n 0, 1) := by decide +kernel
theorem dX12_said_10 : decode cX12_said 10 = .ok (.getfield 433, 3) := by decide +kernel
theorem dX12_said_13 : decode cX12_said 13 = .ok (.sipush 200, 3) := by decide +kernel
theorem dX12_said_16 : decode cX12_said 16 = .ok (.if_icmp .ge 10, 3) := by decide +kernel
theorem dX12_said_19 : decode cX12_said 19 = .ok (.aload_n 0, 1) := by decide +kernel
theorem dX12_said_20 : decode cX12_said 20 = .ok (.getfield 433, 3) := by decide +kernel
theorem dX12_said_23 : decode cX12_said 23 = .ok (.goto 6, 3) := by decide +kernel
theorem dX12_said_26 : decode cX12_said 26 = .ok (.sipush 200, 3) := by decide +kernel
theorem dX12_said_29 : decode cX12_said 29 = .ok (.iconst 1, 1) := by decide +kernel
theorem dX12_said_30 : decode cX12_said 30 = .ok (.isub, 1) := by decide +kernel
theorem dX12_said_31 : decode cX12_said 31 = .ok (.invokestatic 154, 3) := by decide +kernel
theorem dX12_said_34 : decode cX12_said 34 = .ok (.ifCond .ne 5, 3) := by decide +kernel
theorem dX12_said_37 : decode cX12_said 37 = .ok (.iconst (-1), 1) := by decide +kernel
theorem dX12_said_38 : decode cX12_said 38 = .ok (.ireturn, 1) := by decide +kernel
theorem dX12_said_39 : decode cX12_said 39 = .ok (.iload_n 2, 1) := by decide +kernel
theorem dX12_said_40 : decode cX12_said 40 = .ok (.ifCond .ne 12, 3) := by decide +kernel
theorem dX12_said_43 : decode cX12_said 43 = .ok (.aload_n 0, 1) := by decide +kernel
theorem dX12_said_44 : decode cX12_said 44 = .ok (.getfield 136, 3) := by decide +kernel
theorem dX12_said_47 : decode cX12_said 47 = .ok (.iload_n 1, 1) := by decide +kernel
theorem dX12_said_48 : decode cX12_said 48 = .ok (.iaload, 1) := by decide +kernel
theorem dX12_said_49 : decode cX12_said 49 = .ok (.goto 18, 3) := by decide +kernel
theorem dX12_said_52 : decode cX12_said 52 = .ok (.iload_n 2, 1) := by decide +kernel
theorem dX12_said_53 : decode cX12_said 53 = .ok (.iconst 1, 1) := by decide +kernel
theorem dX12_said_54 : decode cX12_said 54 = .ok (.if_icmp .ne 12, 3) := by decide +kernel
theorem dX12_said_57 : decode cX12_said 57 = .ok (.aload_n 0, 1) := by decide +kernel
theorem dX12_said_58 : decode cX12_said 58 = .ok (.getfield 139, 3) := by decide +kernel
theorem dX12_said_61 : decode cX12_said 61 = .ok (.iload_n 1, 1) := by decide +kernel
theorem dX12_said_62 : decode cX12_said 62 = .ok (.iaload, 1) := by decide +kernel
theorem dX12_said_63 : decode cX12_said 63 = .ok (.goto 4, 3) := by decide +kernel
theorem dX12_said_66 : decode cX12_said 66 = .ok (.iconst (-1), 1) := by decide +kernel
theorem dX12_said_67 : decode cX12_said 67 = .ok (.ireturn, 1) := by decide +kernel
def mX12_said_29 (I : iT) (x1 : Int32) (x2 : Int32) (s0 : Int32) (s1 : Int32) (s2 : Int32) : Option (Int32) := (mX12_isIn s2 s1 (s0 - 1)).bind fun q1 => if q1 = 0 then some ((-1)) else if x2 = 0 then if inb x1 200 then some (I 227 x1.toNatClampNeg) else none else if x2 = 1 then if inb x1 200 then some (I 228 x1.toNatClampNeg) else none else some ((-1))
def mX12_said (I : iT) (x1 : Int32) (x2 : Int32) : Option (Int32) := if (I 186 33) = 0 then some ((-1)) else if 200 ≤ (I 186 63) then mX12_said_29 I x1 x2 200 0 x1 else mX12_said_29 I x1 x2 (I 186 63) 0 x1
set_option maxRecDepth 100000 in
set_option maxHeartbeats 4000000 in
theorem tX12_said_29 {l : Launch} {K : a_KT} {g : a_GT} {IA : iT} (hko : a_kok K) {J : jT} {F : fT} (I : iT) (x1 : Int32) (x2 : Int32) (s0 : Int32) (s1 : Int32) (s2 : Int32) (hF : FOK F) (q : Int32) (hm : mX12_said_29 I x1 x2 s0 s1 s2 = some q) : E l K g 1 0 0 yX12_said cX12_said 3 (some .int) 29 [.ref 186, .int x1, .int x2] [.int s0, .int s1, .int s2] (hg IA I J F) (fun r2 h2 => r2 = some (.int q) ∧ h2 = hg IA I J F) := by
  unfold mX12_said_29 at hm
  refine e_iconst (v := 1) (by decide) dX12_said_29 ?_
  refine e_isub dX12_said_30 ?_
  obtain ⟨q1, eq1, hm⟩ := ob_some hm
  refine e_cS3 hko dX12_said_31 ml_RX12_154 (by omega) (Nat.le_of_ble_eq_true rfl) (tX12_isIn hko I J F hF s2 s1 (s0 - 1) _ eq1) ?_
  rintro _ _ ⟨rfl, rfl⟩
  refine e_if_ne 39 dX12_said_34 (by decide) (fun c_34 => ?_) (fun c_34 => ?_)
  · have hm := it_n c_34 hm
    refine e_iload_n (i := 2) rfl dX12_said_39 ?_
    refine e_if_ne 52 dX12_said_40 (by decide) (fun c_40 => ?_) (fun c_40 => ?_)
    · have hm := it_n c_40 hm
      refine e_iload_n (i := 2) rfl dX12_said_52 ?_
      refine e_iconst (v := 1) (by decide) dX12_said_53 ?_
      refine e_icmp_ne 66 dX12_said_54 (by decide) (fun c_54 => ?_) (fun c_54 => ?_)
      · have hm := it_n c_54 hm
        refine e_iconst (v := (-1)) (by decide) dX12_said_66 ?_
        refine e_iret dX12_said_67 rfl ?_
        have hm := some_in hm
        subst hm
        exact ⟨rfl, rfl⟩
      · have hm := it_p c_54 hm
        refine e_aload_n (i := 0) rfl dX12_said_57 ?_
        refine q_getF 12 74 228 dX12_said_58 fl_RX12_139 rfl iz_186 (fr_186_74 hF) ?_
        refine e_iload_n (i := 1) rfl dX12_said_61 ?_
        obtain ⟨c_62, hm⟩ := gd_s hm
        refine l_iald dX12_said_62 iz_228 (inb_in ln_228 c_62) (by decide) ?_
        refine e_goto 67 dX12_said_63 (by decide) ?_
        refine e_iret dX12_said_67 rfl ?_
        have hm := some_in hm
        subst hm
        exact ⟨rfl, rfl⟩
    · have hm := it_p c_40 hm
      refine e_aload_n (i := 0) rfl dX12_said_43 ?_
      refine q_getF 12 73 227 dX12_said_44 fl_RX12_136 rfl iz_186 (fr_186_73 hF) ?_
      refine e_iload_n (i := 1) rfl dX12_said_47 ?_
      obtain ⟨c_48, hm⟩ := gd_s hm
      refine l_iald dX12_said_48 iz_227 (inb_in ln_227 c_48) (by decide) ?_
      refine e_goto 67 dX12_said_49 (by decide) ?_
      refine e_iret dX12_said_67 rfl ?_
      have hm := some_in hm
      subst hm
      exact ⟨rfl, rfl⟩
  · have hm := it_p c_34 hm
    refine e_iconst (v := (-1)) (by decide) dX12_said_37 ?_
    refine e_iret dX12_said_38 rfl ?_
    have hm := some_in hm
    subst hm
    exact ⟨rfl, rfl⟩
set_option maxRecDepth 100000 in
set_option maxHeartbeats 4000000 in
theorem tX12_said {l : Launch} {K : a_KT} {g : a_GT} {IA : iT} (hko : a_kok K) (I : iT) (J : jT) (F : fT) (hF : FOK F) (x1 : Int32) (x2 : Int32) (q : Int32) (hm : mX12_said I x1 x2 = some q) : C l K g 1 0 0 yX12_said cX12_said 3 (some .int) [.ref 186, .int x1, .int x2] (hg IA I J F) (fun r2 h2 => r2 = some (.int q) ∧ h2 = hg IA I J F) := by
  unfold mX12_said at hm
  refine c_of [.ref 186, .int x1, .int x2] (by decide) (Nat.le_of_ble_eq_true rfl) rfl ?_
  refine e_aload_n (i := 0) rfl dX12_said_0 ?_
  refine l_getI 12 33 dX12_said_1 fl_RX12_414 rfl iz_186 (by decide) ?_
  refine e_if_eq 37 dX12_said_4 (by decide) (fun c_4 => ?_) (fun c_4 => ?_)
  · have hm := it_p c_4 hm
    refine e_iconst (v := (-1)) (by decide) dX12_said_37 ?_
    refine e_iret dX12_said_38 rfl ?_
    have hm := some_in hm
    subst hm
    exact ⟨rfl, rfl⟩
  · have hm := it_n c_4 hm
    refine e_iload_n (i := 1) rfl dX12_said_7 ?_
    refine e_iconst (v := 0) (by decide) dX12_said_8 ?_
    refine e_aload_n (i := 0) rfl dX12_said_9 ?_
    refine l_getI 12 63 dX12_said_10 fl_RX12_433 rfl iz_186 (by decide) ?_
    refine e_sipush (v := 200) (by decide) dX12_said_13 ?_
    refine e_icmp_ge 26 dX12_said_16 (by decide) (fun c_16 => ?_) (fun c_16 => ?_)
    · have hm := it_p c_16 hm
      refine e_sipush (v := 200) (by decide) dX12_said_26 ?_
      refine e_weak [.ref 186, .int x1, .int x2] ⟨rfl, ⟨rfl, ⟨rfl, trivial⟩⟩⟩ ?_
      exact tX12_said_29 hko I x1 x2 200 0 x1 hF _ hm
    · have hm := it_n c_16 hm
      refine e_aload_n (i := 0) rfl dX12_said_19 ?_
      refine l_getI 12 63 dX12_said_20 fl_RX12_433 rfl iz_186 (by decide) ?_
      refine e_goto 29 dX12_said_23 (by decide) ?_
      refine e_weak [.ref 186, .int x1, .int x2] ⟨rfl, ⟨rfl, ⟨rfl, trivial⟩⟩⟩ ?_
      exact tX12_said_29 hko I x1 x2 (I 186 63) 0 x1 hF _ hm
theorem dX12_same_0 : decode cX12_same 0 = .ok (.aload_n 0, 1) := by decide +kernel
theorem dX12_same_1 : decode cX12_same 1 = .ok (.iload_n 1, 1) := by decide +kernel
theorem dX12_same_2 : decode cX12_same 2 = .ok (.iload_n 2, 1) := by decide +kernel
theorem dX12_same_3 : decode cX12_same 3 = .ok (.invokevirtual 533, 3) := by decide +kernel
theorem dX12_same_6 : decode cX12_same 6 = .ok (.iconst (-1), 1) := by decide +kernel
theorem dX12_same_7 : decode cX12_same 7 = .ok (.if_icmp .eq 38, 3) := by decide +kernel
theorem dX12_same_10 : decode cX12_same 10 = .ok (.aload_n 0, 1) := by decide +kernel
theorem dX12_same_11 : decode cX12_same 11 = .ok (.iload_n 3, 1) := by decide +kernel
theorem dX12_same_12 : decode cX12_same 12 = .ok (.iload 4, 2) := by decide +kernel
theorem dX12_same_14 : decode cX12_same 14 = .ok (.invokevirtual 533, 3) := by decide +kernel
theorem dX12_same_17 : decode cX12_same 17 = .ok (.iconst (-1), 1) := by decide +kernel
theorem dX12_same_18 : decode cX12_same 18 = .ok (.if_icmp .eq 27, 3) := by decide +kernel
theorem dX12_same_21 : decode cX12_same 21 = .ok (.aload_n 0, 1) := by decide +kernel
theorem dX12_same_22 : decode cX12_same 22 = .ok (.aload_n 0, 1) := by decide +kernel
theorem dX12_same_23 : decode cX12_same 23 = .ok (.iload_n 1, 1) := by decide +kernel
theorem dX12_same_24 : decode cX12_same 24 = .ok (.iload_n 2, 1) := by decide +kernel
theorem dX12_same_25 : decode cX12_same 25 = .ok (.invokevirtual 533, 3) := by decide +kernel
theorem dX12_same_28 : decode cX12_same 28 = .ok (.aload_n 0, 1) := by decide +kernel
theorem dX12_same_29 : decode cX12_same 29 = .ok (.iload_n 3, 1) := by decide +kernel
theorem dX12_same_30 : decode cX12_same 30 = .ok (.iload 4, 2) := by decide +kernel
theorem dX12_same_32 : decode cX12_same 32 = .ok (.invokevirtual 533, 3) := by decide +kernel
theorem dX12_same_35 : decode cX12_same 35 = .ok (.invokevirtual 289, 3) := by decide +kernel
theorem dX12_same_38 : decode cX12_same 38 = .ok (.ifCond .eq 7, 3) := by decide +kernel
theorem dX12_same_41 : decode cX12_same 41 = .ok (.iconst 1, 1) := by decide +kernel
theorem dX12_same_42 : decode cX12_same 42 = .ok (.goto 4, 3) := by decide +kernel
theorem dX12_same_45 : decode cX12_same 45 = .ok (.iconst 0, 1) := by decide +kernel
theorem dX12_same_46 : decode cX12_same 46 = .ok (.ireturn, 1) := by decide +kernel
def mX12_same (I : iT) (J : jT) (x1 : Int32) (x2 : Int32) (x3 : Int32) (x4 : Int32) : Option (Int32) := (mX12_typeOf I x1 x2).bind fun q1 => if q1 = ((-1)) then some 0 else (mX12_typeOf I x3 x4).bind fun q2 => if q2 = ((-1)) then some 0 else (mX12_typeOf I x1 x2).bind fun q3 => (mX12_typeOf I x3 x4).bind fun q4 => (mX12_alike SF I J q3 q4).bind fun q5 => if q5 = 0 then some 0 else some 1
set_option maxRecDepth 100000 in
set_option maxHeartbeats 4000000 in
theorem tX12_same {l : Launch} {K : a_KT} {g : a_GT} {IA : iT} (hko : a_kok K) (I : iT) (J : jT) (F : fT) (hF : FOK F) (x1 : Int32) (x2 : Int32) (x3 : Int32) (x4 : Int32) (q : Int32) (hm : mX12_same I J x1 x2 x3 x4 = some q) : C l K g 451 0 0 yX12_same cX12_same 5 (some .boolean) [.ref 186, .int x1, .int x2, .int x3, .int x4] (hg IA I J F) (fun r2 h2 => r2 = some (.int q) ∧ h2 = hg IA I J F) := by
  unfold mX12_same at hm
  refine c_of [.ref 186, .int x1, .int x2, .int x3, .int x4] (by decide) (Nat.le_of_ble_eq_true rfl) rfl ?_
  refine e_aload_n (i := 0) rfl dX12_same_0 ?_
  refine e_iload_n (i := 1) rfl dX12_same_1 ?_
  refine e_iload_n (i := 2) rfl dX12_same_2 ?_
  obtain ⟨q1, eq1, hm⟩ := ob_some hm
  refine e_cV2 hko dX12_same_3 ml_RX12_533 iz_186 (by decide) rfl (by omega) (Nat.le_of_ble_eq_true rfl) (tX12_typeOf hko I J F hF x1 x2 _ eq1) ?_
  rintro _ _ ⟨rfl, rfl⟩
  refine e_iconst (v := (-1)) (by decide) dX12_same_6 ?_
  refine e_icmp_eq 45 dX12_same_7 (by decide) (fun c_7 => ?_) (fun c_7 => ?_)
  · have hm := it_p c_7 hm
    refine e_iconst (v := 0) (by decide) dX12_same_45 ?_
    refine e_zret dX12_same_46 rfl rfl ?_
    have hm := some_in hm
    subst hm
    exact ⟨rfl, rfl⟩
  · have hm := it_n c_7 hm
    refine e_aload_n (i := 0) rfl dX12_same_10 ?_
    refine e_iload_n (i := 3) rfl dX12_same_11 ?_
    refine e_iload (i := 4) rfl dX12_same_12 ?_
    obtain ⟨q2, eq2, hm⟩ := ob_some hm
    refine e_cV2 hko dX12_same_14 ml_RX12_533 iz_186 (by decide) rfl (by omega) (Nat.le_of_ble_eq_true rfl) (tX12_typeOf hko I J F hF x3 x4 _ eq2) ?_
    rintro _ _ ⟨rfl, rfl⟩
    refine e_iconst (v := (-1)) (by decide) dX12_same_17 ?_
    refine e_icmp_eq 45 dX12_same_18 (by decide) (fun c_18 => ?_) (fun c_18 => ?_)
    · have hm := it_p c_18 hm
      refine e_iconst (v := 0) (by decide) dX12_same_45 ?_
      refine e_zret dX12_same_46 rfl rfl ?_
      have hm := some_in hm
      subst hm
      exact ⟨rfl, rfl⟩
    · have hm := it_n c_18 hm
      refine e_aload_n (i := 0) rfl dX12_same_21 ?_
      refine e_aload_n (i := 0) rfl dX12_same_22 ?_
      refine e_iload_n (i := 1) rfl dX12_same_23 ?_
      refine e_iload_n (i := 2) rfl dX12_same_24 ?_
      obtain ⟨q3, eq3, hm⟩ := ob_some hm
      refine e_cV2 hko dX12_same_25 ml_RX12_533 iz_186 (by decide) rfl (by omega) (Nat.le_of_ble_eq_true rfl) (tX12_typeOf hko I J F hF x1 x2 _ eq3) ?_
      rintro _ _ ⟨rfl, rfl⟩
      refine e_aload_n (i := 0) rfl dX12_same_28 ?_
      refine e_iload_n (i := 3) rfl dX12_same_29 ?_
      refine e_iload (i := 4) rfl dX12_same_30 ?_
      obtain ⟨q4, eq4, hm⟩ := ob_some hm
      refine e_cV2 hko dX12_same_32 ml_RX12_533 iz_186 (by decide) rfl (by omega) (Nat.le_of_ble_eq_true rfl) (tX12_typeOf hko I J F hF x3 x4 _ eq4) ?_
      rintro _ _ ⟨rfl, rfl⟩
      obtain ⟨q5, eq5, hm⟩ := ob_some hm
      refine e_cV2 hko dX12_same_35 ml_RX12_289 iz_186 (by decide) rfl (by omega) (Nat.le_of_ble_eq_true rfl) (tX12_alike hko I J F hF q3 q4 _ eq5) ?_
      rintro _ _ ⟨rfl, rfl⟩
      refine e_if_eq 45 dX12_same_38 (by decide) (fun c_38 => ?_) (fun c_38 => ?_)
      · have hm := it_p c_38 hm
        refine e_iconst (v := 0) (by decide) dX12_same_45 ?_
        refine e_zret dX12_same_46 rfl rfl ?_
        have hm := some_in hm
        subst hm
        exact ⟨rfl, rfl⟩
      · have hm := it_n c_38 hm
        refine e_iconst (v := 1) (by decide) dX12_same_41 ?_
        refine e_goto 46 dX12_same_42 (by decide) ?_
        refine e_zret dX12_same_46 rfl rfl ?_
        have hm := some_in hm
        subst hm
        exact ⟨rfl, rfl⟩
