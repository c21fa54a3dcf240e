/-! the law: decode rows, links, its cases; printed by wip/whole/print_law.py -/
theorem d_law_0 : decode code 0 = .ok (.new 7, 3) := by decide +kernel
theorem d_law_3 : decode code 3 = .ok (.dup, 1) := by decide +kernel
theorem d_law_4 : decode code 4 = .ok (.invokespecial 9, 3) := by decide +kernel
theorem d_law_7 : decode code 7 = .ok (.astore_n 1, 1) := by decide +kernel
theorem d_law_8 : decode code 8 = .ok (.new 10, 3) := by decide +kernel
theorem d_law_11 : decode code 11 = .ok (.dup, 1) := by decide +kernel
theorem d_law_12 : decode code 12 = .ok (.invokespecial 12, 3) := by decide +kernel
theorem d_law_15 : decode code 15 = .ok (.astore_n 2, 1) := by decide +kernel
theorem d_law_16 : decode code 16 = .ok (.iconst 0, 1) := by decide +kernel
theorem d_law_17 : decode code 17 = .ok (.istore_n 3, 1) := by decide +kernel
theorem d_law_18 : decode code 18 = .ok (.iload_n 3, 1) := by decide +kernel
theorem d_law_19 : decode code 19 = .ok (.aload_n 0, 1) := by decide +kernel
theorem d_law_20 : decode code 20 = .ok (.arraylength, 1) := by decide +kernel
theorem d_law_21 : decode code 21 = .ok (.bipush 6, 2) := by decide +kernel
theorem d_law_23 : decode code 23 = .ok (.isub, 1) := by decide +kernel
theorem d_law_24 : decode code 24 = .ok (.if_icmp .gt 501, 3) := by decide +kernel
theorem d_law_27 : decode code 27 = .ok (.aload_n 0, 1) := by decide +kernel
theorem d_law_28 : decode code 28 = .ok (.iload_n 3, 1) := by decide +kernel
theorem d_law_29 : decode code 29 = .ok (.iaload, 1) := by decide +kernel
theorem d_law_30 : decode code 30 = .ok (.bipush 15, 2) := by decide +kernel
theorem d_law_32 : decode code 32 = .ok (.iand, 1) := by decide +kernel
theorem d_law_33 : decode code 33 = .ok (.tableswitch 486 0 12 #[67, 130, 173, 206, 239, 272, 285, 308, 331, 364, 397, 420, 443], 67) := by decide +kernel
theorem d_law_100 : decode code 100 = .ok (.aload_n 1, 1) := by decide +kernel
theorem d_law_101 : decode code 101 = .ok (.aload_n 0, 1) := by decide +kernel
theorem d_law_102 : decode code 102 = .ok (.iload_n 3, 1) := by decide +kernel
theorem d_law_103 : decode code 103 = .ok (.iconst 1, 1) := by decide +kernel
theorem d_law_104 : decode code 104 = .ok (.iadd, 1) := by decide +kernel
theorem d_law_105 : decode code 105 = .ok (.iaload, 1) := by decide +kernel
theorem d_law_106 : decode code 106 = .ok (.aload_n 0, 1) := by decide +kernel
theorem d_law_107 : decode code 107 = .ok (.iload_n 3, 1) := by decide +kernel
theorem d_law_108 : decode code 108 = .ok (.iconst 2, 1) := by decide +kernel
theorem d_law_109 : decode code 109 = .ok (.iadd, 1) := by decide +kernel
theorem d_law_110 : decode code 110 = .ok (.iaload, 1) := by decide +kernel
theorem d_law_111 : decode code 111 = .ok (.aload_n 0, 1) := by decide +kernel
theorem d_law_112 : decode code 112 = .ok (.iload_n 3, 1) := by decide +kernel
theorem d_law_113 : decode code 113 = .ok (.iconst 3, 1) := by decide +kernel
theorem d_law_114 : decode code 114 = .ok (.iadd, 1) := by decide +kernel
theorem d_law_115 : decode code 115 = .ok (.iaload, 1) := by decide +kernel
theorem d_law_116 : decode code 116 = .ok (.aload_n 0, 1) := by decide +kernel
theorem d_law_117 : decode code 117 = .ok (.iload_n 3, 1) := by decide +kernel
theorem d_law_118 : decode code 118 = .ok (.iconst 4, 1) := by decide +kernel
theorem d_law_119 : decode code 119 = .ok (.iadd, 1) := by decide +kernel
theorem d_law_120 : decode code 120 = .ok (.iaload, 1) := by decide +kernel
theorem d_law_121 : decode code 121 = .ok (.aload_n 0, 1) := by decide +kernel
theorem d_law_122 : decode code 122 = .ok (.iload_n 3, 1) := by decide +kernel
theorem d_law_123 : decode code 123 = .ok (.iconst 5, 1) := by decide +kernel
theorem d_law_124 : decode code 124 = .ok (.iadd, 1) := by decide +kernel
theorem d_law_125 : decode code 125 = .ok (.iaload, 1) := by decide +kernel
theorem d_law_126 : decode code 126 = .ok (.invokevirtual 13, 3) := by decide +kernel
theorem d_law_129 : decode code 129 = .ok (.aload_n 2, 1) := by decide +kernel
theorem d_law_130 : decode code 130 = .ok (.aload_n 0, 1) := by decide +kernel
theorem d_law_131 : decode code 131 = .ok (.iload_n 3, 1) := by decide +kernel
theorem d_law_132 : decode code 132 = .ok (.iconst 1, 1) := by decide +kernel
theorem d_law_133 : decode code 133 = .ok (.iadd, 1) := by decide +kernel
theorem d_law_134 : decode code 134 = .ok (.iaload, 1) := by decide +kernel
theorem d_law_135 : decode code 135 = .ok (.aload_n 0, 1) := by decide +kernel
theorem d_law_136 : decode code 136 = .ok (.iload_n 3, 1) := by decide +kernel
theorem d_law_137 : decode code 137 = .ok (.iconst 2, 1) := by decide +kernel
theorem d_law_138 : decode code 138 = .ok (.iadd, 1) := by decide +kernel
theorem d_law_139 : decode code 139 = .ok (.iaload, 1) := by decide +kernel
theorem d_law_140 : decode code 140 = .ok (.aload_n 0, 1) := by decide +kernel
theorem d_law_141 : decode code 141 = .ok (.iload_n 3, 1) := by decide +kernel
theorem d_law_142 : decode code 142 = .ok (.iconst 3, 1) := by decide +kernel
theorem d_law_143 : decode code 143 = .ok (.iadd, 1) := by decide +kernel
theorem d_law_144 : decode code 144 = .ok (.iaload, 1) := by decide +kernel
theorem d_law_145 : decode code 145 = .ok (.aload_n 0, 1) := by decide +kernel
theorem d_law_146 : decode code 146 = .ok (.iload_n 3, 1) := by decide +kernel
theorem d_law_147 : decode code 147 = .ok (.iconst 4, 1) := by decide +kernel
theorem d_law_148 : decode code 148 = .ok (.iadd, 1) := by decide +kernel
theorem d_law_149 : decode code 149 = .ok (.iaload, 1) := by decide +kernel
theorem d_law_150 : decode code 150 = .ok (.aload_n 0, 1) := by decide +kernel
theorem d_law_151 : decode code 151 = .ok (.iload_n 3, 1) := by decide +kernel
theorem d_law_152 : decode code 152 = .ok (.iconst 5, 1) := by decide +kernel
theorem d_law_153 : decode code 153 = .ok (.iadd, 1) := by decide +kernel
theorem d_law_154 : decode code 154 = .ok (.iaload, 1) := by decide +kernel
theorem d_law_155 : decode code 155 = .ok (.invokevirtual 17, 3) := by decide +kernel
theorem d_law_158 : decode code 158 = .ok (.if_icmp .eq 361, 3) := by decide +kernel
theorem d_law_161 : decode code 161 = .ok (.iconst 0, 1) := by decide +kernel
theorem d_law_162 : decode code 162 = .ok (.ireturn, 1) := by decide +kernel
theorem d_law_163 : decode code 163 = .ok (.aload_n 1, 1) := by decide +kernel
theorem d_law_164 : decode code 164 = .ok (.aload_n 0, 1) := by decide +kernel
theorem d_law_165 : decode code 165 = .ok (.iload_n 3, 1) := by decide +kernel
theorem d_law_166 : decode code 166 = .ok (.iconst 1, 1) := by decide +kernel
theorem d_law_167 : decode code 167 = .ok (.iadd, 1) := by decide +kernel
theorem d_law_168 : decode code 168 = .ok (.iaload, 1) := by decide +kernel
theorem d_law_169 : decode code 169 = .ok (.aload_n 0, 1) := by decide +kernel
theorem d_law_170 : decode code 170 = .ok (.iload_n 3, 1) := by decide +kernel
theorem d_law_171 : decode code 171 = .ok (.iconst 2, 1) := by decide +kernel
theorem d_law_172 : decode code 172 = .ok (.iadd, 1) := by decide +kernel
theorem d_law_173 : decode code 173 = .ok (.iaload, 1) := by decide +kernel
theorem d_law_174 : decode code 174 = .ok (.aload_n 0, 1) := by decide +kernel
theorem d_law_175 : decode code 175 = .ok (.iload_n 3, 1) := by decide +kernel
theorem d_law_176 : decode code 176 = .ok (.iconst 3, 1) := by decide +kernel
theorem d_law_177 : decode code 177 = .ok (.iadd, 1) := by decide +kernel
theorem d_law_178 : decode code 178 = .ok (.iaload, 1) := by decide +kernel
theorem d_law_179 : decode code 179 = .ok (.invokevirtual 18, 3) := by decide +kernel
theorem d_law_182 : decode code 182 = .ok (.aload_n 2, 1) := by decide +kernel
theorem d_law_183 : decode code 183 = .ok (.aload_n 0, 1) := by decide +kernel
theorem d_law_184 : decode code 184 = .ok (.iload_n 3, 1) := by decide +kernel
theorem d_law_185 : decode code 185 = .ok (.iconst 1, 1) := by decide +kernel
theorem d_law_186 : decode code 186 = .ok (.iadd, 1) := by decide +kernel
theorem d_law_187 : decode code 187 = .ok (.iaload, 1) := by decide +kernel
theorem d_law_188 : decode code 188 = .ok (.aload_n 0, 1) := by decide +kernel
theorem d_law_189 : decode code 189 = .ok (.iload_n 3, 1) := by decide +kernel
theorem d_law_190 : decode code 190 = .ok (.iconst 2, 1) := by decide +kernel
theorem d_law_191 : decode code 191 = .ok (.iadd, 1) := by decide +kernel
theorem d_law_192 : decode code 192 = .ok (.iaload, 1) := by decide +kernel
theorem d_law_193 : decode code 193 = .ok (.aload_n 0, 1) := by decide +kernel
theorem d_law_194 : decode code 194 = .ok (.iload_n 3, 1) := by decide +kernel
theorem d_law_195 : decode code 195 = .ok (.iconst 3, 1) := by decide +kernel
theorem d_law_196 : decode code 196 = .ok (.iadd, 1) := by decide +kernel
theorem d_law_197 : decode code 197 = .ok (.iaload, 1) := by decide +kernel
theorem d_law_198 : decode code 198 = .ok (.invokevirtual 22, 3) := by decide +kernel
theorem d_law_201 : decode code 201 = .ok (.if_icmp .eq 318, 3) := by decide +kernel
theorem d_law_204 : decode code 204 = .ok (.iconst 0, 1) := by decide +kernel
theorem d_law_205 : decode code 205 = .ok (.ireturn, 1) := by decide +kernel
theorem d_law_206 : decode code 206 = .ok (.aload_n 1, 1) := by decide +kernel
theorem d_law_207 : decode code 207 = .ok (.aload_n 0, 1) := by decide +kernel
theorem d_law_208 : decode code 208 = .ok (.iload_n 3, 1) := by decide +kernel
theorem d_law_209 : decode code 209 = .ok (.iconst 1, 1) := by decide +kernel
theorem d_law_210 : decode code 210 = .ok (.iadd, 1) := by decide +kernel
theorem d_law_211 : decode code 211 = .ok (.iaload, 1) := by decide +kernel
theorem d_law_212 : decode code 212 = .ok (.aload_n 0, 1) := by decide +kernel
theorem d_law_213 : decode code 213 = .ok (.iload_n 3, 1) := by decide +kernel
theorem d_law_214 : decode code 214 = .ok (.iconst 2, 1) := by decide +kernel
theorem d_law_215 : decode code 215 = .ok (.iadd, 1) := by decide +kernel
theorem d_law_216 : decode code 216 = .ok (.iaload, 1) := by decide +kernel
theorem d_law_217 : decode code 217 = .ok (.invokevirtual 23, 3) := by decide +kernel
theorem d_law_220 : decode code 220 = .ok (.aload_n 2, 1) := by decide +kernel
theorem d_law_221 : decode code 221 = .ok (.aload_n 0, 1) := by decide +kernel
theorem d_law_222 : decode code 222 = .ok (.iload_n 3, 1) := by decide +kernel
theorem d_law_223 : decode code 223 = .ok (.iconst 1, 1) := by decide +kernel
theorem d_law_224 : decode code 224 = .ok (.iadd, 1) := by decide +kernel
theorem d_law_225 : decode code 225 = .ok (.iaload, 1) := by decide +kernel
theorem d_law_226 : decode code 226 = .ok (.aload_n 0, 1) := by decide +kernel
theorem d_law_227 : decode code 227 = .ok (.iload_n 3, 1) := by decide +kernel
theorem d_law_228 : decode code 228 = .ok (.iconst 2, 1) := by decide +kernel
theorem d_law_229 : decode code 229 = .ok (.iadd, 1) := by decide +kernel
theorem d_law_230 : decode code 230 = .ok (.iaload, 1) := by decide +kernel
theorem d_law_231 : decode code 231 = .ok (.invokevirtual 27, 3) := by decide +kernel
theorem d_law_234 : decode code 234 = .ok (.if_icmp .eq 285, 3) := by decide +kernel
theorem d_law_237 : decode code 237 = .ok (.iconst 0, 1) := by decide +kernel
theorem d_law_238 : decode code 238 = .ok (.ireturn, 1) := by decide +kernel
theorem d_law_239 : decode code 239 = .ok (.aload_n 1, 1) := by decide +kernel
theorem d_law_240 : decode code 240 = .ok (.aload_n 0, 1) := by decide +kernel
theorem d_law_241 : decode code 241 = .ok (.iload_n 3, 1) := by decide +kernel
theorem d_law_242 : decode code 242 = .ok (.iconst 1, 1) := by decide +kernel
theorem d_law_243 : decode code 243 = .ok (.iadd, 1) := by decide +kernel
theorem d_law_244 : decode code 244 = .ok (.iaload, 1) := by decide +kernel
theorem d_law_245 : decode code 245 = .ok (.aload_n 0, 1) := by decide +kernel
theorem d_law_246 : decode code 246 = .ok (.iload_n 3, 1) := by decide +kernel
theorem d_law_247 : decode code 247 = .ok (.iconst 2, 1) := by decide +kernel
theorem d_law_248 : decode code 248 = .ok (.iadd, 1) := by decide +kernel
theorem d_law_249 : decode code 249 = .ok (.iaload, 1) := by decide +kernel
theorem d_law_250 : decode code 250 = .ok (.invokevirtual 28, 3) := by decide +kernel
theorem d_law_253 : decode code 253 = .ok (.aload_n 2, 1) := by decide +kernel
theorem d_law_254 : decode code 254 = .ok (.aload_n 0, 1) := by decide +kernel
theorem d_law_255 : decode code 255 = .ok (.iload_n 3, 1) := by decide +kernel
theorem d_law_256 : decode code 256 = .ok (.iconst 1, 1) := by decide +kernel
theorem d_law_257 : decode code 257 = .ok (.iadd, 1) := by decide +kernel
theorem d_law_258 : decode code 258 = .ok (.iaload, 1) := by decide +kernel
theorem d_law_259 : decode code 259 = .ok (.aload_n 0, 1) := by decide +kernel
theorem d_law_260 : decode code 260 = .ok (.iload_n 3, 1) := by decide +kernel
theorem d_law_261 : decode code 261 = .ok (.iconst 2, 1) := by decide +kernel
theorem d_law_262 : decode code 262 = .ok (.iadd, 1) := by decide +kernel
theorem d_law_263 : decode code 263 = .ok (.iaload, 1) := by decide +kernel
theorem d_law_264 : decode code 264 = .ok (.invokevirtual 31, 3) := by decide +kernel
theorem d_law_267 : decode code 267 = .ok (.if_icmp .eq 252, 3) := by decide +kernel
theorem d_law_270 : decode code 270 = .ok (.iconst 0, 1) := by decide +kernel
theorem d_law_271 : decode code 271 = .ok (.ireturn, 1) := by decide +kernel
theorem d_law_272 : decode code 272 = .ok (.aload_n 1, 1) := by decide +kernel
theorem d_law_273 : decode code 273 = .ok (.aload_n 0, 1) := by decide +kernel
theorem d_law_274 : decode code 274 = .ok (.iload_n 3, 1) := by decide +kernel
theorem d_law_275 : decode code 275 = .ok (.iconst 1, 1) := by decide +kernel
theorem d_law_276 : decode code 276 = .ok (.iadd, 1) := by decide +kernel
theorem d_law_277 : decode code 277 = .ok (.iaload, 1) := by decide +kernel
theorem d_law_278 : decode code 278 = .ok (.aload_n 0, 1) := by decide +kernel
theorem d_law_279 : decode code 279 = .ok (.iload_n 3, 1) := by decide +kernel
theorem d_law_280 : decode code 280 = .ok (.iconst 2, 1) := by decide +kernel
theorem d_law_281 : decode code 281 = .ok (.iadd, 1) := by decide +kernel
theorem d_law_282 : decode code 282 = .ok (.iaload, 1) := by decide +kernel
theorem d_law_283 : decode code 283 = .ok (.invokevirtual 32, 3) := by decide +kernel
theorem d_law_286 : decode code 286 = .ok (.aload_n 2, 1) := by decide +kernel
theorem d_law_287 : decode code 287 = .ok (.aload_n 0, 1) := by decide +kernel
theorem d_law_288 : decode code 288 = .ok (.iload_n 3, 1) := by decide +kernel
theorem d_law_289 : decode code 289 = .ok (.iconst 1, 1) := by decide +kernel
theorem d_law_290 : decode code 290 = .ok (.iadd, 1) := by decide +kernel
theorem d_law_291 : decode code 291 = .ok (.iaload, 1) := by decide +kernel
theorem d_law_292 : decode code 292 = .ok (.aload_n 0, 1) := by decide +kernel
theorem d_law_293 : decode code 293 = .ok (.iload_n 3, 1) := by decide +kernel
theorem d_law_294 : decode code 294 = .ok (.iconst 2, 1) := by decide +kernel
theorem d_law_295 : decode code 295 = .ok (.iadd, 1) := by decide +kernel
theorem d_law_296 : decode code 296 = .ok (.iaload, 1) := by decide +kernel
theorem d_law_297 : decode code 297 = .ok (.invokevirtual 35, 3) := by decide +kernel
theorem d_law_300 : decode code 300 = .ok (.if_icmp .eq 219, 3) := by decide +kernel
theorem d_law_303 : decode code 303 = .ok (.iconst 0, 1) := by decide +kernel
theorem d_law_304 : decode code 304 = .ok (.ireturn, 1) := by decide +kernel
theorem d_law_305 : decode code 305 = .ok (.aload_n 1, 1) := by decide +kernel
theorem d_law_306 : decode code 306 = .ok (.invokevirtual 36, 3) := by decide +kernel
theorem d_law_309 : decode code 309 = .ok (.aload_n 2, 1) := by decide +kernel
theorem d_law_310 : decode code 310 = .ok (.invokevirtual 40, 3) := by decide +kernel
theorem d_law_313 : decode code 313 = .ok (.if_icmp .eq 206, 3) := by decide +kernel
theorem d_law_316 : decode code 316 = .ok (.iconst 0, 1) := by decide +kernel
theorem d_law_317 : decode code 317 = .ok (.ireturn, 1) := by decide +kernel
theorem d_law_318 : decode code 318 = .ok (.aload_n 1, 1) := by decide +kernel
theorem d_law_319 : decode code 319 = .ok (.aload_n 0, 1) := by decide +kernel
theorem d_law_320 : decode code 320 = .ok (.iload_n 3, 1) := by decide +kernel
theorem d_law_321 : decode code 321 = .ok (.iconst 1, 1) := by decide +kernel
theorem d_law_322 : decode code 322 = .ok (.iadd, 1) := by decide +kernel
theorem d_law_323 : decode code 323 = .ok (.iaload, 1) := by decide +kernel
theorem d_law_324 : decode code 324 = .ok (.invokevirtual 41, 3) := by decide +kernel
theorem d_law_327 : decode code 327 = .ok (.aload_n 2, 1) := by decide +kernel
theorem d_law_328 : decode code 328 = .ok (.aload_n 0, 1) := by decide +kernel
theorem d_law_329 : decode code 329 = .ok (.iload_n 3, 1) := by decide +kernel
theorem d_law_330 : decode code 330 = .ok (.iconst 1, 1) := by decide +kernel
theorem d_law_331 : decode code 331 = .ok (.iadd, 1) := by decide +kernel
theorem d_law_332 : decode code 332 = .ok (.iaload, 1) := by decide +kernel
theorem d_law_333 : decode code 333 = .ok (.invokevirtual 45, 3) := by decide +kernel
theorem d_law_336 : decode code 336 = .ok (.if_icmp .eq 183, 3) := by decide +kernel
theorem d_law_339 : decode code 339 = .ok (.iconst 0, 1) := by decide +kernel
theorem d_law_340 : decode code 340 = .ok (.ireturn, 1) := by decide +kernel
theorem d_law_341 : decode code 341 = .ok (.aload_n 1, 1) := by decide +kernel
theorem d_law_342 : decode code 342 = .ok (.aload_n 0, 1) := by decide +kernel
theorem d_law_343 : decode code 343 = .ok (.iload_n 3, 1) := by decide +kernel
theorem d_law_344 : decode code 344 = .ok (.iconst 1, 1) := by decide +kernel
theorem d_law_345 : decode code 345 = .ok (.iadd, 1) := by decide +kernel
theorem d_law_346 : decode code 346 = .ok (.iaload, 1) := by decide +kernel
theorem d_law_347 : decode code 347 = .ok (.invokevirtual 46, 3) := by decide +kernel
theorem d_law_350 : decode code 350 = .ok (.aload_n 2, 1) := by decide +kernel
theorem d_law_351 : decode code 351 = .ok (.aload_n 0, 1) := by decide +kernel
theorem d_law_352 : decode code 352 = .ok (.iload_n 3, 1) := by decide +kernel
theorem d_law_353 : decode code 353 = .ok (.iconst 1, 1) := by decide +kernel
theorem d_law_354 : decode code 354 = .ok (.iadd, 1) := by decide +kernel
theorem d_law_355 : decode code 355 = .ok (.iaload, 1) := by decide +kernel
theorem d_law_356 : decode code 356 = .ok (.invokevirtual 49, 3) := by decide +kernel
theorem d_law_359 : decode code 359 = .ok (.if_icmp .eq 160, 3) := by decide +kernel
theorem d_law_362 : decode code 362 = .ok (.iconst 0, 1) := by decide +kernel
theorem d_law_363 : decode code 363 = .ok (.ireturn, 1) := by decide +kernel
theorem d_law_364 : decode code 364 = .ok (.aload_n 1, 1) := by decide +kernel
theorem d_law_365 : decode code 365 = .ok (.aload_n 0, 1) := by decide +kernel
theorem d_law_366 : decode code 366 = .ok (.iload_n 3, 1) := by decide +kernel
theorem d_law_367 : decode code 367 = .ok (.iconst 1, 1) := by decide +kernel
theorem d_law_368 : decode code 368 = .ok (.iadd, 1) := by decide +kernel
theorem d_law_369 : decode code 369 = .ok (.iaload, 1) := by decide +kernel
theorem d_law_370 : decode code 370 = .ok (.aload_n 0, 1) := by decide +kernel
theorem d_law_371 : decode code 371 = .ok (.iload_n 3, 1) := by decide +kernel
theorem d_law_372 : decode code 372 = .ok (.iconst 2, 1) := by decide +kernel
theorem d_law_373 : decode code 373 = .ok (.iadd, 1) := by decide +kernel
theorem d_law_374 : decode code 374 = .ok (.iaload, 1) := by decide +kernel
theorem d_law_375 : decode code 375 = .ok (.invokevirtual 50, 3) := by decide +kernel
theorem d_law_378 : decode code 378 = .ok (.aload_n 2, 1) := by decide +kernel
theorem d_law_379 : decode code 379 = .ok (.aload_n 0, 1) := by decide +kernel
theorem d_law_380 : decode code 380 = .ok (.iload_n 3, 1) := by decide +kernel
theorem d_law_381 : decode code 381 = .ok (.iconst 1, 1) := by decide +kernel
theorem d_law_382 : decode code 382 = .ok (.iadd, 1) := by decide +kernel
theorem d_law_383 : decode code 383 = .ok (.iaload, 1) := by decide +kernel
theorem d_law_384 : decode code 384 = .ok (.aload_n 0, 1) := by decide +kernel
theorem d_law_385 : decode code 385 = .ok (.iload_n 3, 1) := by decide +kernel
theorem d_law_386 : decode code 386 = .ok (.iconst 2, 1) := by decide +kernel
theorem d_law_387 : decode code 387 = .ok (.iadd, 1) := by decide +kernel
theorem d_law_388 : decode code 388 = .ok (.iaload, 1) := by decide +kernel
theorem d_law_389 : decode code 389 = .ok (.invokevirtual 53, 3) := by decide +kernel
theorem d_law_392 : decode code 392 = .ok (.if_icmp .eq 127, 3) := by decide +kernel
theorem d_law_395 : decode code 395 = .ok (.iconst 0, 1) := by decide +kernel
theorem d_law_396 : decode code 396 = .ok (.ireturn, 1) := by decide +kernel
theorem d_law_397 : decode code 397 = .ok (.aload_n 1, 1) := by decide +kernel
theorem d_law_398 : decode code 398 = .ok (.aload_n 0, 1) := by decide +kernel
theorem d_law_399 : decode code 399 = .ok (.iload_n 3, 1) := by decide +kernel
theorem d_law_400 : decode code 400 = .ok (.iconst 1, 1) := by decide +kernel
theorem d_law_401 : decode code 401 = .ok (.iadd, 1) := by decide +kernel
theorem d_law_402 : decode code 402 = .ok (.iaload, 1) := by decide +kernel
theorem d_law_403 : decode code 403 = .ok (.aload_n 0, 1) := by decide +kernel
theorem d_law_404 : decode code 404 = .ok (.iload_n 3, 1) := by decide +kernel
theorem d_law_405 : decode code 405 = .ok (.iconst 2, 1) := by decide +kernel
theorem d_law_406 : decode code 406 = .ok (.iadd, 1) := by decide +kernel
theorem d_law_407 : decode code 407 = .ok (.iaload, 1) := by decide +kernel
theorem d_law_408 : decode code 408 = .ok (.invokevirtual 54, 3) := by decide +kernel
theorem d_law_411 : decode code 411 = .ok (.aload_n 2, 1) := by decide +kernel
theorem d_law_412 : decode code 412 = .ok (.aload_n 0, 1) := by decide +kernel
theorem d_law_413 : decode code 413 = .ok (.iload_n 3, 1) := by decide +kernel
theorem d_law_414 : decode code 414 = .ok (.iconst 1, 1) := by decide +kernel
theorem d_law_415 : decode code 415 = .ok (.iadd, 1) := by decide +kernel
theorem d_law_416 : decode code 416 = .ok (.iaload, 1) := by decide +kernel
theorem d_law_417 : decode code 417 = .ok (.aload_n 0, 1) := by decide +kernel
theorem d_law_418 : decode code 418 = .ok (.iload_n 3, 1) := by decide +kernel
theorem d_law_419 : decode code 419 = .ok (.iconst 2, 1) := by decide +kernel
theorem d_law_420 : decode code 420 = .ok (.iadd, 1) := by decide +kernel
theorem d_law_421 : decode code 421 = .ok (.iaload, 1) := by decide +kernel
theorem d_law_422 : decode code 422 = .ok (.invokevirtual 57, 3) := by decide +kernel
theorem d_law_425 : decode code 425 = .ok (.if_icmp .eq 94, 3) := by decide +kernel
theorem d_law_428 : decode code 428 = .ok (.iconst 0, 1) := by decide +kernel
theorem d_law_429 : decode code 429 = .ok (.ireturn, 1) := by decide +kernel
theorem d_law_430 : decode code 430 = .ok (.aload_n 1, 1) := by decide +kernel
theorem d_law_431 : decode code 431 = .ok (.aload_n 0, 1) := by decide +kernel
theorem d_law_432 : decode code 432 = .ok (.iload_n 3, 1) := by decide +kernel
theorem d_law_433 : decode code 433 = .ok (.iconst 1, 1) := by decide +kernel
theorem d_law_434 : decode code 434 = .ok (.iadd, 1) := by decide +kernel
theorem d_law_435 : decode code 435 = .ok (.iaload, 1) := by decide +kernel
theorem d_law_436 : decode code 436 = .ok (.invokevirtual 58, 3) := by decide +kernel
theorem d_law_439 : decode code 439 = .ok (.aload_n 2, 1) := by decide +kernel
theorem d_law_440 : decode code 440 = .ok (.aload_n 0, 1) := by decide +kernel
theorem d_law_441 : decode code 441 = .ok (.iload_n 3, 1) := by decide +kernel
theorem d_law_442 : decode code 442 = .ok (.iconst 1, 1) := by decide +kernel
theorem d_law_443 : decode code 443 = .ok (.iadd, 1) := by decide +kernel
theorem d_law_444 : decode code 444 = .ok (.iaload, 1) := by decide +kernel
theorem d_law_445 : decode code 445 = .ok (.invokevirtual 61, 3) := by decide +kernel
theorem d_law_448 : decode code 448 = .ok (.if_icmp .eq 71, 3) := by decide +kernel
theorem d_law_451 : decode code 451 = .ok (.iconst 0, 1) := by decide +kernel
theorem d_law_452 : decode code 452 = .ok (.ireturn, 1) := by decide +kernel
theorem d_law_453 : decode code 453 = .ok (.aload_n 1, 1) := by decide +kernel
theorem d_law_454 : decode code 454 = .ok (.aload_n 0, 1) := by decide +kernel
theorem d_law_455 : decode code 455 = .ok (.iload_n 3, 1) := by decide +kernel
theorem d_law_456 : decode code 456 = .ok (.iconst 1, 1) := by decide +kernel
theorem d_law_457 : decode code 457 = .ok (.iadd, 1) := by decide +kernel
theorem d_law_458 : decode code 458 = .ok (.iaload, 1) := by decide +kernel
theorem d_law_459 : decode code 459 = .ok (.invokevirtual 62, 3) := by decide +kernel
theorem d_law_462 : decode code 462 = .ok (.aload_n 2, 1) := by decide +kernel
theorem d_law_463 : decode code 463 = .ok (.aload_n 0, 1) := by decide +kernel
theorem d_law_464 : decode code 464 = .ok (.iload_n 3, 1) := by decide +kernel
theorem d_law_465 : decode code 465 = .ok (.iconst 1, 1) := by decide +kernel
theorem d_law_466 : decode code 466 = .ok (.iadd, 1) := by decide +kernel
theorem d_law_467 : decode code 467 = .ok (.iaload, 1) := by decide +kernel
theorem d_law_468 : decode code 468 = .ok (.invokevirtual 65, 3) := by decide +kernel
theorem d_law_471 : decode code 471 = .ok (.if_icmp .eq 48, 3) := by decide +kernel
theorem d_law_474 : decode code 474 = .ok (.iconst 0, 1) := by decide +kernel
theorem d_law_475 : decode code 475 = .ok (.ireturn, 1) := by decide +kernel
theorem d_law_476 : decode code 476 = .ok (.aload_n 1, 1) := by decide +kernel
theorem d_law_477 : decode code 477 = .ok (.aload_n 0, 1) := by decide +kernel
theorem d_law_478 : decode code 478 = .ok (.iload_n 3, 1) := by decide +kernel
theorem d_law_479 : decode code 479 = .ok (.iconst 1, 1) := by decide +kernel
theorem d_law_480 : decode code 480 = .ok (.iadd, 1) := by decide +kernel
theorem d_law_481 : decode code 481 = .ok (.iaload, 1) := by decide +kernel
theorem d_law_482 : decode code 482 = .ok (.aload_n 0, 1) := by decide +kernel
theorem d_law_483 : decode code 483 = .ok (.iload_n 3, 1) := by decide +kernel
theorem d_law_484 : decode code 484 = .ok (.iconst 2, 1) := by decide +kernel
theorem d_law_485 : decode code 485 = .ok (.iadd, 1) := by decide +kernel
theorem d_law_486 : decode code 486 = .ok (.iaload, 1) := by decide +kernel
theorem d_law_487 : decode code 487 = .ok (.aload_n 0, 1) := by decide +kernel
theorem d_law_488 : decode code 488 = .ok (.iload_n 3, 1) := by decide +kernel
theorem d_law_489 : decode code 489 = .ok (.iconst 3, 1) := by decide +kernel
theorem d_law_490 : decode code 490 = .ok (.iadd, 1) := by decide +kernel
theorem d_law_491 : decode code 491 = .ok (.iaload, 1) := by decide +kernel
theorem d_law_492 : decode code 492 = .ok (.invokevirtual 66, 3) := by decide +kernel
theorem d_law_495 : decode code 495 = .ok (.aload_n 2, 1) := by decide +kernel
theorem d_law_496 : decode code 496 = .ok (.aload_n 0, 1) := by decide +kernel
theorem d_law_497 : decode code 497 = .ok (.iload_n 3, 1) := by decide +kernel
theorem d_law_498 : decode code 498 = .ok (.iconst 1, 1) := by decide +kernel
theorem d_law_499 : decode code 499 = .ok (.iadd, 1) := by decide +kernel
theorem d_law_500 : decode code 500 = .ok (.iaload, 1) := by decide +kernel
theorem d_law_501 : decode code 501 = .ok (.aload_n 0, 1) := by decide +kernel
theorem d_law_502 : decode code 502 = .ok (.iload_n 3, 1) := by decide +kernel
theorem d_law_503 : decode code 503 = .ok (.iconst 2, 1) := by decide +kernel
theorem d_law_504 : decode code 504 = .ok (.iadd, 1) := by decide +kernel
theorem d_law_505 : decode code 505 = .ok (.iaload, 1) := by decide +kernel
theorem d_law_506 : decode code 506 = .ok (.aload_n 0, 1) := by decide +kernel
theorem d_law_507 : decode code 507 = .ok (.iload_n 3, 1) := by decide +kernel
theorem d_law_508 : decode code 508 = .ok (.iconst 3, 1) := by decide +kernel
theorem d_law_509 : decode code 509 = .ok (.iadd, 1) := by decide +kernel
theorem d_law_510 : decode code 510 = .ok (.iaload, 1) := by decide +kernel
theorem d_law_511 : decode code 511 = .ok (.invokevirtual 69, 3) := by decide +kernel
theorem d_law_514 : decode code 514 = .ok (.if_icmp .eq 5, 3) := by decide +kernel
theorem d_law_517 : decode code 517 = .ok (.iconst 0, 1) := by decide +kernel
theorem d_law_518 : decode code 518 = .ok (.ireturn, 1) := by decide +kernel
theorem d_law_519 : decode code 519 = .ok (.iinc 3 6, 3) := by decide +kernel
theorem d_law_522 : decode code 522 = .ok (.goto (-504), 3) := by decide +kernel
theorem d_law_525 : decode code 525 = .ok (.iconst 1, 1) := by decide +kernel
theorem d_law_526 : decode code 526 = .ok (.ireturn, 1) := by decide +kernel
theorem lv_law_13 : cV "SignDotsLaw" 13 M_SD_note 5 := ⟨⟨gw_at 326 (by decide +kernel) (by decide +kernel), gw_at 60 (by decide +kernel) (by decide +kernel), gw_at 329 (by decide +kernel) (by decide +kernel), ⟨by decide +kernel, by decide +kernel, by decide +kernel⟩, by decide⟩, gw_at 327 (by decide +kernel) (by decide +kernel), gw_at 328 (by decide +kernel) (by decide +kernel)⟩
theorem lv_law_17 : cV "SignDotsLaw" 17 M_MD_note 5 := ⟨⟨gw_at 820 (by decide +kernel) (by decide +kernel), gw_at 68 (by decide +kernel) (by decide +kernel), gw_at 823 (by decide +kernel) (by decide +kernel), ⟨by decide +kernel, by decide +kernel, by decide +kernel⟩, by decide⟩, gw_at 821 (by decide +kernel) (by decide +kernel), gw_at 822 (by decide +kernel) (by decide +kernel)⟩
theorem lv_law_18 : cV "SignDotsLaw" 18 M_SD_mark 3 := ⟨⟨gw_at 360 (by decide +kernel) (by decide +kernel), gw_at 60 (by decide +kernel) (by decide +kernel), gw_at 363 (by decide +kernel) (by decide +kernel), ⟨by decide +kernel, by decide +kernel, by decide +kernel⟩, by decide⟩, gw_at 361 (by decide +kernel) (by decide +kernel), gw_at 362 (by decide +kernel) (by decide +kernel)⟩
theorem lv_law_22 : cV "SignDotsLaw" 22 M_MD_mark 3 := ⟨⟨gw_at 827 (by decide +kernel) (by decide +kernel), gw_at 68 (by decide +kernel) (by decide +kernel), gw_at 830 (by decide +kernel) (by decide +kernel), ⟨by decide +kernel, by decide +kernel, by decide +kernel⟩, by decide⟩, gw_at 828 (by decide +kernel) (by decide +kernel), gw_at 829 (by decide +kernel) (by decide +kernel)⟩
theorem lv_law_23 : cV "SignDotsLaw" 23 M_SD_key 2 := ⟨⟨gw_at 386 (by decide +kernel) (by decide +kernel), gw_at 60 (by decide +kernel) (by decide +kernel), gw_at 389 (by decide +kernel) (by decide +kernel), ⟨by decide +kernel, by decide +kernel, by decide +kernel⟩, by decide⟩, gw_at 387 (by decide +kernel) (by decide +kernel), gw_at 388 (by decide +kernel) (by decide +kernel)⟩
theorem lv_law_27 : cV "SignDotsLaw" 27 M_MD_key 2 := ⟨⟨gw_at 842 (by decide +kernel) (by decide +kernel), gw_at 68 (by decide +kernel) (by decide +kernel), gw_at 845 (by decide +kernel) (by decide +kernel), ⟨by decide +kernel, by decide +kernel, by decide +kernel⟩, by decide⟩, gw_at 843 (by decide +kernel) (by decide +kernel), gw_at 844 (by decide +kernel) (by decide +kernel)⟩
theorem lv_law_28 : cV "SignDotsLaw" 28 M_SD_clef 2 := ⟨⟨gw_at 394 (by decide +kernel) (by decide +kernel), gw_at 60 (by decide +kernel) (by decide +kernel), gw_at 397 (by decide +kernel) (by decide +kernel), ⟨by decide +kernel, by decide +kernel, by decide +kernel⟩, by decide⟩, gw_at 395 (by decide +kernel) (by decide +kernel), gw_at 396 (by decide +kernel) (by decide +kernel)⟩
theorem lv_law_31 : cV "SignDotsLaw" 31 M_MD_clef 2 := ⟨⟨gw_at 850 (by decide +kernel) (by decide +kernel), gw_at 68 (by decide +kernel) (by decide +kernel), gw_at 853 (by decide +kernel) (by decide +kernel), ⟨by decide +kernel, by decide +kernel, by decide +kernel⟩, by decide⟩, gw_at 851 (by decide +kernel) (by decide +kernel), gw_at 852 (by decide +kernel) (by decide +kernel)⟩
theorem lv_law_32 : cV "SignDotsLaw" 32 M_SD_rule 2 := ⟨⟨gw_at 400 (by decide +kernel) (by decide +kernel), gw_at 60 (by decide +kernel) (by decide +kernel), gw_at 403 (by decide +kernel) (by decide +kernel), ⟨by decide +kernel, by decide +kernel, by decide +kernel⟩, by decide⟩, gw_at 401 (by decide +kernel) (by decide +kernel), gw_at 402 (by decide +kernel) (by decide +kernel)⟩
theorem lv_law_35 : cV "SignDotsLaw" 35 M_MD_rule 2 := ⟨⟨gw_at 858 (by decide +kernel) (by decide +kernel), gw_at 68 (by decide +kernel) (by decide +kernel), gw_at 861 (by decide +kernel) (by decide +kernel), ⟨by decide +kernel, by decide +kernel, by decide +kernel⟩, by decide⟩, gw_at 859 (by decide +kernel) (by decide +kernel), gw_at 860 (by decide +kernel) (by decide +kernel)⟩
theorem lv_law_36 : cV "SignDotsLaw" 36 M_SD_drop 0 := ⟨⟨gw_at 406 (by decide +kernel) (by decide +kernel), gw_at 60 (by decide +kernel) (by decide +kernel), gw_at 409 (by decide +kernel) (by decide +kernel), ⟨by decide +kernel, by decide +kernel, by decide +kernel⟩, by decide⟩, gw_at 407 (by decide +kernel) (by decide +kernel), gw_at 408 (by decide +kernel) (by decide +kernel)⟩
theorem lv_law_40 : cV "SignDotsLaw" 40 M_MD_drop 0 := ⟨⟨gw_at 862 (by decide +kernel) (by decide +kernel), gw_at 68 (by decide +kernel) (by decide +kernel), gw_at 865 (by decide +kernel) (by decide +kernel), ⟨by decide +kernel, by decide +kernel, by decide +kernel⟩, by decide⟩, gw_at 863 (by decide +kernel) (by decide +kernel), gw_at 864 (by decide +kernel) (by decide +kernel)⟩
theorem lv_law_41 : cV "SignDotsLaw" 41 M_SD_count 1 := ⟨⟨gw_at 414 (by decide +kernel) (by decide +kernel), gw_at 60 (by decide +kernel) (by decide +kernel), gw_at 417 (by decide +kernel) (by decide +kernel), ⟨by decide +kernel, by decide +kernel, by decide +kernel⟩, by decide⟩, gw_at 415 (by decide +kernel) (by decide +kernel), gw_at 416 (by decide +kernel) (by decide +kernel)⟩
theorem lv_law_45 : cV "SignDotsLaw" 45 M_MD_count 1 := ⟨⟨gw_at 866 (by decide +kernel) (by decide +kernel), gw_at 68 (by decide +kernel) (by decide +kernel), gw_at 869 (by decide +kernel) (by decide +kernel), ⟨by decide +kernel, by decide +kernel, by decide +kernel⟩, by decide⟩, gw_at 867 (by decide +kernel) (by decide +kernel), gw_at 868 (by decide +kernel) (by decide +kernel)⟩
theorem lv_law_46 : cV "SignDotsLaw" 46 M_SD_ordered 1 := ⟨⟨gw_at 549 (by decide +kernel) (by decide +kernel), gw_at 60 (by decide +kernel) (by decide +kernel), gw_at 552 (by decide +kernel) (by decide +kernel), ⟨by decide +kernel, by decide +kernel, by decide +kernel⟩, by decide⟩, gw_at 550 (by decide +kernel) (by decide +kernel), gw_at 551 (by decide +kernel) (by decide +kernel)⟩
theorem lv_law_49 : cV "SignDotsLaw" 49 M_MD_ordered 1 := ⟨⟨gw_at 908 (by decide +kernel) (by decide +kernel), gw_at 68 (by decide +kernel) (by decide +kernel), gw_at 911 (by decide +kernel) (by decide +kernel), ⟨by decide +kernel, by decide +kernel, by decide +kernel⟩, by decide⟩, gw_at 909 (by decide +kernel) (by decide +kernel), gw_at 910 (by decide +kernel) (by decide +kernel)⟩
theorem lv_law_50 : cV "SignDotsLaw" 50 M_SD_sign 2 := ⟨⟨gw_at 553 (by decide +kernel) (by decide +kernel), gw_at 60 (by decide +kernel) (by decide +kernel), gw_at 556 (by decide +kernel) (by decide +kernel), ⟨by decide +kernel, by decide +kernel, by decide +kernel⟩, by decide⟩, gw_at 554 (by decide +kernel) (by decide +kernel), gw_at 555 (by decide +kernel) (by decide +kernel)⟩
theorem lv_law_53 : cV "SignDotsLaw" 53 M_MD_sign 2 := ⟨⟨gw_at 912 (by decide +kernel) (by decide +kernel), gw_at 68 (by decide +kernel) (by decide +kernel), gw_at 915 (by decide +kernel) (by decide +kernel), ⟨by decide +kernel, by decide +kernel, by decide +kernel⟩, by decide⟩, gw_at 913 (by decide +kernel) (by decide +kernel), gw_at 914 (by decide +kernel) (by decide +kernel)⟩
theorem lv_law_54 : cV "SignDotsLaw" 54 M_SD_extent 2 := ⟨⟨gw_at 631 (by decide +kernel) (by decide +kernel), gw_at 60 (by decide +kernel) (by decide +kernel), gw_at 634 (by decide +kernel) (by decide +kernel), ⟨by decide +kernel, by decide +kernel, by decide +kernel⟩, by decide⟩, gw_at 632 (by decide +kernel) (by decide +kernel), gw_at 633 (by decide +kernel) (by decide +kernel)⟩
theorem lv_law_57 : cV "SignDotsLaw" 57 M_MD_extent 2 := ⟨⟨gw_at 956 (by decide +kernel) (by decide +kernel), gw_at 68 (by decide +kernel) (by decide +kernel), gw_at 959 (by decide +kernel) (by decide +kernel), ⟨by decide +kernel, by decide +kernel, by decide +kernel⟩, by decide⟩, gw_at 957 (by decide +kernel) (by decide +kernel), gw_at 958 (by decide +kernel) (by decide +kernel)⟩
theorem lv_law_58 : cV "SignDotsLaw" 58 M_SD_dot 1 := ⟨⟨gw_at 640 (by decide +kernel) (by decide +kernel), gw_at 60 (by decide +kernel) (by decide +kernel), gw_at 643 (by decide +kernel) (by decide +kernel), ⟨by decide +kernel, by decide +kernel, by decide +kernel⟩, by decide⟩, gw_at 641 (by decide +kernel) (by decide +kernel), gw_at 642 (by decide +kernel) (by decide +kernel)⟩
theorem lv_law_61 : cV "SignDotsLaw" 61 M_MD_dot 1 := ⟨⟨gw_at 960 (by decide +kernel) (by decide +kernel), gw_at 68 (by decide +kernel) (by decide +kernel), gw_at 963 (by decide +kernel) (by decide +kernel), ⟨by decide +kernel, by decide +kernel, by decide +kernel⟩, by decide⟩, gw_at 961 (by decide +kernel) (by decide +kernel), gw_at 962 (by decide +kernel) (by decide +kernel)⟩
theorem lv_law_62 : cV "SignDotsLaw" 62 M_SD_keySigns 1 := ⟨⟨gw_at 679 (by decide +kernel) (by decide +kernel), gw_at 60 (by decide +kernel) (by decide +kernel), gw_at 682 (by decide +kernel) (by decide +kernel), ⟨by decide +kernel, by decide +kernel, by decide +kernel⟩, by decide⟩, gw_at 680 (by decide +kernel) (by decide +kernel), gw_at 681 (by decide +kernel) (by decide +kernel)⟩
theorem lv_law_65 : cV "SignDotsLaw" 65 M_MD_keySigns 1 := ⟨⟨gw_at 965 (by decide +kernel) (by decide +kernel), gw_at 68 (by decide +kernel) (by decide +kernel), gw_at 968 (by decide +kernel) (by decide +kernel), ⟨by decide +kernel, by decide +kernel, by decide +kernel⟩, by decide⟩, gw_at 966 (by decide +kernel) (by decide +kernel), gw_at 967 (by decide +kernel) (by decide +kernel)⟩
theorem lv_law_66 : cV "SignDotsLaw" 66 M_SD_keySign 3 := ⟨⟨gw_at 716 (by decide +kernel) (by decide +kernel), gw_at 60 (by decide +kernel) (by decide +kernel), gw_at 719 (by decide +kernel) (by decide +kernel), ⟨by decide +kernel, by decide +kernel, by decide +kernel⟩, by decide⟩, gw_at 717 (by decide +kernel) (by decide +kernel), gw_at 718 (by decide +kernel) (by decide +kernel)⟩
theorem lv_law_69 : cV "SignDotsLaw" 69 M_MD_keySign 3 := ⟨⟨gw_at 977 (by decide +kernel) (by decide +kernel), gw_at 68 (by decide +kernel) (by decide +kernel), gw_at 980 (by decide +kernel) (by decide +kernel), ⟨by decide +kernel, by decide +kernel, by decide +kernel⟩, by decide⟩, gw_at 978 (by decide +kernel) (by decide +kernel), gw_at 979 (by decide +kernel) (by decide +kernel)⟩
