/-! the law: its cases; printed by wip/whole/print_law.py -/
theorem lcase_0 {G : Gp} {b L i : Nat} {xs : Nat → Int32} {μ : Mem} (hL : L ≤ 3072) (hi : i + 6 ≤ L) (hm : StpJ G M_SD_note M_MD_note [.inl (xs (i + 1)), .inl (xs (i + 2)), .inl (xs (i + 3)), .inl (xs (i + 4)), .inl (xs (i + 5))] μ (fun v => LJ G b L xs 519 [] i v)) : LJ G b L xs 100 [] i μ := by
  unfold StpJ at hm
  refine lj_self1 d_law_100 ?_
  refine lj_arg (k := 1) d_law_101 d_law_102 d_law_103 d_law_104 d_law_105 (by decide) (by decide) hi hL ?_
  refine lj_arg (k := 2) d_law_106 d_law_107 d_law_108 d_law_109 d_law_110 (by decide) (by decide) hi hL ?_
  refine lj_arg (k := 3) d_law_111 d_law_112 d_law_113 d_law_114 d_law_115 (by decide) (by decide) hi hL ?_
  refine lj_arg (k := 4) d_law_116 d_law_117 d_law_118 d_law_119 d_law_120 (by decide) (by decide) hi hL ?_
  refine lj_arg (k := 5) d_law_121 d_law_122 d_law_123 d_law_124 d_law_125 (by decide) (by decide) hi hL ?_
  refine lj_call (k := 0) (as := [.inl (xs (i + 1)), .inl (xs (i + 2)), .inl (xs (i + 3)), .inl (xs (i + 4)), .inl (xs (i + 5))]) (st := []) d_law_126 lv_law_13 (ci := 7) rfl rfl (by decide) rfl (Nat.le_of_ble_eq_true rfl) rfl ?_
  refine hm.mono (fun r u hm => ?_)
  refine lj_self2 d_law_129 ?_
  refine lj_arg (k := 1) d_law_130 d_law_131 d_law_132 d_law_133 d_law_134 (by decide) (by decide) hi hL ?_
  refine lj_arg (k := 2) d_law_135 d_law_136 d_law_137 d_law_138 d_law_139 (by decide) (by decide) hi hL ?_
  refine lj_arg (k := 3) d_law_140 d_law_141 d_law_142 d_law_143 d_law_144 (by decide) (by decide) hi hL ?_
  refine lj_arg (k := 4) d_law_145 d_law_146 d_law_147 d_law_148 d_law_149 (by decide) (by decide) hi hL ?_
  refine lj_arg (k := 5) d_law_150 d_law_151 d_law_152 d_law_153 d_law_154 (by decide) (by decide) hi hL ?_
  refine lj_call (k := 42) (as := [.inl (xs (i + 1)), .inl (xs (i + 2)), .inl (xs (i + 3)), .inl (xs (i + 4)), .inl (xs (i + 5))]) (st := [.int r]) d_law_155 lv_law_17 (ci := 8) rfl rfl (by decide) rfl (Nat.le_of_ble_eq_true rfl) rfl ?_
  refine hm.mono (fun r2 v hm => ?_)
  exact lj_eq d_law_158 (by decide) hm.1 hm.2
theorem lcase_1 {G : Gp} {b L i : Nat} {xs : Nat → Int32} {μ : Mem} (hL : L ≤ 3072) (hi : i + 6 ≤ L) (hm : StpJ G M_SD_mark M_MD_mark [.inl (xs (i + 1)), .inl (xs (i + 2)), .inl (xs (i + 3))] μ (fun v => LJ G b L xs 519 [] i v)) : LJ G b L xs 163 [] i μ := by
  unfold StpJ at hm
  refine lj_self1 d_law_163 ?_
  refine lj_arg (k := 1) d_law_164 d_law_165 d_law_166 d_law_167 d_law_168 (by decide) (by decide) hi hL ?_
  refine lj_arg (k := 2) d_law_169 d_law_170 d_law_171 d_law_172 d_law_173 (by decide) (by decide) hi hL ?_
  refine lj_arg (k := 3) d_law_174 d_law_175 d_law_176 d_law_177 d_law_178 (by decide) (by decide) hi hL ?_
  refine lj_call (k := 0) (as := [.inl (xs (i + 1)), .inl (xs (i + 2)), .inl (xs (i + 3))]) (st := []) d_law_179 lv_law_18 (ci := 7) rfl rfl (by decide) rfl (Nat.le_of_ble_eq_true rfl) rfl ?_
  refine hm.mono (fun r u hm => ?_)
  refine lj_self2 d_law_182 ?_
  refine lj_arg (k := 1) d_law_183 d_law_184 d_law_185 d_law_186 d_law_187 (by decide) (by decide) hi hL ?_
  refine lj_arg (k := 2) d_law_188 d_law_189 d_law_190 d_law_191 d_law_192 (by decide) (by decide) hi hL ?_
  refine lj_arg (k := 3) d_law_193 d_law_194 d_law_195 d_law_196 d_law_197 (by decide) (by decide) hi hL ?_
  refine lj_call (k := 42) (as := [.inl (xs (i + 1)), .inl (xs (i + 2)), .inl (xs (i + 3))]) (st := [.int r]) d_law_198 lv_law_22 (ci := 8) rfl rfl (by decide) rfl (Nat.le_of_ble_eq_true rfl) rfl ?_
  refine hm.mono (fun r2 v hm => ?_)
  exact lj_eq d_law_201 (by decide) hm.1 hm.2
theorem lcase_2 {G : Gp} {b L i : Nat} {xs : Nat → Int32} {μ : Mem} (hL : L ≤ 3072) (hi : i + 6 ≤ L) (hm : StpJ G M_SD_key M_MD_key [.inl (xs (i + 1)), .inl (xs (i + 2))] μ (fun v => LJ G b L xs 519 [] i v)) : LJ G b L xs 206 [] i μ := by
  unfold StpJ at hm
  refine lj_self1 d_law_206 ?_
  refine lj_arg (k := 1) d_law_207 d_law_208 d_law_209 d_law_210 d_law_211 (by decide) (by decide) hi hL ?_
  refine lj_arg (k := 2) d_law_212 d_law_213 d_law_214 d_law_215 d_law_216 (by decide) (by decide) hi hL ?_
  refine lj_call (k := 0) (as := [.inl (xs (i + 1)), .inl (xs (i + 2))]) (st := []) d_law_217 lv_law_23 (ci := 7) rfl rfl (by decide) rfl (Nat.le_of_ble_eq_true rfl) rfl ?_
  refine hm.mono (fun r u hm => ?_)
  refine lj_self2 d_law_220 ?_
  refine lj_arg (k := 1) d_law_221 d_law_222 d_law_223 d_law_224 d_law_225 (by decide) (by decide) hi hL ?_
  refine lj_arg (k := 2) d_law_226 d_law_227 d_law_228 d_law_229 d_law_230 (by decide) (by decide) hi hL ?_
  refine lj_call (k := 42) (as := [.inl (xs (i + 1)), .inl (xs (i + 2))]) (st := [.int r]) d_law_231 lv_law_27 (ci := 8) rfl rfl (by decide) rfl (Nat.le_of_ble_eq_true rfl) rfl ?_
  refine hm.mono (fun r2 v hm => ?_)
  exact lj_eq d_law_234 (by decide) hm.1 hm.2
theorem lcase_3 {G : Gp} {b L i : Nat} {xs : Nat → Int32} {μ : Mem} (hL : L ≤ 3072) (hi : i + 6 ≤ L) (hm : StpJ G M_SD_clef M_MD_clef [.inl (xs (i + 1)), .inl (xs (i + 2))] μ (fun v => LJ G b L xs 519 [] i v)) : LJ G b L xs 239 [] i μ := by
  unfold StpJ at hm
  refine lj_self1 d_law_239 ?_
  refine lj_arg (k := 1) d_law_240 d_law_241 d_law_242 d_law_243 d_law_244 (by decide) (by decide) hi hL ?_
  refine lj_arg (k := 2) d_law_245 d_law_246 d_law_247 d_law_248 d_law_249 (by decide) (by decide) hi hL ?_
  refine lj_call (k := 0) (as := [.inl (xs (i + 1)), .inl (xs (i + 2))]) (st := []) d_law_250 lv_law_28 (ci := 7) rfl rfl (by decide) rfl (Nat.le_of_ble_eq_true rfl) rfl ?_
  refine hm.mono (fun r u hm => ?_)
  refine lj_self2 d_law_253 ?_
  refine lj_arg (k := 1) d_law_254 d_law_255 d_law_256 d_law_257 d_law_258 (by decide) (by decide) hi hL ?_
  refine lj_arg (k := 2) d_law_259 d_law_260 d_law_261 d_law_262 d_law_263 (by decide) (by decide) hi hL ?_
  refine lj_call (k := 42) (as := [.inl (xs (i + 1)), .inl (xs (i + 2))]) (st := [.int r]) d_law_264 lv_law_31 (ci := 8) rfl rfl (by decide) rfl (Nat.le_of_ble_eq_true rfl) rfl ?_
  refine hm.mono (fun r2 v hm => ?_)
  exact lj_eq d_law_267 (by decide) hm.1 hm.2
theorem lcase_4 {G : Gp} {b L i : Nat} {xs : Nat → Int32} {μ : Mem} (hL : L ≤ 3072) (hi : i + 6 ≤ L) (hm : StpJ G M_SD_rule M_MD_rule [.inl (xs (i + 1)), .inl (xs (i + 2))] μ (fun v => LJ G b L xs 519 [] i v)) : LJ G b L xs 272 [] i μ := by
  unfold StpJ at hm
  refine lj_self1 d_law_272 ?_
  refine lj_arg (k := 1) d_law_273 d_law_274 d_law_275 d_law_276 d_law_277 (by decide) (by decide) hi hL ?_
  refine lj_arg (k := 2) d_law_278 d_law_279 d_law_280 d_law_281 d_law_282 (by decide) (by decide) hi hL ?_
  refine lj_call (k := 0) (as := [.inl (xs (i + 1)), .inl (xs (i + 2))]) (st := []) d_law_283 lv_law_32 (ci := 7) rfl rfl (by decide) rfl (Nat.le_of_ble_eq_true rfl) rfl ?_
  refine hm.mono (fun r u hm => ?_)
  refine lj_self2 d_law_286 ?_
  refine lj_arg (k := 1) d_law_287 d_law_288 d_law_289 d_law_290 d_law_291 (by decide) (by decide) hi hL ?_
  refine lj_arg (k := 2) d_law_292 d_law_293 d_law_294 d_law_295 d_law_296 (by decide) (by decide) hi hL ?_
  refine lj_call (k := 42) (as := [.inl (xs (i + 1)), .inl (xs (i + 2))]) (st := [.int r]) d_law_297 lv_law_35 (ci := 8) rfl rfl (by decide) rfl (Nat.le_of_ble_eq_true rfl) rfl ?_
  refine hm.mono (fun r2 v hm => ?_)
  exact lj_eq d_law_300 (by decide) hm.1 hm.2
theorem lcase_5 {G : Gp} {b L i : Nat} {xs : Nat → Int32} {μ : Mem} (hL : L ≤ 3072) (hi : i + 6 ≤ L) (hm : StpJ G M_SD_drop M_MD_drop [] μ (fun v => LJ G b L xs 519 [] i v)) : LJ G b L xs 305 [] i μ := by
  unfold StpJ at hm
  refine lj_self1 d_law_305 ?_
  refine lj_call (k := 0) (as := []) (st := []) d_law_306 lv_law_36 (ci := 7) rfl rfl (by decide) rfl (Nat.le_of_ble_eq_true rfl) rfl ?_
  refine hm.mono (fun r u hm => ?_)
  refine lj_self2 d_law_309 ?_
  refine lj_call (k := 42) (as := []) (st := [.int r]) d_law_310 lv_law_40 (ci := 8) rfl rfl (by decide) rfl (Nat.le_of_ble_eq_true rfl) rfl ?_
  refine hm.mono (fun r2 v hm => ?_)
  exact lj_eq d_law_313 (by decide) hm.1 hm.2
theorem lcase_6 {G : Gp} {b L i : Nat} {xs : Nat → Int32} {μ : Mem} (hL : L ≤ 3072) (hi : i + 6 ≤ L) (hm : StpJ G M_SD_count M_MD_count [.inl (xs (i + 1))] μ (fun v => LJ G b L xs 519 [] i v)) : LJ G b L xs 318 [] i μ := by
  unfold StpJ at hm
  refine lj_self1 d_law_318 ?_
  refine lj_arg (k := 1) d_law_319 d_law_320 d_law_321 d_law_322 d_law_323 (by decide) (by decide) hi hL ?_
  refine lj_call (k := 0) (as := [.inl (xs (i + 1))]) (st := []) d_law_324 lv_law_41 (ci := 7) rfl rfl (by decide) rfl (Nat.le_of_ble_eq_true rfl) rfl ?_
  refine hm.mono (fun r u hm => ?_)
  refine lj_self2 d_law_327 ?_
  refine lj_arg (k := 1) d_law_328 d_law_329 d_law_330 d_law_331 d_law_332 (by decide) (by decide) hi hL ?_
  refine lj_call (k := 42) (as := [.inl (xs (i + 1))]) (st := [.int r]) d_law_333 lv_law_45 (ci := 8) rfl rfl (by decide) rfl (Nat.le_of_ble_eq_true rfl) rfl ?_
  refine hm.mono (fun r2 v hm => ?_)
  exact lj_eq d_law_336 (by decide) hm.1 hm.2
theorem lcase_7 {G : Gp} {b L i : Nat} {xs : Nat → Int32} {μ : Mem} (hL : L ≤ 3072) (hi : i + 6 ≤ L) (hm : StpJ G M_SD_ordered M_MD_ordered [.inl (xs (i + 1))] μ (fun v => LJ G b L xs 519 [] i v)) : LJ G b L xs 341 [] i μ := by
  unfold StpJ at hm
  refine lj_self1 d_law_341 ?_
  refine lj_arg (k := 1) d_law_342 d_law_343 d_law_344 d_law_345 d_law_346 (by decide) (by decide) hi hL ?_
  refine lj_call (k := 0) (as := [.inl (xs (i + 1))]) (st := []) d_law_347 lv_law_46 (ci := 7) rfl rfl (by decide) rfl (Nat.le_of_ble_eq_true rfl) rfl ?_
  refine hm.mono (fun r u hm => ?_)
  refine lj_self2 d_law_350 ?_
  refine lj_arg (k := 1) d_law_351 d_law_352 d_law_353 d_law_354 d_law_355 (by decide) (by decide) hi hL ?_
  refine lj_call (k := 42) (as := [.inl (xs (i + 1))]) (st := [.int r]) d_law_356 lv_law_49 (ci := 8) rfl rfl (by decide) rfl (Nat.le_of_ble_eq_true rfl) rfl ?_
  refine hm.mono (fun r2 v hm => ?_)
  exact lj_eq d_law_359 (by decide) hm.1 hm.2
theorem lcase_8 {G : Gp} {b L i : Nat} {xs : Nat → Int32} {μ : Mem} (hL : L ≤ 3072) (hi : i + 6 ≤ L) (hm : StpJ G M_SD_sign M_MD_sign [.inl (xs (i + 1)), .inl (xs (i + 2))] μ (fun v => LJ G b L xs 519 [] i v)) : LJ G b L xs 364 [] i μ := by
  unfold StpJ at hm
  refine lj_self1 d_law_364 ?_
  refine lj_arg (k := 1) d_law_365 d_law_366 d_law_367 d_law_368 d_law_369 (by decide) (by decide) hi hL ?_
  refine lj_arg (k := 2) d_law_370 d_law_371 d_law_372 d_law_373 d_law_374 (by decide) (by decide) hi hL ?_
  refine lj_call (k := 0) (as := [.inl (xs (i + 1)), .inl (xs (i + 2))]) (st := []) d_law_375 lv_law_50 (ci := 7) rfl rfl (by decide) rfl (Nat.le_of_ble_eq_true rfl) rfl ?_
  refine hm.mono (fun r u hm => ?_)
  refine lj_self2 d_law_378 ?_
  refine lj_arg (k := 1) d_law_379 d_law_380 d_law_381 d_law_382 d_law_383 (by decide) (by decide) hi hL ?_
  refine lj_arg (k := 2) d_law_384 d_law_385 d_law_386 d_law_387 d_law_388 (by decide) (by decide) hi hL ?_
  refine lj_call (k := 42) (as := [.inl (xs (i + 1)), .inl (xs (i + 2))]) (st := [.int r]) d_law_389 lv_law_53 (ci := 8) rfl rfl (by decide) rfl (Nat.le_of_ble_eq_true rfl) rfl ?_
  refine hm.mono (fun r2 v hm => ?_)
  exact lj_eq d_law_392 (by decide) hm.1 hm.2
theorem lcase_9 {G : Gp} {b L i : Nat} {xs : Nat → Int32} {μ : Mem} (hL : L ≤ 3072) (hi : i + 6 ≤ L) (hm : StpJ G M_SD_extent M_MD_extent [.inl (xs (i + 1)), .inl (xs (i + 2))] μ (fun v => LJ G b L xs 519 [] i v)) : LJ G b L xs 397 [] i μ := by
  unfold StpJ at hm
  refine lj_self1 d_law_397 ?_
  refine lj_arg (k := 1) d_law_398 d_law_399 d_law_400 d_law_401 d_law_402 (by decide) (by decide) hi hL ?_
  refine lj_arg (k := 2) d_law_403 d_law_404 d_law_405 d_law_406 d_law_407 (by decide) (by decide) hi hL ?_
  refine lj_call (k := 0) (as := [.inl (xs (i + 1)), .inl (xs (i + 2))]) (st := []) d_law_408 lv_law_54 (ci := 7) rfl rfl (by decide) rfl (Nat.le_of_ble_eq_true rfl) rfl ?_
  refine hm.mono (fun r u hm => ?_)
  refine lj_self2 d_law_411 ?_
  refine lj_arg (k := 1) d_law_412 d_law_413 d_law_414 d_law_415 d_law_416 (by decide) (by decide) hi hL ?_
  refine lj_arg (k := 2) d_law_417 d_law_418 d_law_419 d_law_420 d_law_421 (by decide) (by decide) hi hL ?_
  refine lj_call (k := 42) (as := [.inl (xs (i + 1)), .inl (xs (i + 2))]) (st := [.int r]) d_law_422 lv_law_57 (ci := 8) rfl rfl (by decide) rfl (Nat.le_of_ble_eq_true rfl) rfl ?_
  refine hm.mono (fun r2 v hm => ?_)
  exact lj_eq d_law_425 (by decide) hm.1 hm.2
theorem lcase_10 {G : Gp} {b L i : Nat} {xs : Nat → Int32} {μ : Mem} (hL : L ≤ 3072) (hi : i + 6 ≤ L) (hm : StpJ G M_SD_dot M_MD_dot [.inl (xs (i + 1))] μ (fun v => LJ G b L xs 519 [] i v)) : LJ G b L xs 430 [] i μ := by
  unfold StpJ at hm
  refine lj_self1 d_law_430 ?_
  refine lj_arg (k := 1) d_law_431 d_law_432 d_law_433 d_law_434 d_law_435 (by decide) (by decide) hi hL ?_
  refine lj_call (k := 0) (as := [.inl (xs (i + 1))]) (st := []) d_law_436 lv_law_58 (ci := 7) rfl rfl (by decide) rfl (Nat.le_of_ble_eq_true rfl) rfl ?_
  refine hm.mono (fun r u hm => ?_)
  refine lj_self2 d_law_439 ?_
  refine lj_arg (k := 1) d_law_440 d_law_441 d_law_442 d_law_443 d_law_444 (by decide) (by decide) hi hL ?_
  refine lj_call (k := 42) (as := [.inl (xs (i + 1))]) (st := [.int r]) d_law_445 lv_law_61 (ci := 8) rfl rfl (by decide) rfl (Nat.le_of_ble_eq_true rfl) rfl ?_
  refine hm.mono (fun r2 v hm => ?_)
  exact lj_eq d_law_448 (by decide) hm.1 hm.2
theorem lcase_11 {G : Gp} {b L i : Nat} {xs : Nat → Int32} {μ : Mem} (hL : L ≤ 3072) (hi : i + 6 ≤ L) (hm : StpJ G M_SD_keySigns M_MD_keySigns [.inl (xs (i + 1))] μ (fun v => LJ G b L xs 519 [] i v)) : LJ G b L xs 453 [] i μ := by
  unfold StpJ at hm
  refine lj_self1 d_law_453 ?_
  refine lj_arg (k := 1) d_law_454 d_law_455 d_law_456 d_law_457 d_law_458 (by decide) (by decide) hi hL ?_
  refine lj_call (k := 0) (as := [.inl (xs (i + 1))]) (st := []) d_law_459 lv_law_62 (ci := 7) rfl rfl (by decide) rfl (Nat.le_of_ble_eq_true rfl) rfl ?_
  refine hm.mono (fun r u hm => ?_)
  refine lj_self2 d_law_462 ?_
  refine lj_arg (k := 1) d_law_463 d_law_464 d_law_465 d_law_466 d_law_467 (by decide) (by decide) hi hL ?_
  refine lj_call (k := 42) (as := [.inl (xs (i + 1))]) (st := [.int r]) d_law_468 lv_law_65 (ci := 8) rfl rfl (by decide) rfl (Nat.le_of_ble_eq_true rfl) rfl ?_
  refine hm.mono (fun r2 v hm => ?_)
  exact lj_eq d_law_471 (by decide) hm.1 hm.2
theorem lcase_12 {G : Gp} {b L i : Nat} {xs : Nat → Int32} {μ : Mem} (hL : L ≤ 3072) (hi : i + 6 ≤ L) (hm : StpJ G M_SD_keySign M_MD_keySign [.inl (xs (i + 1)), .inl (xs (i + 2)), .inl (xs (i + 3))] μ (fun v => LJ G b L xs 519 [] i v)) : LJ G b L xs 476 [] i μ := by
  unfold StpJ at hm
  refine lj_self1 d_law_476 ?_
  refine lj_arg (k := 1) d_law_477 d_law_478 d_law_479 d_law_480 d_law_481 (by decide) (by decide) hi hL ?_
  refine lj_arg (k := 2) d_law_482 d_law_483 d_law_484 d_law_485 d_law_486 (by decide) (by decide) hi hL ?_
  refine lj_arg (k := 3) d_law_487 d_law_488 d_law_489 d_law_490 d_law_491 (by decide) (by decide) hi hL ?_
  refine lj_call (k := 0) (as := [.inl (xs (i + 1)), .inl (xs (i + 2)), .inl (xs (i + 3))]) (st := []) d_law_492 lv_law_66 (ci := 7) rfl rfl (by decide) rfl (Nat.le_of_ble_eq_true rfl) rfl ?_
  refine hm.mono (fun r u hm => ?_)
  refine lj_self2 d_law_495 ?_
  refine lj_arg (k := 1) d_law_496 d_law_497 d_law_498 d_law_499 d_law_500 (by decide) (by decide) hi hL ?_
  refine lj_arg (k := 2) d_law_501 d_law_502 d_law_503 d_law_504 d_law_505 (by decide) (by decide) hi hL ?_
  refine lj_arg (k := 3) d_law_506 d_law_507 d_law_508 d_law_509 d_law_510 (by decide) (by decide) hi hL ?_
  refine lj_call (k := 42) (as := [.inl (xs (i + 1)), .inl (xs (i + 2)), .inl (xs (i + 3))]) (st := [.int r]) d_law_511 lv_law_69 (ci := 8) rfl rfl (by decide) rfl (Nat.le_of_ble_eq_true rfl) rfl ?_
  refine hm.mono (fun r2 v hm => ?_)
  exact lj_eq d_law_514 (by decide) hm.1 hm.2
