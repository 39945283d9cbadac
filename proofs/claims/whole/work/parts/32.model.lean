theorem in_X9_readsOrder_X9 : ∀ w ∈ u_ws RX9 TX9 16, w ∈ wsX9_readsOrder := by decide +kernel
theorem lk_X9_readsOrder_f198 : Cond.fieldLink RX9 198 "PoisonPilesModel" "at" "I" ∈ wsX9_readsOrder := by decide +kernel
theorem lk_X9_readsOrder_f201 : Cond.fieldLink RX9 201 "PoisonPilesModel" "isWell" "Z" ∈ wsX9_readsOrder := by decide +kernel
theorem lk_X9_readsOrder_f208 : Cond.fieldLink RX9 208 "PoisonPilesModel" "orderMany" "I" ∈ wsX9_readsOrder := by decide +kernel
theorem lk_X9_readsOrder_f38 : Cond.fieldLink RX9 38 "PoisonPilesModel" "orders" "[I" ∈ wsX9_readsOrder := by decide +kernel
def fX9_readsOrder   (X : XM) : Option XM := zl (4 * (X 22 5)) (fun v_1 => zi (fX9_letter X) (fun r_4 X_3 => if r_4 = 43 then zl (xup X_3 22 4 1) (fun X_8 => if (X_8 22 4) = 0 then zl (xup X_8 22 3 ((X_8 22 3) + 0)) (fun X_11 => zd v_1 168 (zl (xup X_11 32 (Int32.toNatClampNeg v_1) 43) (fun X_14 => zi (fX9_digit X_14) (fun r_19 X_18 => zd (v_1 + 1) 168 (zl (xup X_18 32 (Int32.toNatClampNeg (v_1 + 1)) r_19) (fun X_22 => zi (fX9_hasSign 119 X_22) (fun r_26 X_25 => if r_26 = 0 then zd (v_1 + 2) 168 (zl (xup X_25 32 (Int32.toNatClampNeg (v_1 + 2)) 1) (fun X_30 => zd (v_1 + 2) 168 (zd (v_1 + 2) 168 (zl (xup X_30 32 (Int32.toNatClampNeg (v_1 + 2)) (X_30 32 (Int32.toNatClampNeg (v_1 + 2)))) (fun X_37 => zi (fX9_hasSign 33 X_37) (fun r_41 X_40 => if r_41 = 0 then zd (v_1 + 3) 168 (zl (xup X_40 32 (Int32.toNatClampNeg (v_1 + 3)) 0) (fun X_45 => if (X_45 22 4) = 0 then zl (xup X_45 22 5 ((X_45 22 5) + 0)) (fun X_48 => some X_48) else zl (xup X_45 22 5 ((X_45 22 5) + 1)) (fun X_50 => some X_50))) else zd (v_1 + 3) 168 (zl (xup X_40 32 (Int32.toNatClampNeg (v_1 + 3)) 1) (fun X_53 => if (X_53 22 4) = 0 then zl (xup X_53 22 5 ((X_53 22 5) + 0)) (fun X_56 => some X_56) else zl (xup X_53 22 5 ((X_53 22 5) + 1)) (fun X_58 => some X_58))))))))) else zi (fX9_digit X_25) (fun r_61 X_60 => zd (v_1 + 2) 168 (zl (xup X_60 32 (Int32.toNatClampNeg (v_1 + 2)) r_61) (fun X_64 => zd (v_1 + 2) 168 (zd (v_1 + 2) 168 (zl (xup X_64 32 (Int32.toNatClampNeg (v_1 + 2)) (X_64 32 (Int32.toNatClampNeg (v_1 + 2)))) (fun X_71 => zi (fX9_hasSign 33 X_71) (fun r_75 X_74 => if r_75 = 0 then zd (v_1 + 3) 168 (zl (xup X_74 32 (Int32.toNatClampNeg (v_1 + 3)) 0) (fun X_79 => if (X_79 22 4) = 0 then zl (xup X_79 22 5 ((X_79 22 5) + 0)) (fun X_82 => some X_82) else zl (xup X_79 22 5 ((X_79 22 5) + 1)) (fun X_84 => some X_84))) else zd (v_1 + 3) 168 (zl (xup X_74 32 (Int32.toNatClampNeg (v_1 + 3)) 1) (fun X_87 => if (X_87 22 4) = 0 then zl (xup X_87 22 5 ((X_87 22 5) + 0)) (fun X_90 => some X_90) else zl (xup X_87 22 5 ((X_87 22 5) + 1)) (fun X_92 => some X_92))))))))))))))))) else zl (xup X_8 22 3 ((X_8 22 3) + 1)) (fun X_94 => zd v_1 168 (zl (xup X_94 32 (Int32.toNatClampNeg v_1) 43) (fun X_97 => zi (fX9_digit X_97) (fun r_102 X_101 => zd (v_1 + 1) 168 (zl (xup X_101 32 (Int32.toNatClampNeg (v_1 + 1)) r_102) (fun X_105 => zi (fX9_hasSign 119 X_105) (fun r_109 X_108 => if r_109 = 0 then zd (v_1 + 2) 168 (zl (xup X_108 32 (Int32.toNatClampNeg (v_1 + 2)) 1) (fun X_113 => zd (v_1 + 2) 168 (zd (v_1 + 2) 168 (zl (xup X_113 32 (Int32.toNatClampNeg (v_1 + 2)) (X_113 32 (Int32.toNatClampNeg (v_1 + 2)))) (fun X_120 => zi (fX9_hasSign 33 X_120) (fun r_124 X_123 => if r_124 = 0 then zd (v_1 + 3) 168 (zl (xup X_123 32 (Int32.toNatClampNeg (v_1 + 3)) 0) (fun X_128 => if (X_128 22 4) = 0 then zl (xup X_128 22 5 ((X_128 22 5) + 0)) (fun X_131 => some X_131) else zl (xup X_128 22 5 ((X_128 22 5) + 1)) (fun X_133 => some X_133))) else zd (v_1 + 3) 168 (zl (xup X_123 32 (Int32.toNatClampNeg (v_1 + 3)) 1) (fun X_136 => if (X_136 22 4) = 0 then zl (xup X_136 22 5 ((X_136 22 5) + 0)) (fun X_139 => some X_139) else zl (xup X_136 22 5 ((X_136 22 5) + 1)) (fun X_141 => some X_141))))))))) else zi (fX9_digit X_108) (fun r_144 X_143 => zd (v_1 + 2) 168 (zl (xup X_143 32 (Int32.toNatClampNeg (v_1 + 2)) r_144) (fun X_147 => zd (v_1 + 2) 168 (zd (v_1 + 2) 168 (zl (xup X_147 32 (Int32.toNatClampNeg (v_1 + 2)) (X_147 32 (Int32.toNatClampNeg (v_1 + 2)))) (fun X_154 => zi (fX9_hasSign 33 X_154) (fun r_158 X_157 => if r_158 = 0 then zd (v_1 + 3) 168 (zl (xup X_157 32 (Int32.toNatClampNeg (v_1 + 3)) 0) (fun X_162 => if (X_162 22 4) = 0 then zl (xup X_162 22 5 ((X_162 22 5) + 0)) (fun X_165 => some X_165) else zl (xup X_162 22 5 ((X_162 22 5) + 1)) (fun X_167 => some X_167))) else zd (v_1 + 3) 168 (zl (xup X_157 32 (Int32.toNatClampNeg (v_1 + 3)) 1) (fun X_170 => if (X_170 22 4) = 0 then zl (xup X_170 22 5 ((X_170 22 5) + 0)) (fun X_173 => some X_173) else zl (xup X_170 22 5 ((X_170 22 5) + 1)) (fun X_175 => some X_175)))))))))))))))))) else if r_4 = 45 then zl (xup X_3 22 4 1) (fun X_178 => if (X_178 22 4) = 0 then zl (xup X_178 22 3 ((X_178 22 3) + 0)) (fun X_181 => zd v_1 168 (zl (xup X_181 32 (Int32.toNatClampNeg v_1) 45) (fun X_184 => zi (fX9_digit X_184) (fun r_189 X_188 => zd (v_1 + 1) 168 (zl (xup X_188 32 (Int32.toNatClampNeg (v_1 + 1)) r_189) (fun X_192 => zd (v_1 + 2) 168 (zl (xup X_192 32 (Int32.toNatClampNeg (v_1 + 2)) 0) (fun X_196 => zi (fX9_hasSign 46 X_196) (fun r_200 X_199 => zb r_200 (zl (xup X_199 22 4 r_200) (fun X_203 => zi (fX9_digit X_203) (fun r_207 X_206 => zd (v_1 + 2) 168 (zl (xup X_206 32 (Int32.toNatClampNeg (v_1 + 2)) r_207) (fun X_210 => zd (v_1 + 3) 168 (zl (xup X_210 32 (Int32.toNatClampNeg (v_1 + 3)) 0) (fun X_214 => if (X_214 22 4) = 0 then zl (xup X_214 22 5 ((X_214 22 5) + 0)) (fun X_217 => some X_217) else zl (xup X_214 22 5 ((X_214 22 5) + 1)) (fun X_219 => some X_219))))))))))))))))) else zl (xup X_178 22 3 ((X_178 22 3) + 1)) (fun X_221 => zd v_1 168 (zl (xup X_221 32 (Int32.toNatClampNeg v_1) 45) (fun X_224 => zi (fX9_digit X_224) (fun r_229 X_228 => zd (v_1 + 1) 168 (zl (xup X_228 32 (Int32.toNatClampNeg (v_1 + 1)) r_229) (fun X_232 => zd (v_1 + 2) 168 (zl (xup X_232 32 (Int32.toNatClampNeg (v_1 + 2)) 0) (fun X_236 => zi (fX9_hasSign 46 X_236) (fun r_240 X_239 => zb r_240 (zl (xup X_239 22 4 r_240) (fun X_243 => zi (fX9_digit X_243) (fun r_247 X_246 => zd (v_1 + 2) 168 (zl (xup X_246 32 (Int32.toNatClampNeg (v_1 + 2)) r_247) (fun X_250 => zd (v_1 + 3) 168 (zl (xup X_250 32 (Int32.toNatClampNeg (v_1 + 3)) 0) (fun X_254 => if (X_254 22 4) = 0 then zl (xup X_254 22 5 ((X_254 22 5) + 0)) (fun X_257 => some X_257) else zl (xup X_254 22 5 ((X_254 22 5) + 1)) (fun X_259 => some X_259)))))))))))))))))) else if r_4 = 112 then zl (xup X_3 22 4 1) (fun X_262 => if (X_262 22 4) = 0 then zl (xup X_262 22 3 ((X_262 22 3) + 0)) (fun X_265 => zd v_1 168 (zl (xup X_265 32 (Int32.toNatClampNeg v_1) 112) (fun X_268 => zd (v_1 + 1) 168 (zl (xup X_268 32 (Int32.toNatClampNeg (v_1 + 1)) 0) (fun X_272 => zd (v_1 + 2) 168 (zl (xup X_272 32 (Int32.toNatClampNeg (v_1 + 2)) 0) (fun X_276 => zd (v_1 + 2) 168 (zd (v_1 + 2) 168 (zl (xup X_276 32 (Int32.toNatClampNeg (v_1 + 2)) (X_276 32 (Int32.toNatClampNeg (v_1 + 2)))) (fun X_283 => zd (v_1 + 3) 168 (zl (xup X_283 32 (Int32.toNatClampNeg (v_1 + 3)) 0) (fun X_287 => if (X_287 22 4) = 0 then zl (xup X_287 22 5 ((X_287 22 5) + 0)) (fun X_290 => some X_290) else zl (xup X_287 22 5 ((X_287 22 5) + 1)) (fun X_292 => some X_292))))))))))))) else zl (xup X_262 22 3 ((X_262 22 3) + 1)) (fun X_294 => zd v_1 168 (zl (xup X_294 32 (Int32.toNatClampNeg v_1) 112) (fun X_297 => zd (v_1 + 1) 168 (zl (xup X_297 32 (Int32.toNatClampNeg (v_1 + 1)) 0) (fun X_301 => zd (v_1 + 2) 168 (zl (xup X_301 32 (Int32.toNatClampNeg (v_1 + 2)) 0) (fun X_305 => zd (v_1 + 2) 168 (zd (v_1 + 2) 168 (zl (xup X_305 32 (Int32.toNatClampNeg (v_1 + 2)) (X_305 32 (Int32.toNatClampNeg (v_1 + 2)))) (fun X_312 => zd (v_1 + 3) 168 (zl (xup X_312 32 (Int32.toNatClampNeg (v_1 + 3)) 0) (fun X_316 => if (X_316 22 4) = 0 then zl (xup X_316 22 5 ((X_316 22 5) + 0)) (fun X_319 => some X_319) else zl (xup X_316 22 5 ((X_316 22 5) + 1)) (fun X_321 => some X_321)))))))))))))) else if r_4 = 109 then zl (xup X_3 22 4 1) (fun X_324 => if (X_324 22 4) = 0 then zl (xup X_324 22 3 ((X_324 22 3) + 0)) (fun X_327 => zd v_1 168 (zl (xup X_327 32 (Int32.toNatClampNeg v_1) 109) (fun X_330 => zd (v_1 + 1) 168 (zl (xup X_330 32 (Int32.toNatClampNeg (v_1 + 1)) 0) (fun X_335 => zd (v_1 + 2) 168 (zl (xup X_335 32 (Int32.toNatClampNeg (v_1 + 2)) 0) (fun X_339 => zd (v_1 + 2) 168 (zd (v_1 + 2) 168 (zl (xup X_339 32 (Int32.toNatClampNeg (v_1 + 2)) (X_339 32 (Int32.toNatClampNeg (v_1 + 2)))) (fun X_346 => zd (v_1 + 3) 168 (zl (xup X_346 32 (Int32.toNatClampNeg (v_1 + 3)) 0) (fun X_350 => if (X_350 22 4) = 0 then zl (xup X_350 22 5 ((X_350 22 5) + 0)) (fun X_353 => some X_353) else zl (xup X_350 22 5 ((X_350 22 5) + 1)) (fun X_355 => some X_355))))))))))))) else zl (xup X_324 22 3 ((X_324 22 3) + 1)) (fun X_357 => zd v_1 168 (zl (xup X_357 32 (Int32.toNatClampNeg v_1) 109) (fun X_360 => zd (v_1 + 1) 168 (zl (xup X_360 32 (Int32.toNatClampNeg (v_1 + 1)) 0) (fun X_365 => zd (v_1 + 2) 168 (zl (xup X_365 32 (Int32.toNatClampNeg (v_1 + 2)) 0) (fun X_369 => zd (v_1 + 2) 168 (zd (v_1 + 2) 168 (zl (xup X_369 32 (Int32.toNatClampNeg (v_1 + 2)) (X_369 32 (Int32.toNatClampNeg (v_1 + 2)))) (fun X_376 => zd (v_1 + 3) 168 (zl (xup X_376 32 (Int32.toNatClampNeg (v_1 + 3)) 0) (fun X_380 => if (X_380 22 4) = 0 then zl (xup X_380 22 5 ((X_380 22 5) + 0)) (fun X_383 => some X_383) else zl (xup X_380 22 5 ((X_380 22 5) + 1)) (fun X_385 => some X_385)))))))))))))) else if r_4 = 114 then zl (xup X_3 22 4 1) (fun X_457 => if (X_457 22 4) = 0 then zl (xup X_457 22 3 ((X_457 22 3) + 0)) (fun X_460 => zd v_1 168 (zl (xup X_460 32 (Int32.toNatClampNeg v_1) 114) (fun X_463 => zi (fX9_digit X_463) (fun r_468 X_467 => zd (v_1 + 1) 168 (zl (xup X_467 32 (Int32.toNatClampNeg (v_1 + 1)) r_468) (fun X_471 => zd (v_1 + 2) 168 (zl (xup X_471 32 (Int32.toNatClampNeg (v_1 + 2)) 0) (fun X_475 => zi (fX9_digit X_475) (fun r_481 X_480 => zd (v_1 + 2) 168 (zl (xup X_480 32 (Int32.toNatClampNeg (v_1 + 2)) r_481) (fun X_484 => zd (v_1 + 3) 168 (zl (xup X_484 32 (Int32.toNatClampNeg (v_1 + 3)) 0) (fun X_488 => if (X_488 22 4) = 0 then zl (xup X_488 22 5 ((X_488 22 5) + 0)) (fun X_491 => some X_491) else zl (xup X_488 22 5 ((X_488 22 5) + 1)) (fun X_493 => some X_493)))))))))))))) else zl (xup X_457 22 3 ((X_457 22 3) + 1)) (fun X_495 => zd v_1 168 (zl (xup X_495 32 (Int32.toNatClampNeg v_1) 114) (fun X_498 => zi (fX9_digit X_498) (fun r_503 X_502 => zd (v_1 + 1) 168 (zl (xup X_502 32 (Int32.toNatClampNeg (v_1 + 1)) r_503) (fun X_506 => zd (v_1 + 2) 168 (zl (xup X_506 32 (Int32.toNatClampNeg (v_1 + 2)) 0) (fun X_510 => zi (fX9_digit X_510) (fun r_516 X_515 => zd (v_1 + 2) 168 (zl (xup X_515 32 (Int32.toNatClampNeg (v_1 + 2)) r_516) (fun X_519 => zd (v_1 + 3) 168 (zl (xup X_519 32 (Int32.toNatClampNeg (v_1 + 3)) 0) (fun X_523 => if (X_523 22 4) = 0 then zl (xup X_523 22 5 ((X_523 22 5) + 0)) (fun X_526 => some X_526) else zl (xup X_523 22 5 ((X_523 22 5) + 1)) (fun X_528 => some X_528))))))))))))))) else zl (xup X_3 22 4 0) (fun X_388 => if (X_388 22 4) = 0 then zl (xup X_388 22 3 ((X_388 22 3) + 0)) (fun X_391 => zd v_1 168 (zl (xup X_391 32 (Int32.toNatClampNeg v_1) r_4) (fun X_394 => zi (fX9_digit X_394) (fun r_399 X_398 => zd (v_1 + 1) 168 (zl (xup X_398 32 (Int32.toNatClampNeg (v_1 + 1)) r_399) (fun X_402 => zd (v_1 + 2) 168 (zl (xup X_402 32 (Int32.toNatClampNeg (v_1 + 2)) 0) (fun X_406 => zd (v_1 + 2) 168 (zd (v_1 + 2) 168 (zl (xup X_406 32 (Int32.toNatClampNeg (v_1 + 2)) (X_406 32 (Int32.toNatClampNeg (v_1 + 2)))) (fun X_413 => zd (v_1 + 3) 168 (zl (xup X_413 32 (Int32.toNatClampNeg (v_1 + 3)) 0) (fun X_417 => if (X_417 22 4) = 0 then zl (xup X_417 22 5 ((X_417 22 5) + 0)) (fun X_420 => some X_420) else zl (xup X_417 22 5 ((X_417 22 5) + 1)) (fun X_422 => some X_422)))))))))))))) else zl (xup X_388 22 3 ((X_388 22 3) + 1)) (fun X_424 => zd v_1 168 (zl (xup X_424 32 (Int32.toNatClampNeg v_1) r_4) (fun X_427 => zi (fX9_digit X_427) (fun r_432 X_431 => zd (v_1 + 1) 168 (zl (xup X_431 32 (Int32.toNatClampNeg (v_1 + 1)) r_432) (fun X_435 => zd (v_1 + 2) 168 (zl (xup X_435 32 (Int32.toNatClampNeg (v_1 + 2)) 0) (fun X_439 => zd (v_1 + 2) 168 (zd (v_1 + 2) 168 (zl (xup X_439 32 (Int32.toNatClampNeg (v_1 + 2)) (X_439 32 (Int32.toNatClampNeg (v_1 + 2)))) (fun X_446 => zd (v_1 + 3) 168 (zl (xup X_446 32 (Int32.toNatClampNeg (v_1 + 3)) 0) (fun X_450 => if (X_450 22 4) = 0 then zl (xup X_450 22 5 ((X_450 22 5) + 0)) (fun X_453 => some X_453) else zl (xup X_450 22 5 ((X_450 22 5) + 1)) (fun X_455 => some X_455)))))))))))))))))
set_option maxHeartbeats 4000000 in
set_option maxRecDepth 100000 in
theorem mX9_readsOrder (l : Launch) (D : va_G) (L : Nat → Nat) (ac : Nat → ClassId) (hL : LL L) (X : XM)  (X0 : XM) (hf : fX9_readsOrder  X = some X0) : Cv l yX9_readsOrder wsX9_readsOrder ({ frames := 2, cells := 0, slots := 0, locals := 43 }) D L ac X [.ref (L 15)] X0 := by
  refine Met.ofK (cc := cX9_readsOrder) (maxL := 3) (ret := none) (lv := [(0, .ref (L 15))]) (by decide +kernel) rfl (Nat.le_of_ble_eq_true rfl) rfl ?_
  intro p e s m below meth c F hO ls hl
  obtain ⟨hx, hb, hr, hts, hown, hlocks, hml, hK, hN⟩ := id F
  have hA : ∀ q, fr L q → fr L q := fun q h => h
  unfold fX9_readsOrder at hf
  refine lv_iconst (v := 4) hx hb dX9_readsOrder_0 (by decide) ?_
  refine lv_aload_n hx hb dX9_readsOrder_1 rfl (lv_at hl 0 rfl) ?_
  refine k_get (k := 15) (v := .int (X 22 5)) hx hb hts in_X9_readsOrder_X9 hown hK hO (by decide) rfl rfl (by decide) lk_X9_readsOrder_f208 rfl dX9_readsOrder_2 ?_
  refine lv_imul hx hb dX9_readsOrder_5 ?_
  replace hf := zl_some hf
  obtain ⟨v_1, hv_1, hf⟩ := hf
  refine lv_tope hv_1 ?_
  refine lv_istore_n (lv' := [(1, .int v_1), (0, .ref (L 15))]) hx hb dX9_readsOrder_6 rfl hl (by decide) rfl (fun ls_2 hl_2 => ?_)
  clear hl
  refine lv_aload_n hx hb dX9_readsOrder_7 rfl (lv_at hl_2 1 rfl) ?_
  replace hf := zi_some hf
  obtain ⟨r_4, X_3, hc_3, hf⟩ := hf
  refine k_ai (va_runV (As := []) (rest := []) ⟨hx, hb, hml, hown, hts⟩ (mX9_letter l D L ac hL _  _ _ hc_3) (cwV 0 hts gX9_readsOrder_X9_letter rfl rfl rfl (by decide +kernel) ⟨Nat.le_of_ble_eq_true rfl, Nat.le_of_ble_eq_true rfl⟩) (k_pv (j := 15) hK hN hO (by decide) rfl rfl _) rfl rfl hl_2.1 rfl (lv_room (Nat.le_of_ble_eq_true rfl)) dX9_readsOrder_8 ⟨Nat.le_of_ble_eq_true rfl, Nat.le_of_ble_eq_true rfl⟩) hA hO (fun H_5 locs_5 hO_5 => ?_)
  clear hO
  refine lv_istore_n (lv' := [(2, .int r_4), (1, .int v_1), (0, .ref (L 15))]) hx hb dX9_readsOrder_11 rfl hl_2 (by decide) rfl (fun ls_6 hl_6 => ?_)
  clear hl_2
  refine lv_aload_n hx hb dX9_readsOrder_12 rfl (lv_at hl_6 2 rfl) ?_
  refine lv_iload_n hx hb dX9_readsOrder_13 rfl (lv_at hl_6 0 rfl) ?_
  refine lv_bipush (v := 43) hx hb dX9_readsOrder_14 (by decide) ?_
  refine lv_icmp_eq (tgt := 43) hx hb dX9_readsOrder_16 (by decide) (fun c_7 => ?_) (fun c_7 => ?_)
  · rw [if_pos c_7] at hf
    subst c_7
    refine lv_iconst (v := 1) hx hb dX9_readsOrder_43 (by decide) ?_
    refine lv_goto (tgt := 48) hx hb dX9_readsOrder_44 (by decide) ?_
    refine k_put (ty := .boolean) (k := 13) (r := 22) (k' := 4) hx hb tyX9 tyX9_ok nmX9 hts in_X9_readsOrder_X9 hown hK  hL hA hO_5 (by decide) rfl (by omega) (fun Y => rfl) (by simp [xup]) rfl (by decide) lk_X9_readsOrder_f201 rfl (by decide +kernel) (bo_n (by decide)) (bo_f (by decide)) (Nat.le_of_ble_eq_true rfl) dX9_readsOrder_48 (fun H_9 locs_9 hO_9 => ?_)
    replace hf := zl_some hf
    obtain ⟨X_8, hX_8, hf⟩ := hf
    have hQ_9 := zo_eq hX_8 hO_9
    clear hO_9 hO_5
    refine lv_aload_n hx hb dX9_readsOrder_51 rfl (lv_at hl_6 2 rfl) ?_
    refine lv_dup hx hb dX9_readsOrder_52 rfl ?_
    refine k_get (k := 12) (v := .int (X_8 22 3)) hx hb hts in_X9_readsOrder_X9 hown hK hQ_9 (by decide) rfl rfl (by decide) lk_X9_readsOrder_f198 rfl dX9_readsOrder_53 ?_
    refine lv_aload_n hx hb dX9_readsOrder_56 rfl (lv_at hl_6 2 rfl) ?_
    refine k_get (k := 13) (v := .int (X_8 22 4)) hx hb hts in_X9_readsOrder_X9 hown hK hQ_9 (by decide) rfl rfl (by decide) lk_X9_readsOrder_f201 rfl dX9_readsOrder_57 ?_
    refine lv_if_eq (tgt := 67) hx hb dX9_readsOrder_60 (by decide) (fun c_10 => ?_) (fun c_10 => ?_)
    · rw [if_pos c_10] at hf
      refine lv_iconst (v := 0) hx hb dX9_readsOrder_67 (by decide) ?_
      refine lv_iadd hx hb dX9_readsOrder_68 ?_
      refine k_put (ty := .int) (k := 12) (r := 22) (k' := 3) hx hb tyX9 tyX9_ok nmX9 hts in_X9_readsOrder_X9 hown hK  hL hA hQ_9 (by decide) rfl (by omega) (fun Y => rfl) (by simp [xup]) rfl (by decide) lk_X9_readsOrder_f198 rfl (by decide +kernel) rfl rfl (Nat.le_of_ble_eq_true rfl) dX9_readsOrder_69 (fun H_12 locs_12 hO_12 => ?_)
      replace hf := zl_some hf
      obtain ⟨X_11, hX_11, hf⟩ := hf
      have hQ_12 := zo_eq hX_11 hO_12
      clear hO_12 hQ_9
      refine lv_aload_n hx hb dX9_readsOrder_72 rfl (lv_at hl_6 2 rfl) ?_
      refine k_get (k := 14) (v := .ref (L 25)) hx hb hts in_X9_readsOrder_X9 hown hK hQ_12 (by decide) rfl rfl (by decide) lk_X9_readsOrder_f38 rfl dX9_readsOrder_73 ?_
      refine lv_iload_n hx hb dX9_readsOrder_76 rfl (lv_at hl_6 1 rfl) ?_
      refine lv_iload_n hx hb dX9_readsOrder_77 rfl (lv_at hl_6 0 rfl) ?_
      replace hf := zd_some hf
      obtain ⟨hi_13, hf⟩ := hf
      refine k_iast hx hb hK hL hA hQ_12 (by decide) (by decide) rfl (fun _ => rfl) hi_13 dX9_readsOrder_78 (fun H_15 locs_15 hO_15 => ?_)
      replace hf := zl_some hf
      obtain ⟨X_14, hX_14, hf⟩ := hf
      have hQ_15 := zo_eq hX_14 hO_15
      clear hO_15 hQ_12
      refine lv_aload_n hx hb dX9_readsOrder_79 rfl (lv_at hl_6 2 rfl) ?_
      refine k_get (k := 14) (v := .ref (L 25)) hx hb hts in_X9_readsOrder_X9 hown hK hQ_15 (by decide) rfl rfl (by decide) lk_X9_readsOrder_f38 rfl dX9_readsOrder_80 ?_
      refine lv_iload_n hx hb dX9_readsOrder_83 rfl (lv_at hl_6 1 rfl) ?_
      refine lv_iconst (v := 1) hx hb dX9_readsOrder_84 (by decide) ?_
      refine lv_iadd hx hb dX9_readsOrder_85 ?_
      refine lv_iload_n hx hb dX9_readsOrder_86 rfl (lv_at hl_6 0 rfl) ?_
      refine lv_bipush (v := 112) hx hb dX9_readsOrder_87 (by decide) ?_
      refine lv_icmp_eq (tgt := 98) hx hb dX9_readsOrder_89 (by decide) (fun c_16 => absurd c_16 (by decide)) (fun _ => ?_)
      refine lv_iload_n hx hb dX9_readsOrder_92 rfl (lv_at hl_6 0 rfl) ?_
      refine lv_bipush (v := 109) hx hb dX9_readsOrder_93 (by decide) ?_
      refine lv_icmp_ne (tgt := 102) hx hb dX9_readsOrder_95 (by decide) (fun _ => ?_) (fun c_17 => absurd c_17 (by decide))
      refine lv_aload_n hx hb dX9_readsOrder_102 rfl (lv_at hl_6 2 rfl) ?_
      replace hf := zi_some hf
      obtain ⟨r_19, X_18, hc_18, hf⟩ := hf
      refine k_ai (va_runV (As := []) (rest := [.int (v_1 + 1), .ref (L 25)]) ⟨hx, hb, hml, hown, hts⟩ (mX9_digit l D L ac hL _  _ _ hc_18) (cwV 0 hts gX9_readsOrder_X9_digit rfl rfl rfl (by decide +kernel) ⟨Nat.le_of_ble_eq_true rfl, Nat.le_of_ble_eq_true rfl⟩) (k_pv (j := 15) hK hN hQ_15 (by decide) rfl rfl _) rfl rfl hl_6.1 rfl (lv_room (Nat.le_of_ble_eq_true rfl)) dX9_readsOrder_103 ⟨Nat.le_of_ble_eq_true rfl, Nat.le_of_ble_eq_true rfl⟩) hA hQ_15 (fun H_20 locs_20 hO_20 => ?_)
      clear hQ_15
      replace hf := zd_some hf
      obtain ⟨hi_21, hf⟩ := hf
      refine k_iast hx hb hK hL hA hO_20 (by decide) (by decide) rfl (fun _ => rfl) hi_21 dX9_readsOrder_106 (fun H_23 locs_23 hO_23 => ?_)
      replace hf := zl_some hf
      obtain ⟨X_22, hX_22, hf⟩ := hf
      have hQ_23 := zo_eq hX_22 hO_23
      clear hO_23 hO_20
      refine lv_aload_n hx hb dX9_readsOrder_107 rfl (lv_at hl_6 2 rfl) ?_
      refine k_get (k := 14) (v := .ref (L 25)) hx hb hts in_X9_readsOrder_X9 hown hK hQ_23 (by decide) rfl rfl (by decide) lk_X9_readsOrder_f38 rfl dX9_readsOrder_108 ?_
      refine lv_iload_n hx hb dX9_readsOrder_111 rfl (lv_at hl_6 1 rfl) ?_
      refine lv_iconst (v := 2) hx hb dX9_readsOrder_112 (by decide) ?_
      refine lv_iadd hx hb dX9_readsOrder_113 ?_
      refine lv_iload_n hx hb dX9_readsOrder_114 rfl (lv_at hl_6 0 rfl) ?_
      refine lv_bipush (v := 43) hx hb dX9_readsOrder_115 (by decide) ?_
      refine lv_icmp_ne (tgt := 140) hx hb dX9_readsOrder_117 (by decide) (fun c_24 => absurd (by decide) c_24) (fun _ => ?_)
      refine lv_aload_n hx hb dX9_readsOrder_120 rfl (lv_at hl_6 2 rfl) ?_
      refine lv_bipush (v := 119) hx hb dX9_readsOrder_121 (by decide) ?_
      replace hf := zi_some hf
      obtain ⟨r_26, X_25, hc_25, hf⟩ := hf
      refine k_ai (va_runV (As := [.int 119]) (rest := [.int (v_1 + 2), .ref (L 25)]) ⟨hx, hb, hml, hown, hts⟩ (mX9_hasSign l D L ac hL _ 119 _ _ hc_25) (cwV 1 hts gX9_readsOrder_X9_hasSign rfl rfl rfl (by decide +kernel) ⟨Nat.le_of_ble_eq_true rfl, Nat.le_of_ble_eq_true rfl⟩) (k_pv (j := 15) hK hN hQ_23 (by decide) rfl rfl _) rfl rfl hl_6.1 rfl (lv_room (Nat.le_of_ble_eq_true rfl)) dX9_readsOrder_123 ⟨Nat.le_of_ble_eq_true rfl, Nat.le_of_ble_eq_true rfl⟩) hA hQ_23 (fun H_27 locs_27 hO_27 => ?_)
      clear hQ_23
      refine lv_if_eq (tgt := 136) hx hb dX9_readsOrder_126 (by decide) (fun c_28 => ?_) (fun c_28 => ?_)
      · rw [if_pos c_28] at hf
        subst c_28
        refine lv_iconst (v := 1) hx hb dX9_readsOrder_136 (by decide) ?_
        refine lv_goto (tgt := 141) hx hb dX9_readsOrder_137 (by decide) ?_
        replace hf := zd_some hf
        obtain ⟨hi_29, hf⟩ := hf
        refine k_iast hx hb hK hL hA hO_27 (by decide) (by decide) rfl (fun _ => rfl) hi_29 dX9_readsOrder_141 (fun H_31 locs_31 hO_31 => ?_)
        replace hf := zl_some hf
        obtain ⟨X_30, hX_30, hf⟩ := hf
        have hQ_31 := zo_eq hX_30 hO_31
        clear hO_31 hO_27
        refine lv_iload_n hx hb dX9_readsOrder_142 rfl (lv_at hl_6 0 rfl) ?_
        refine lv_bipush (v := 45) hx hb dX9_readsOrder_143 (by decide) ?_
        refine lv_icmp_ne (tgt := 158) hx hb dX9_readsOrder_145 (by decide) (fun _ => ?_) (fun c_32 => absurd c_32 (by decide))
        refine lv_aload_n hx hb dX9_readsOrder_158 rfl (lv_at hl_6 2 rfl) ?_
        refine k_get (k := 14) (v := .ref (L 25)) hx hb hts in_X9_readsOrder_X9 hown hK hQ_31 (by decide) rfl rfl (by decide) lk_X9_readsOrder_f38 rfl dX9_readsOrder_159 ?_
        refine lv_iload_n hx hb dX9_readsOrder_162 rfl (lv_at hl_6 1 rfl) ?_
        refine lv_iconst (v := 2) hx hb dX9_readsOrder_163 (by decide) ?_
        refine lv_iadd hx hb dX9_readsOrder_164 ?_
        refine lv_iload_n hx hb dX9_readsOrder_165 rfl (lv_at hl_6 0 rfl) ?_
        refine lv_bipush (v := 45) hx hb dX9_readsOrder_166 (by decide) ?_
        refine lv_icmp_eq (tgt := 177) hx hb dX9_readsOrder_168 (by decide) (fun c_33 => absurd c_33 (by decide)) (fun _ => ?_)
        refine lv_iload_n hx hb dX9_readsOrder_171 rfl (lv_at hl_6 0 rfl) ?_
        refine lv_bipush (v := 114) hx hb dX9_readsOrder_172 (by decide) ?_
        refine lv_icmp_ne (tgt := 184) hx hb dX9_readsOrder_174 (by decide) (fun _ => ?_) (fun c_34 => absurd c_34 (by decide))
        refine lv_aload_n hx hb dX9_readsOrder_184 rfl (lv_at hl_6 2 rfl) ?_
        refine k_get (k := 14) (v := .ref (L 25)) hx hb hts in_X9_readsOrder_X9 hown hK hQ_31 (by decide) rfl rfl (by decide) lk_X9_readsOrder_f38 rfl dX9_readsOrder_185 ?_
        refine lv_iload_n hx hb dX9_readsOrder_188 rfl (lv_at hl_6 1 rfl) ?_
        refine lv_iconst (v := 2) hx hb dX9_readsOrder_189 (by decide) ?_
        refine lv_iadd hx hb dX9_readsOrder_190 ?_
        replace hf := zd_some hf
        obtain ⟨hi_35, hf⟩ := hf
        refine k_iald hx hb hK hQ_31 (by decide) (fun _ => rfl) hi_35 dX9_readsOrder_191 ?_
        replace hf := zd_some hf
        obtain ⟨hi_36, hf⟩ := hf
        refine k_iast hx hb hK hL hA hQ_31 (by decide) (by decide) rfl (fun _ => rfl) hi_36 dX9_readsOrder_192 (fun H_38 locs_38 hO_38 => ?_)
        replace hf := zl_some hf
        obtain ⟨X_37, hX_37, hf⟩ := hf
        have hQ_38 := zo_eq hX_37 hO_38
        clear hO_38 hQ_31
        refine lv_aload_n hx hb dX9_readsOrder_193 rfl (lv_at hl_6 2 rfl) ?_
        refine k_get (k := 14) (v := .ref (L 25)) hx hb hts in_X9_readsOrder_X9 hown hK hQ_38 (by decide) rfl rfl (by decide) lk_X9_readsOrder_f38 rfl dX9_readsOrder_194 ?_
        refine lv_iload_n hx hb dX9_readsOrder_197 rfl (lv_at hl_6 1 rfl) ?_
        refine lv_iconst (v := 3) hx hb dX9_readsOrder_198 (by decide) ?_
        refine lv_iadd hx hb dX9_readsOrder_199 ?_
        refine lv_iload_n hx hb dX9_readsOrder_200 rfl (lv_at hl_6 0 rfl) ?_
        refine lv_bipush (v := 43) hx hb dX9_readsOrder_201 (by decide) ?_
        refine lv_icmp_ne (tgt := 219) hx hb dX9_readsOrder_203 (by decide) (fun c_39 => absurd (by decide) c_39) (fun _ => ?_)
        refine lv_aload_n hx hb dX9_readsOrder_206 rfl (lv_at hl_6 2 rfl) ?_
        refine lv_bipush (v := 33) hx hb dX9_readsOrder_207 (by decide) ?_
        replace hf := zi_some hf
        obtain ⟨r_41, X_40, hc_40, hf⟩ := hf
        refine k_ai (va_runV (As := [.int 33]) (rest := [.int (v_1 + 3), .ref (L 25)]) ⟨hx, hb, hml, hown, hts⟩ (mX9_hasSign l D L ac hL _ 33 _ _ hc_40) (cwV 1 hts gX9_readsOrder_X9_hasSign rfl rfl rfl (by decide +kernel) ⟨Nat.le_of_ble_eq_true rfl, Nat.le_of_ble_eq_true rfl⟩) (k_pv (j := 15) hK hN hQ_38 (by decide) rfl rfl _) rfl rfl hl_6.1 rfl (lv_room (Nat.le_of_ble_eq_true rfl)) dX9_readsOrder_209 ⟨Nat.le_of_ble_eq_true rfl, Nat.le_of_ble_eq_true rfl⟩) hA hQ_38 (fun H_42 locs_42 hO_42 => ?_)
        clear hQ_38
        refine lv_if_eq (tgt := 219) hx hb dX9_readsOrder_212 (by decide) (fun c_43 => ?_) (fun c_43 => ?_)
        · rw [if_pos c_43] at hf
          subst c_43
          refine lv_iconst (v := 0) hx hb dX9_readsOrder_219 (by decide) ?_
          replace hf := zd_some hf
          obtain ⟨hi_44, hf⟩ := hf
          refine k_iast hx hb hK hL hA hO_42 (by decide) (by decide) rfl (fun _ => rfl) hi_44 dX9_readsOrder_220 (fun H_46 locs_46 hO_46 => ?_)
          replace hf := zl_some hf
          obtain ⟨X_45, hX_45, hf⟩ := hf
          have hQ_46 := zo_eq hX_45 hO_46
          clear hO_46 hO_42
          refine lv_aload_n hx hb dX9_readsOrder_221 rfl (lv_at hl_6 2 rfl) ?_
          refine lv_dup hx hb dX9_readsOrder_222 rfl ?_
          refine k_get (k := 15) (v := .int (X_45 22 5)) hx hb hts in_X9_readsOrder_X9 hown hK hQ_46 (by decide) rfl rfl (by decide) lk_X9_readsOrder_f208 rfl dX9_readsOrder_223 ?_
          refine lv_aload_n hx hb dX9_readsOrder_226 rfl (lv_at hl_6 2 rfl) ?_
          refine k_get (k := 13) (v := .int (X_45 22 4)) hx hb hts in_X9_readsOrder_X9 hown hK hQ_46 (by decide) rfl rfl (by decide) lk_X9_readsOrder_f201 rfl dX9_readsOrder_227 ?_
          refine lv_if_eq (tgt := 237) hx hb dX9_readsOrder_230 (by decide) (fun c_47 => ?_) (fun c_47 => ?_)
          · rw [if_pos c_47] at hf
            refine lv_iconst (v := 0) hx hb dX9_readsOrder_237 (by decide) ?_
            refine lv_iadd hx hb dX9_readsOrder_238 ?_
            refine k_put (ty := .int) (k := 15) (r := 22) (k' := 5) hx hb tyX9 tyX9_ok nmX9 hts in_X9_readsOrder_X9 hown hK  hL hA hQ_46 (by decide) rfl (by omega) (fun Y => rfl) (by simp [xup]) rfl (by decide) lk_X9_readsOrder_f208 rfl (by decide +kernel) rfl rfl (Nat.le_of_ble_eq_true rfl) dX9_readsOrder_239 (fun H_49 locs_49 hO_49 => ?_)
            replace hf := zl_some hf
            obtain ⟨X_48, hX_48, hf⟩ := hf
            have hQ_49 := zo_eq hX_48 hO_49
            clear hO_49 hQ_46
            obtain rfl := Option.some.inj hf
            exact e_v hx hb hr hK hN hQ_49 hlocks dX9_readsOrder_242
          · rw [if_neg c_47] at hf
            refine lv_iconst (v := 1) hx hb dX9_readsOrder_233 (by decide) ?_
            refine lv_goto (tgt := 238) hx hb dX9_readsOrder_234 (by decide) ?_
            refine lv_iadd hx hb dX9_readsOrder_238 ?_
            refine k_put (ty := .int) (k := 15) (r := 22) (k' := 5) hx hb tyX9 tyX9_ok nmX9 hts in_X9_readsOrder_X9 hown hK  hL hA hQ_46 (by decide) rfl (by omega) (fun Y => rfl) (by simp [xup]) rfl (by decide) lk_X9_readsOrder_f208 rfl (by decide +kernel) rfl rfl (Nat.le_of_ble_eq_true rfl) dX9_readsOrder_239 (fun H_51 locs_51 hO_51 => ?_)
            replace hf := zl_some hf
            obtain ⟨X_50, hX_50, hf⟩ := hf
            have hQ_51 := zo_eq hX_50 hO_51
            clear hO_51 hQ_46
            obtain rfl := Option.some.inj hf
            exact e_v hx hb hr hK hN hQ_51 hlocks dX9_readsOrder_242
        · rw [if_neg c_43] at hf
          refine lv_iconst (v := 1) hx hb dX9_readsOrder_215 (by decide) ?_
          refine lv_goto (tgt := 220) hx hb dX9_readsOrder_216 (by decide) ?_
          replace hf := zd_some hf
          obtain ⟨hi_52, hf⟩ := hf
          refine k_iast hx hb hK hL hA hO_42 (by decide) (by decide) rfl (fun _ => rfl) hi_52 dX9_readsOrder_220 (fun H_54 locs_54 hO_54 => ?_)
          replace hf := zl_some hf
          obtain ⟨X_53, hX_53, hf⟩ := hf
          have hQ_54 := zo_eq hX_53 hO_54
          clear hO_54 hO_42
          refine lv_aload_n hx hb dX9_readsOrder_221 rfl (lv_at hl_6 2 rfl) ?_
          refine lv_dup hx hb dX9_readsOrder_222 rfl ?_
          refine k_get (k := 15) (v := .int (X_53 22 5)) hx hb hts in_X9_readsOrder_X9 hown hK hQ_54 (by decide) rfl rfl (by decide) lk_X9_readsOrder_f208 rfl dX9_readsOrder_223 ?_
          refine lv_aload_n hx hb dX9_readsOrder_226 rfl (lv_at hl_6 2 rfl) ?_
          refine k_get (k := 13) (v := .int (X_53 22 4)) hx hb hts in_X9_readsOrder_X9 hown hK hQ_54 (by decide) rfl rfl (by decide) lk_X9_readsOrder_f201 rfl dX9_readsOrder_227 ?_
          refine lv_if_eq (tgt := 237) hx hb dX9_readsOrder_230 (by decide) (fun c_55 => ?_) (fun c_55 => ?_)
          · rw [if_pos c_55] at hf
            refine lv_iconst (v := 0) hx hb dX9_readsOrder_237 (by decide) ?_
            refine lv_iadd hx hb dX9_readsOrder_238 ?_
            refine k_put (ty := .int) (k := 15) (r := 22) (k' := 5) hx hb tyX9 tyX9_ok nmX9 hts in_X9_readsOrder_X9 hown hK  hL hA hQ_54 (by decide) rfl (by omega) (fun Y => rfl) (by simp [xup]) rfl (by decide) lk_X9_readsOrder_f208 rfl (by decide +kernel) rfl rfl (Nat.le_of_ble_eq_true rfl) dX9_readsOrder_239 (fun H_57 locs_57 hO_57 => ?_)
            replace hf := zl_some hf
            obtain ⟨X_56, hX_56, hf⟩ := hf
            have hQ_57 := zo_eq hX_56 hO_57
            clear hO_57 hQ_54
            obtain rfl := Option.some.inj hf
            exact e_v hx hb hr hK hN hQ_57 hlocks dX9_readsOrder_242
          · rw [if_neg c_55] at hf
            refine lv_iconst (v := 1) hx hb dX9_readsOrder_233 (by decide) ?_
            refine lv_goto (tgt := 238) hx hb dX9_readsOrder_234 (by decide) ?_
            refine lv_iadd hx hb dX9_readsOrder_238 ?_
            refine k_put (ty := .int) (k := 15) (r := 22) (k' := 5) hx hb tyX9 tyX9_ok nmX9 hts in_X9_readsOrder_X9 hown hK  hL hA hQ_54 (by decide) rfl (by omega) (fun Y => rfl) (by simp [xup]) rfl (by decide) lk_X9_readsOrder_f208 rfl (by decide +kernel) rfl rfl (Nat.le_of_ble_eq_true rfl) dX9_readsOrder_239 (fun H_59 locs_59 hO_59 => ?_)
            replace hf := zl_some hf
            obtain ⟨X_58, hX_58, hf⟩ := hf
            have hQ_59 := zo_eq hX_58 hO_59
            clear hO_59 hQ_54
            obtain rfl := Option.some.inj hf
            exact e_v hx hb hr hK hN hQ_59 hlocks dX9_readsOrder_242
      · rw [if_neg c_28] at hf
        refine lv_aload_n hx hb dX9_readsOrder_129 rfl (lv_at hl_6 2 rfl) ?_
        replace hf := zi_some hf
        obtain ⟨r_61, X_60, hc_60, hf⟩ := hf
        refine k_ai (va_runV (As := []) (rest := [.int (v_1 + 2), .ref (L 25)]) ⟨hx, hb, hml, hown, hts⟩ (mX9_digit l D L ac hL _  _ _ hc_60) (cwV 0 hts gX9_readsOrder_X9_digit rfl rfl rfl (by decide +kernel) ⟨Nat.le_of_ble_eq_true rfl, Nat.le_of_ble_eq_true rfl⟩) (k_pv (j := 15) hK hN hO_27 (by decide) rfl rfl _) rfl rfl hl_6.1 rfl (lv_room (Nat.le_of_ble_eq_true rfl)) dX9_readsOrder_130 ⟨Nat.le_of_ble_eq_true rfl, Nat.le_of_ble_eq_true rfl⟩) hA hO_27 (fun H_62 locs_62 hO_62 => ?_)
        clear hO_27
        refine lv_goto (tgt := 141) hx hb dX9_readsOrder_133 (by decide) ?_
        replace hf := zd_some hf
        obtain ⟨hi_63, hf⟩ := hf
        refine k_iast hx hb hK hL hA hO_62 (by decide) (by decide) rfl (fun _ => rfl) hi_63 dX9_readsOrder_141 (fun H_65 locs_65 hO_65 => ?_)
        replace hf := zl_some hf
        obtain ⟨X_64, hX_64, hf⟩ := hf
        have hQ_65 := zo_eq hX_64 hO_65
        clear hO_65 hO_62
        refine lv_iload_n hx hb dX9_readsOrder_142 rfl (lv_at hl_6 0 rfl) ?_
        refine lv_bipush (v := 45) hx hb dX9_readsOrder_143 (by decide) ?_
        refine lv_icmp_ne (tgt := 158) hx hb dX9_readsOrder_145 (by decide) (fun _ => ?_) (fun c_66 => absurd c_66 (by decide))
        refine lv_aload_n hx hb dX9_readsOrder_158 rfl (lv_at hl_6 2 rfl) ?_
        refine k_get (k := 14) (v := .ref (L 25)) hx hb hts in_X9_readsOrder_X9 hown hK hQ_65 (by decide) rfl rfl (by decide) lk_X9_readsOrder_f38 rfl dX9_readsOrder_159 ?_
        refine lv_iload_n hx hb dX9_readsOrder_162 rfl (lv_at hl_6 1 rfl) ?_
        refine lv_iconst (v := 2) hx hb dX9_readsOrder_163 (by decide) ?_
        refine lv_iadd hx hb dX9_readsOrder_164 ?_
        refine lv_iload_n hx hb dX9_readsOrder_165 rfl (lv_at hl_6 0 rfl) ?_
        refine lv_bipush (v := 45) hx hb dX9_readsOrder_166 (by decide) ?_
        refine lv_icmp_eq (tgt := 177) hx hb dX9_readsOrder_168 (by decide) (fun c_67 => absurd c_67 (by decide)) (fun _ => ?_)
        refine lv_iload_n hx hb dX9_readsOrder_171 rfl (lv_at hl_6 0 rfl) ?_
        refine lv_bipush (v := 114) hx hb dX9_readsOrder_172 (by decide) ?_
        refine lv_icmp_ne (tgt := 184) hx hb dX9_readsOrder_174 (by decide) (fun _ => ?_) (fun c_68 => absurd c_68 (by decide))
        refine lv_aload_n hx hb dX9_readsOrder_184 rfl (lv_at hl_6 2 rfl) ?_
        refine k_get (k := 14) (v := .ref (L 25)) hx hb hts in_X9_readsOrder_X9 hown hK hQ_65 (by decide) rfl rfl (by decide) lk_X9_readsOrder_f38 rfl dX9_readsOrder_185 ?_
        refine lv_iload_n hx hb dX9_readsOrder_188 rfl (lv_at hl_6 1 rfl) ?_
        refine lv_iconst (v := 2) hx hb dX9_readsOrder_189 (by decide) ?_
        refine lv_iadd hx hb dX9_readsOrder_190 ?_
        replace hf := zd_some hf
        obtain ⟨hi_69, hf⟩ := hf
        refine k_iald hx hb hK hQ_65 (by decide) (fun _ => rfl) hi_69 dX9_readsOrder_191 ?_
        replace hf := zd_some hf
        obtain ⟨hi_70, hf⟩ := hf
        refine k_iast hx hb hK hL hA hQ_65 (by decide) (by decide) rfl (fun _ => rfl) hi_70 dX9_readsOrder_192 (fun H_72 locs_72 hO_72 => ?_)
        replace hf := zl_some hf
        obtain ⟨X_71, hX_71, hf⟩ := hf
        have hQ_72 := zo_eq hX_71 hO_72
        clear hO_72 hQ_65
        refine lv_aload_n hx hb dX9_readsOrder_193 rfl (lv_at hl_6 2 rfl) ?_
        refine k_get (k := 14) (v := .ref (L 25)) hx hb hts in_X9_readsOrder_X9 hown hK hQ_72 (by decide) rfl rfl (by decide) lk_X9_readsOrder_f38 rfl dX9_readsOrder_194 ?_
        refine lv_iload_n hx hb dX9_readsOrder_197 rfl (lv_at hl_6 1 rfl) ?_
        refine lv_iconst (v := 3) hx hb dX9_readsOrder_198 (by decide) ?_
        refine lv_iadd hx hb dX9_readsOrder_199 ?_
        refine lv_iload_n hx hb dX9_readsOrder_200 rfl (lv_at hl_6 0 rfl) ?_
        refine lv_bipush (v := 43) hx hb dX9_readsOrder_201 (by decide) ?_
        refine lv_icmp_ne (tgt := 219) hx hb dX9_readsOrder_203 (by decide) (fun c_73 => absurd (by decide) c_73) (fun _ => ?_)
        refine lv_aload_n hx hb dX9_readsOrder_206 rfl (lv_at hl_6 2 rfl) ?_
        refine lv_bipush (v := 33) hx hb dX9_readsOrder_207 (by decide) ?_
        replace hf := zi_some hf
        obtain ⟨r_75, X_74, hc_74, hf⟩ := hf
        refine k_ai (va_runV (As := [.int 33]) (rest := [.int (v_1 + 3), .ref (L 25)]) ⟨hx, hb, hml, hown, hts⟩ (mX9_hasSign l D L ac hL _ 33 _ _ hc_74) (cwV 1 hts gX9_readsOrder_X9_hasSign rfl rfl rfl (by decide +kernel) ⟨Nat.le_of_ble_eq_true rfl, Nat.le_of_ble_eq_true rfl⟩) (k_pv (j := 15) hK hN hQ_72 (by decide) rfl rfl _) rfl rfl hl_6.1 rfl (lv_room (Nat.le_of_ble_eq_true rfl)) dX9_readsOrder_209 ⟨Nat.le_of_ble_eq_true rfl, Nat.le_of_ble_eq_true rfl⟩) hA hQ_72 (fun H_76 locs_76 hO_76 => ?_)
        clear hQ_72
        refine lv_if_eq (tgt := 219) hx hb dX9_readsOrder_212 (by decide) (fun c_77 => ?_) (fun c_77 => ?_)
        · rw [if_pos c_77] at hf
          subst c_77
          refine lv_iconst (v := 0) hx hb dX9_readsOrder_219 (by decide) ?_
          replace hf := zd_some hf
          obtain ⟨hi_78, hf⟩ := hf
          refine k_iast hx hb hK hL hA hO_76 (by decide) (by decide) rfl (fun _ => rfl) hi_78 dX9_readsOrder_220 (fun H_80 locs_80 hO_80 => ?_)
          replace hf := zl_some hf
          obtain ⟨X_79, hX_79, hf⟩ := hf
          have hQ_80 := zo_eq hX_79 hO_80
          clear hO_80 hO_76
          refine lv_aload_n hx hb dX9_readsOrder_221 rfl (lv_at hl_6 2 rfl) ?_
          refine lv_dup hx hb dX9_readsOrder_222 rfl ?_
          refine k_get (k := 15) (v := .int (X_79 22 5)) hx hb hts in_X9_readsOrder_X9 hown hK hQ_80 (by decide) rfl rfl (by decide) lk_X9_readsOrder_f208 rfl dX9_readsOrder_223 ?_
          refine lv_aload_n hx hb dX9_readsOrder_226 rfl (lv_at hl_6 2 rfl) ?_
          refine k_get (k := 13) (v := .int (X_79 22 4)) hx hb hts in_X9_readsOrder_X9 hown hK hQ_80 (by decide) rfl rfl (by decide) lk_X9_readsOrder_f201 rfl dX9_readsOrder_227 ?_
          refine lv_if_eq (tgt := 237) hx hb dX9_readsOrder_230 (by decide) (fun c_81 => ?_) (fun c_81 => ?_)
          · rw [if_pos c_81] at hf
            refine lv_iconst (v := 0) hx hb dX9_readsOrder_237 (by decide) ?_
            refine lv_iadd hx hb dX9_readsOrder_238 ?_
            refine k_put (ty := .int) (k := 15) (r := 22) (k' := 5) hx hb tyX9 tyX9_ok nmX9 hts in_X9_readsOrder_X9 hown hK  hL hA hQ_80 (by decide) rfl (by omega) (fun Y => rfl) (by simp [xup]) rfl (by decide) lk_X9_readsOrder_f208 rfl (by decide +kernel) rfl rfl (Nat.le_of_ble_eq_true rfl) dX9_readsOrder_239 (fun H_83 locs_83 hO_83 => ?_)
            replace hf := zl_some hf
            obtain ⟨X_82, hX_82, hf⟩ := hf
            have hQ_83 := zo_eq hX_82 hO_83
            clear hO_83 hQ_80
            obtain rfl := Option.some.inj hf
            exact e_v hx hb hr hK hN hQ_83 hlocks dX9_readsOrder_242
          · rw [if_neg c_81] at hf
            refine lv_iconst (v := 1) hx hb dX9_readsOrder_233 (by decide) ?_
            refine lv_goto (tgt := 238) hx hb dX9_readsOrder_234 (by decide) ?_
            refine lv_iadd hx hb dX9_readsOrder_238 ?_
            refine k_put (ty := .int) (k := 15) (r := 22) (k' := 5) hx hb tyX9 tyX9_ok nmX9 hts in_X9_readsOrder_X9 hown hK  hL hA hQ_80 (by decide) rfl (by omega) (fun Y => rfl) (by simp [xup]) rfl (by decide) lk_X9_readsOrder_f208 rfl (by decide +kernel) rfl rfl (Nat.le_of_ble_eq_true rfl) dX9_readsOrder_239 (fun H_85 locs_85 hO_85 => ?_)
            replace hf := zl_some hf
            obtain ⟨X_84, hX_84, hf⟩ := hf
            have hQ_85 := zo_eq hX_84 hO_85
            clear hO_85 hQ_80
            obtain rfl := Option.some.inj hf
            exact e_v hx hb hr hK hN hQ_85 hlocks dX9_readsOrder_242
        · rw [if_neg c_77] at hf
          refine lv_iconst (v := 1) hx hb dX9_readsOrder_215 (by decide) ?_
          refine lv_goto (tgt := 220) hx hb dX9_readsOrder_216 (by decide) ?_
          replace hf := zd_some hf
          obtain ⟨hi_86, hf⟩ := hf
          refine k_iast hx hb hK hL hA hO_76 (by decide) (by decide) rfl (fun _ => rfl) hi_86 dX9_readsOrder_220 (fun H_88 locs_88 hO_88 => ?_)
          replace hf := zl_some hf
          obtain ⟨X_87, hX_87, hf⟩ := hf
          have hQ_88 := zo_eq hX_87 hO_88
          clear hO_88 hO_76
          refine lv_aload_n hx hb dX9_readsOrder_221 rfl (lv_at hl_6 2 rfl) ?_
          refine lv_dup hx hb dX9_readsOrder_222 rfl ?_
          refine k_get (k := 15) (v := .int (X_87 22 5)) hx hb hts in_X9_readsOrder_X9 hown hK hQ_88 (by decide) rfl rfl (by decide) lk_X9_readsOrder_f208 rfl dX9_readsOrder_223 ?_
          refine lv_aload_n hx hb dX9_readsOrder_226 rfl (lv_at hl_6 2 rfl) ?_
          refine k_get (k := 13) (v := .int (X_87 22 4)) hx hb hts in_X9_readsOrder_X9 hown hK hQ_88 (by decide) rfl rfl (by decide) lk_X9_readsOrder_f201 rfl dX9_readsOrder_227 ?_
          refine lv_if_eq (tgt := 237) hx hb dX9_readsOrder_230 (by decide) (fun c_89 => ?_) (fun c_89 => ?_)
          · rw [if_pos c_89] at hf
            refine lv_iconst (v := 0) hx hb dX9_readsOrder_237 (by decide) ?_
            refine lv_iadd hx hb dX9_readsOrder_238 ?_
            refine k_put (ty := .int) (k := 15) (r := 22) (k' := 5) hx hb tyX9 tyX9_ok nmX9 hts in_X9_readsOrder_X9 hown hK  hL hA hQ_88 (by decide) rfl (by omega) (fun Y => rfl) (by simp [xup]) rfl (by decide) lk_X9_readsOrder_f208 rfl (by decide +kernel) rfl rfl (Nat.le_of_ble_eq_true rfl) dX9_readsOrder_239 (fun H_91 locs_91 hO_91 => ?_)
            replace hf := zl_some hf
            obtain ⟨X_90, hX_90, hf⟩ := hf
            have hQ_91 := zo_eq hX_90 hO_91
            clear hO_91 hQ_88
            obtain rfl := Option.some.inj hf
            exact e_v hx hb hr hK hN hQ_91 hlocks dX9_readsOrder_242
          · rw [if_neg c_89] at hf
            refine lv_iconst (v := 1) hx hb dX9_readsOrder_233 (by decide) ?_
            refine lv_goto (tgt := 238) hx hb dX9_readsOrder_234 (by decide) ?_
            refine lv_iadd hx hb dX9_readsOrder_238 ?_
            refine k_put (ty := .int) (k := 15) (r := 22) (k' := 5) hx hb tyX9 tyX9_ok nmX9 hts in_X9_readsOrder_X9 hown hK  hL hA hQ_88 (by decide) rfl (by omega) (fun Y => rfl) (by simp [xup]) rfl (by decide) lk_X9_readsOrder_f208 rfl (by decide +kernel) rfl rfl (Nat.le_of_ble_eq_true rfl) dX9_readsOrder_239 (fun H_93 locs_93 hO_93 => ?_)
            replace hf := zl_some hf
            obtain ⟨X_92, hX_92, hf⟩ := hf
            have hQ_93 := zo_eq hX_92 hO_93
            clear hO_93 hQ_88
            obtain rfl := Option.some.inj hf
            exact e_v hx hb hr hK hN hQ_93 hlocks dX9_readsOrder_242
    · rw [if_neg c_10] at hf
      refine lv_iconst (v := 1) hx hb dX9_readsOrder_63 (by decide) ?_
      refine lv_goto (tgt := 68) hx hb dX9_readsOrder_64 (by decide) ?_
      refine lv_iadd hx hb dX9_readsOrder_68 ?_
      refine k_put (ty := .int) (k := 12) (r := 22) (k' := 3) hx hb tyX9 tyX9_ok nmX9 hts in_X9_readsOrder_X9 hown hK  hL hA hQ_9 (by decide) rfl (by omega) (fun Y => rfl) (by simp [xup]) rfl (by decide) lk_X9_readsOrder_f198 rfl (by decide +kernel) rfl rfl (Nat.le_of_ble_eq_true rfl) dX9_readsOrder_69 (fun H_95 locs_95 hO_95 => ?_)
      replace hf := zl_some hf
      obtain ⟨X_94, hX_94, hf⟩ := hf
      have hQ_95 := zo_eq hX_94 hO_95
      clear hO_95 hQ_9
      refine lv_aload_n hx hb dX9_readsOrder_72 rfl (lv_at hl_6 2 rfl) ?_
      refine k_get (k := 14) (v := .ref (L 25)) hx hb hts in_X9_readsOrder_X9 hown hK hQ_95 (by decide) rfl rfl (by decide) lk_X9_readsOrder_f38 rfl dX9_readsOrder_73 ?_
      refine lv_iload_n hx hb dX9_readsOrder_76 rfl (lv_at hl_6 1 rfl) ?_
      refine lv_iload_n hx hb dX9_readsOrder_77 rfl (lv_at hl_6 0 rfl) ?_
      replace hf := zd_some hf
      obtain ⟨hi_96, hf⟩ := hf
      refine k_iast hx hb hK hL hA hQ_95 (by decide) (by decide) rfl (fun _ => rfl) hi_96 dX9_readsOrder_78 (fun H_98 locs_98 hO_98 => ?_)
      replace hf := zl_some hf
      obtain ⟨X_97, hX_97, hf⟩ := hf
      have hQ_98 := zo_eq hX_97 hO_98
      clear hO_98 hQ_95
      refine lv_aload_n hx hb dX9_readsOrder_79 rfl (lv_at hl_6 2 rfl) ?_
      refine k_get (k := 14) (v := .ref (L 25)) hx hb hts in_X9_readsOrder_X9 hown hK hQ_98 (by decide) rfl rfl (by decide) lk_X9_readsOrder_f38 rfl dX9_readsOrder_80 ?_
      refine lv_iload_n hx hb dX9_readsOrder_83 rfl (lv_at hl_6 1 rfl) ?_
      refine lv_iconst (v := 1) hx hb dX9_readsOrder_84 (by decide) ?_
      refine lv_iadd hx hb dX9_readsOrder_85 ?_
      refine lv_iload_n hx hb dX9_readsOrder_86 rfl (lv_at hl_6 0 rfl) ?_
      refine lv_bipush (v := 112) hx hb dX9_readsOrder_87 (by decide) ?_
      refine lv_icmp_eq (tgt := 98) hx hb dX9_readsOrder_89 (by decide) (fun c_99 => absurd c_99 (by decide)) (fun _ => ?_)
      refine lv_iload_n hx hb dX9_readsOrder_92 rfl (lv_at hl_6 0 rfl) ?_
      refine lv_bipush (v := 109) hx hb dX9_readsOrder_93 (by decide) ?_
      refine lv_icmp_ne (tgt := 102) hx hb dX9_readsOrder_95 (by decide) (fun _ => ?_) (fun c_100 => absurd c_100 (by decide))
      refine lv_aload_n hx hb dX9_readsOrder_102 rfl (lv_at hl_6 2 rfl) ?_
      replace hf := zi_some hf
      obtain ⟨r_102, X_101, hc_101, hf⟩ := hf
      refine k_ai (va_runV (As := []) (rest := [.int (v_1 + 1), .ref (L 25)]) ⟨hx, hb, hml, hown, hts⟩ (mX9_digit l D L ac hL _  _ _ hc_101) (cwV 0 hts gX9_readsOrder_X9_digit rfl rfl rfl (by decide +kernel) ⟨Nat.le_of_ble_eq_true rfl, Nat.le_of_ble_eq_true rfl⟩) (k_pv (j := 15) hK hN hQ_98 (by decide) rfl rfl _) rfl rfl hl_6.1 rfl (lv_room (Nat.le_of_ble_eq_true rfl)) dX9_readsOrder_103 ⟨Nat.le_of_ble_eq_true rfl, Nat.le_of_ble_eq_true rfl⟩) hA hQ_98 (fun H_103 locs_103 hO_103 => ?_)
      clear hQ_98
      replace hf := zd_some hf
      obtain ⟨hi_104, hf⟩ := hf
      refine k_iast hx hb hK hL hA hO_103 (by decide) (by decide) rfl (fun _ => rfl) hi_104 dX9_readsOrder_106 (fun H_106 locs_106 hO_106 => ?_)
      replace hf := zl_some hf
      obtain ⟨X_105, hX_105, hf⟩ := hf
      have hQ_106 := zo_eq hX_105 hO_106
      clear hO_106 hO_103
      refine lv_aload_n hx hb dX9_readsOrder_107 rfl (lv_at hl_6 2 rfl) ?_
      refine k_get (k := 14) (v := .ref (L 25)) hx hb hts in_X9_readsOrder_X9 hown hK hQ_106 (by decide) rfl rfl (by decide) lk_X9_readsOrder_f38 rfl dX9_readsOrder_108 ?_
      refine lv_iload_n hx hb dX9_readsOrder_111 rfl (lv_at hl_6 1 rfl) ?_
      refine lv_iconst (v := 2) hx hb dX9_readsOrder_112 (by decide) ?_
      refine lv_iadd hx hb dX9_readsOrder_113 ?_
      refine lv_iload_n hx hb dX9_readsOrder_114 rfl (lv_at hl_6 0 rfl) ?_
      refine lv_bipush (v := 43) hx hb dX9_readsOrder_115 (by decide) ?_
      refine lv_icmp_ne (tgt := 140) hx hb dX9_readsOrder_117 (by decide) (fun c_107 => absurd (by decide) c_107) (fun _ => ?_)
      refine lv_aload_n hx hb dX9_readsOrder_120 rfl (lv_at hl_6 2 rfl) ?_
      refine lv_bipush (v := 119) hx hb dX9_readsOrder_121 (by decide) ?_
      replace hf := zi_some hf
      obtain ⟨r_109, X_108, hc_108, hf⟩ := hf
      refine k_ai (va_runV (As := [.int 119]) (rest := [.int (v_1 + 2), .ref (L 25)]) ⟨hx, hb, hml, hown, hts⟩ (mX9_hasSign l D L ac hL _ 119 _ _ hc_108) (cwV 1 hts gX9_readsOrder_X9_hasSign rfl rfl rfl (by decide +kernel) ⟨Nat.le_of_ble_eq_true rfl, Nat.le_of_ble_eq_true rfl⟩) (k_pv (j := 15) hK hN hQ_106 (by decide) rfl rfl _) rfl rfl hl_6.1 rfl (lv_room (Nat.le_of_ble_eq_true rfl)) dX9_readsOrder_123 ⟨Nat.le_of_ble_eq_true rfl, Nat.le_of_ble_eq_true rfl⟩) hA hQ_106 (fun H_110 locs_110 hO_110 => ?_)
      clear hQ_106
      refine lv_if_eq (tgt := 136) hx hb dX9_readsOrder_126 (by decide) (fun c_111 => ?_) (fun c_111 => ?_)
      · rw [if_pos c_111] at hf
        subst c_111
        refine lv_iconst (v := 1) hx hb dX9_readsOrder_136 (by decide) ?_
        refine lv_goto (tgt := 141) hx hb dX9_readsOrder_137 (by decide) ?_
        replace hf := zd_some hf
        obtain ⟨hi_112, hf⟩ := hf
        refine k_iast hx hb hK hL hA hO_110 (by decide) (by decide) rfl (fun _ => rfl) hi_112 dX9_readsOrder_141 (fun H_114 locs_114 hO_114 => ?_)
        replace hf := zl_some hf
        obtain ⟨X_113, hX_113, hf⟩ := hf
        have hQ_114 := zo_eq hX_113 hO_114
        clear hO_114 hO_110
        refine lv_iload_n hx hb dX9_readsOrder_142 rfl (lv_at hl_6 0 rfl) ?_
        refine lv_bipush (v := 45) hx hb dX9_readsOrder_143 (by decide) ?_
        refine lv_icmp_ne (tgt := 158) hx hb dX9_readsOrder_145 (by decide) (fun _ => ?_) (fun c_115 => absurd c_115 (by decide))
        refine lv_aload_n hx hb dX9_readsOrder_158 rfl (lv_at hl_6 2 rfl) ?_
        refine k_get (k := 14) (v := .ref (L 25)) hx hb hts in_X9_readsOrder_X9 hown hK hQ_114 (by decide) rfl rfl (by decide) lk_X9_readsOrder_f38 rfl dX9_readsOrder_159 ?_
        refine lv_iload_n hx hb dX9_readsOrder_162 rfl (lv_at hl_6 1 rfl) ?_
        refine lv_iconst (v := 2) hx hb dX9_readsOrder_163 (by decide) ?_
        refine lv_iadd hx hb dX9_readsOrder_164 ?_
        refine lv_iload_n hx hb dX9_readsOrder_165 rfl (lv_at hl_6 0 rfl) ?_
        refine lv_bipush (v := 45) hx hb dX9_readsOrder_166 (by decide) ?_
        refine lv_icmp_eq (tgt := 177) hx hb dX9_readsOrder_168 (by decide) (fun c_116 => absurd c_116 (by decide)) (fun _ => ?_)
        refine lv_iload_n hx hb dX9_readsOrder_171 rfl (lv_at hl_6 0 rfl) ?_
        refine lv_bipush (v := 114) hx hb dX9_readsOrder_172 (by decide) ?_
        refine lv_icmp_ne (tgt := 184) hx hb dX9_readsOrder_174 (by decide) (fun _ => ?_) (fun c_117 => absurd c_117 (by decide))
        refine lv_aload_n hx hb dX9_readsOrder_184 rfl (lv_at hl_6 2 rfl) ?_
        refine k_get (k := 14) (v := .ref (L 25)) hx hb hts in_X9_readsOrder_X9 hown hK hQ_114 (by decide) rfl rfl (by decide) lk_X9_readsOrder_f38 rfl dX9_readsOrder_185 ?_
        refine lv_iload_n hx hb dX9_readsOrder_188 rfl (lv_at hl_6 1 rfl) ?_
        refine lv_iconst (v := 2) hx hb dX9_readsOrder_189 (by decide) ?_
        refine lv_iadd hx hb dX9_readsOrder_190 ?_
        replace hf := zd_some hf
        obtain ⟨hi_118, hf⟩ := hf
        refine k_iald hx hb hK hQ_114 (by decide) (fun _ => rfl) hi_118 dX9_readsOrder_191 ?_
        replace hf := zd_some hf
        obtain ⟨hi_119, hf⟩ := hf
        refine k_iast hx hb hK hL hA hQ_114 (by decide) (by decide) rfl (fun _ => rfl) hi_119 dX9_readsOrder_192 (fun H_121 locs_121 hO_121 => ?_)
        replace hf := zl_some hf
        obtain ⟨X_120, hX_120, hf⟩ := hf
        have hQ_121 := zo_eq hX_120 hO_121
        clear hO_121 hQ_114
        refine lv_aload_n hx hb dX9_readsOrder_193 rfl (lv_at hl_6 2 rfl) ?_
        refine k_get (k := 14) (v := .ref (L 25)) hx hb hts in_X9_readsOrder_X9 hown hK hQ_121 (by decide) rfl rfl (by decide) lk_X9_readsOrder_f38 rfl dX9_readsOrder_194 ?_
        refine lv_iload_n hx hb dX9_readsOrder_197 rfl (lv_at hl_6 1 rfl) ?_
        refine lv_iconst (v := 3) hx hb dX9_readsOrder_198 (by decide) ?_
        refine lv_iadd hx hb dX9_readsOrder_199 ?_
        refine lv_iload_n hx hb dX9_readsOrder_200 rfl (lv_at hl_6 0 rfl) ?_
        refine lv_bipush (v := 43) hx hb dX9_readsOrder_201 (by decide) ?_
        refine lv_icmp_ne (tgt := 219) hx hb dX9_readsOrder_203 (by decide) (fun c_122 => absurd (by decide) c_122) (fun _ => ?_)
        refine lv_aload_n hx hb dX9_readsOrder_206 rfl (lv_at hl_6 2 rfl) ?_
        refine lv_bipush (v := 33) hx hb dX9_readsOrder_207 (by decide) ?_
        replace hf := zi_some hf
        obtain ⟨r_124, X_123, hc_123, hf⟩ := hf
        refine k_ai (va_runV (As := [.int 33]) (rest := [.int (v_1 + 3), .ref (L 25)]) ⟨hx, hb, hml, hown, hts⟩ (mX9_hasSign l D L ac hL _ 33 _ _ hc_123) (cwV 1 hts gX9_readsOrder_X9_hasSign rfl rfl rfl (by decide +kernel) ⟨Nat.le_of_ble_eq_true rfl, Nat.le_of_ble_eq_true rfl⟩) (k_pv (j := 15) hK hN hQ_121 (by decide) rfl rfl _) rfl rfl hl_6.1 rfl (lv_room (Nat.le_of_ble_eq_true rfl)) dX9_readsOrder_209 ⟨Nat.le_of_ble_eq_true rfl, Nat.le_of_ble_eq_true rfl⟩) hA hQ_121 (fun H_125 locs_125 hO_125 => ?_)
        clear hQ_121
        refine lv_if_eq (tgt := 219) hx hb dX9_readsOrder_212 (by decide) (fun c_126 => ?_) (fun c_126 => ?_)
        · rw [if_pos c_126] at hf
          subst c_126
          refine lv_iconst (v := 0) hx hb dX9_readsOrder_219 (by decide) ?_
          replace hf := zd_some hf
          obtain ⟨hi_127, hf⟩ := hf
          refine k_iast hx hb hK hL hA hO_125 (by decide) (by decide) rfl (fun _ => rfl) hi_127 dX9_readsOrder_220 (fun H_129 locs_129 hO_129 => ?_)
          replace hf := zl_some hf
          obtain ⟨X_128, hX_128, hf⟩ := hf
          have hQ_129 := zo_eq hX_128 hO_129
          clear hO_129 hO_125
          refine lv_aload_n hx hb dX9_readsOrder_221 rfl (lv_at hl_6 2 rfl) ?_
          refine lv_dup hx hb dX9_readsOrder_222 rfl ?_
          refine k_get (k := 15) (v := .int (X_128 22 5)) hx hb hts in_X9_readsOrder_X9 hown hK hQ_129 (by decide) rfl rfl (by decide) lk_X9_readsOrder_f208 rfl dX9_readsOrder_223 ?_
          refine lv_aload_n hx hb dX9_readsOrder_226 rfl (lv_at hl_6 2 rfl) ?_
          refine k_get (k := 13) (v := .int (X_128 22 4)) hx hb hts in_X9_readsOrder_X9 hown hK hQ_129 (by decide) rfl rfl (by decide) lk_X9_readsOrder_f201 rfl dX9_readsOrder_227 ?_
          refine lv_if_eq (tgt := 237) hx hb dX9_readsOrder_230 (by decide) (fun c_130 => ?_) (fun c_130 => ?_)
          · rw [if_pos c_130] at hf
            refine lv_iconst (v := 0) hx hb dX9_readsOrder_237 (by decide) ?_
            refine lv_iadd hx hb dX9_readsOrder_238 ?_
            refine k_put (ty := .int) (k := 15) (r := 22) (k' := 5) hx hb tyX9 tyX9_ok nmX9 hts in_X9_readsOrder_X9 hown hK  hL hA hQ_129 (by decide) rfl (by omega) (fun Y => rfl) (by simp [xup]) rfl (by decide) lk_X9_readsOrder_f208 rfl (by decide +kernel) rfl rfl (Nat.le_of_ble_eq_true rfl) dX9_readsOrder_239 (fun H_132 locs_132 hO_132 => ?_)
            replace hf := zl_some hf
            obtain ⟨X_131, hX_131, hf⟩ := hf
            have hQ_132 := zo_eq hX_131 hO_132
            clear hO_132 hQ_129
            obtain rfl := Option.some.inj hf
            exact e_v hx hb hr hK hN hQ_132 hlocks dX9_readsOrder_242
          · rw [if_neg c_130] at hf
            refine lv_iconst (v := 1) hx hb dX9_readsOrder_233 (by decide) ?_
            refine lv_goto (tgt := 238) hx hb dX9_readsOrder_234 (by decide) ?_
            refine lv_iadd hx hb dX9_readsOrder_238 ?_
            refine k_put (ty := .int) (k := 15) (r := 22) (k' := 5) hx hb tyX9 tyX9_ok nmX9 hts in_X9_readsOrder_X9 hown hK  hL hA hQ_129 (by decide) rfl (by omega) (fun Y => rfl) (by simp [xup]) rfl (by decide) lk_X9_readsOrder_f208 rfl (by decide +kernel) rfl rfl (Nat.le_of_ble_eq_true rfl) dX9_readsOrder_239 (fun H_134 locs_134 hO_134 => ?_)
            replace hf := zl_some hf
            obtain ⟨X_133, hX_133, hf⟩ := hf
            have hQ_134 := zo_eq hX_133 hO_134
            clear hO_134 hQ_129
            obtain rfl := Option.some.inj hf
            exact e_v hx hb hr hK hN hQ_134 hlocks dX9_readsOrder_242
        · rw [if_neg c_126] at hf
          refine lv_iconst (v := 1) hx hb dX9_readsOrder_215 (by decide) ?_
          refine lv_goto (tgt := 220) hx hb dX9_readsOrder_216 (by decide) ?_
          replace hf := zd_some hf
          obtain ⟨hi_135, hf⟩ := hf
          refine k_iast hx hb hK hL hA hO_125 (by decide) (by decide) rfl (fun _ => rfl) hi_135 dX9_readsOrder_220 (fun H_137 locs_137 hO_137 => ?_)
          replace hf := zl_some hf
          obtain ⟨X_136, hX_136, hf⟩ := hf
          have hQ_137 := zo_eq hX_136 hO_137
          clear hO_137 hO_125
          refine lv_aload_n hx hb dX9_readsOrder_221 rfl (lv_at hl_6 2 rfl) ?_
          refine lv_dup hx hb dX9_readsOrder_222 rfl ?_
          refine k_get (k := 15) (v := .int (X_136 22 5)) hx hb hts in_X9_readsOrder_X9 hown hK hQ_137 (by decide) rfl rfl (by decide) lk_X9_readsOrder_f208 rfl dX9_readsOrder_223 ?_
          refine lv_aload_n hx hb dX9_readsOrder_226 rfl (lv_at hl_6 2 rfl) ?_
          refine k_get (k := 13) (v := .int (X_136 22 4)) hx hb hts in_X9_readsOrder_X9 hown hK hQ_137 (by decide) rfl rfl (by decide) lk_X9_readsOrder_f201 rfl dX9_readsOrder_227 ?_
          refine lv_if_eq (tgt := 237) hx hb dX9_readsOrder_230 (by decide) (fun c_138 => ?_) (fun c_138 => ?_)
          · rw [if_pos c_138] at hf
            refine lv_iconst (v := 0) hx hb dX9_readsOrder_237 (by decide) ?_
            refine lv_iadd hx hb dX9_readsOrder_238 ?_
            refine k_put (ty := .int) (k := 15) (r := 22) (k' := 5) hx hb tyX9 tyX9_ok nmX9 hts in_X9_readsOrder_X9 hown hK  hL hA hQ_137 (by decide) rfl (by omega) (fun Y => rfl) (by simp [xup]) rfl (by decide) lk_X9_readsOrder_f208 rfl (by decide +kernel) rfl rfl (Nat.le_of_ble_eq_true rfl) dX9_readsOrder_239 (fun H_140 locs_140 hO_140 => ?_)
            replace hf := zl_some hf
            obtain ⟨X_139, hX_139, hf⟩ := hf
            have hQ_140 := zo_eq hX_139 hO_140
            clear hO_140 hQ_137
            obtain rfl := Option.some.inj hf
            exact e_v hx hb hr hK hN hQ_140 hlocks dX9_readsOrder_242
          · rw [if_neg c_138] at hf
            refine lv_iconst (v := 1) hx hb dX9_readsOrder_233 (by decide) ?_
            refine lv_goto (tgt := 238) hx hb dX9_readsOrder_234 (by decide) ?_
            refine lv_iadd hx hb dX9_readsOrder_238 ?_
            refine k_put (ty := .int) (k := 15) (r := 22) (k' := 5) hx hb tyX9 tyX9_ok nmX9 hts in_X9_readsOrder_X9 hown hK  hL hA hQ_137 (by decide) rfl (by omega) (fun Y => rfl) (by simp [xup]) rfl (by decide) lk_X9_readsOrder_f208 rfl (by decide +kernel) rfl rfl (Nat.le_of_ble_eq_true rfl) dX9_readsOrder_239 (fun H_142 locs_142 hO_142 => ?_)
            replace hf := zl_some hf
            obtain ⟨X_141, hX_141, hf⟩ := hf
            have hQ_142 := zo_eq hX_141 hO_142
            clear hO_142 hQ_137
            obtain rfl := Option.some.inj hf
            exact e_v hx hb hr hK hN hQ_142 hlocks dX9_readsOrder_242
      · rw [if_neg c_111] at hf
        refine lv_aload_n hx hb dX9_readsOrder_129 rfl (lv_at hl_6 2 rfl) ?_
        replace hf := zi_some hf
        obtain ⟨r_144, X_143, hc_143, hf⟩ := hf
        refine k_ai (va_runV (As := []) (rest := [.int (v_1 + 2), .ref (L 25)]) ⟨hx, hb, hml, hown, hts⟩ (mX9_digit l D L ac hL _  _ _ hc_143) (cwV 0 hts gX9_readsOrder_X9_digit rfl rfl rfl (by decide +kernel) ⟨Nat.le_of_ble_eq_true rfl, Nat.le_of_ble_eq_true rfl⟩) (k_pv (j := 15) hK hN hO_110 (by decide) rfl rfl _) rfl rfl hl_6.1 rfl (lv_room (Nat.le_of_ble_eq_true rfl)) dX9_readsOrder_130 ⟨Nat.le_of_ble_eq_true rfl, Nat.le_of_ble_eq_true rfl⟩) hA hO_110 (fun H_145 locs_145 hO_145 => ?_)
        clear hO_110
        refine lv_goto (tgt := 141) hx hb dX9_readsOrder_133 (by decide) ?_
        replace hf := zd_some hf
        obtain ⟨hi_146, hf⟩ := hf
        refine k_iast hx hb hK hL hA hO_145 (by decide) (by decide) rfl (fun _ => rfl) hi_146 dX9_readsOrder_141 (fun H_148 locs_148 hO_148 => ?_)
        replace hf := zl_some hf
        obtain ⟨X_147, hX_147, hf⟩ := hf
        have hQ_148 := zo_eq hX_147 hO_148
        clear hO_148 hO_145
        refine lv_iload_n hx hb dX9_readsOrder_142 rfl (lv_at hl_6 0 rfl) ?_
        refine lv_bipush (v := 45) hx hb dX9_readsOrder_143 (by decide) ?_
        refine lv_icmp_ne (tgt := 158) hx hb dX9_readsOrder_145 (by decide) (fun _ => ?_) (fun c_149 => absurd c_149 (by decide))
        refine lv_aload_n hx hb dX9_readsOrder_158 rfl (lv_at hl_6 2 rfl) ?_
        refine k_get (k := 14) (v := .ref (L 25)) hx hb hts in_X9_readsOrder_X9 hown hK hQ_148 (by decide) rfl rfl (by decide) lk_X9_readsOrder_f38 rfl dX9_readsOrder_159 ?_
        refine lv_iload_n hx hb dX9_readsOrder_162 rfl (lv_at hl_6 1 rfl) ?_
        refine lv_iconst (v := 2) hx hb dX9_readsOrder_163 (by decide) ?_
        refine lv_iadd hx hb dX9_readsOrder_164 ?_
        refine lv_iload_n hx hb dX9_readsOrder_165 rfl (lv_at hl_6 0 rfl) ?_
        refine lv_bipush (v := 45) hx hb dX9_readsOrder_166 (by decide) ?_
        refine lv_icmp_eq (tgt := 177) hx hb dX9_readsOrder_168 (by decide) (fun c_150 => absurd c_150 (by decide)) (fun _ => ?_)
        refine lv_iload_n hx hb dX9_readsOrder_171 rfl (lv_at hl_6 0 rfl) ?_
        refine lv_bipush (v := 114) hx hb dX9_readsOrder_172 (by decide) ?_
        refine lv_icmp_ne (tgt := 184) hx hb dX9_readsOrder_174 (by decide) (fun _ => ?_) (fun c_151 => absurd c_151 (by decide))
        refine lv_aload_n hx hb dX9_readsOrder_184 rfl (lv_at hl_6 2 rfl) ?_
        refine k_get (k := 14) (v := .ref (L 25)) hx hb hts in_X9_readsOrder_X9 hown hK hQ_148 (by decide) rfl rfl (by decide) lk_X9_readsOrder_f38 rfl dX9_readsOrder_185 ?_
        refine lv_iload_n hx hb dX9_readsOrder_188 rfl (lv_at hl_6 1 rfl) ?_
        refine lv_iconst (v := 2) hx hb dX9_readsOrder_189 (by decide) ?_
        refine lv_iadd hx hb dX9_readsOrder_190 ?_
        replace hf := zd_some hf
        obtain ⟨hi_152, hf⟩ := hf
        refine k_iald hx hb hK hQ_148 (by decide) (fun _ => rfl) hi_152 dX9_readsOrder_191 ?_
        replace hf := zd_some hf
        obtain ⟨hi_153, hf⟩ := hf
        refine k_iast hx hb hK hL hA hQ_148 (by decide) (by decide) rfl (fun _ => rfl) hi_153 dX9_readsOrder_192 (fun H_155 locs_155 hO_155 => ?_)
        replace hf := zl_some hf
        obtain ⟨X_154, hX_154, hf⟩ := hf
        have hQ_155 := zo_eq hX_154 hO_155
        clear hO_155 hQ_148
        refine lv_aload_n hx hb dX9_readsOrder_193 rfl (lv_at hl_6 2 rfl) ?_
        refine k_get (k := 14) (v := .ref (L 25)) hx hb hts in_X9_readsOrder_X9 hown hK hQ_155 (by decide) rfl rfl (by decide) lk_X9_readsOrder_f38 rfl dX9_readsOrder_194 ?_
        refine lv_iload_n hx hb dX9_readsOrder_197 rfl (lv_at hl_6 1 rfl) ?_
        refine lv_iconst (v := 3) hx hb dX9_readsOrder_198 (by decide) ?_
        refine lv_iadd hx hb dX9_readsOrder_199 ?_
        refine lv_iload_n hx hb dX9_readsOrder_200 rfl (lv_at hl_6 0 rfl) ?_
        refine lv_bipush (v := 43) hx hb dX9_readsOrder_201 (by decide) ?_
        refine lv_icmp_ne (tgt := 219) hx hb dX9_readsOrder_203 (by decide) (fun c_156 => absurd (by decide) c_156) (fun _ => ?_)
        refine lv_aload_n hx hb dX9_readsOrder_206 rfl (lv_at hl_6 2 rfl) ?_
        refine lv_bipush (v := 33) hx hb dX9_readsOrder_207 (by decide) ?_
        replace hf := zi_some hf
        obtain ⟨r_158, X_157, hc_157, hf⟩ := hf
        refine k_ai (va_runV (As := [.int 33]) (rest := [.int (v_1 + 3), .ref (L 25)]) ⟨hx, hb, hml, hown, hts⟩ (mX9_hasSign l D L ac hL _ 33 _ _ hc_157) (cwV 1 hts gX9_readsOrder_X9_hasSign rfl rfl rfl (by decide +kernel) ⟨Nat.le_of_ble_eq_true rfl, Nat.le_of_ble_eq_true rfl⟩) (k_pv (j := 15) hK hN hQ_155 (by decide) rfl rfl _) rfl rfl hl_6.1 rfl (lv_room (Nat.le_of_ble_eq_true rfl)) dX9_readsOrder_209 ⟨Nat.le_of_ble_eq_true rfl, Nat.le_of_ble_eq_true rfl⟩) hA hQ_155 (fun H_159 locs_159 hO_159 => ?_)
        clear hQ_155
        refine lv_if_eq (tgt := 219) hx hb dX9_readsOrder_212 (by decide) (fun c_160 => ?_) (fun c_160 => ?_)
        · rw [if_pos c_160] at hf
          subst c_160
          refine lv_iconst (v := 0) hx hb dX9_readsOrder_219 (by decide) ?_
          replace hf := zd_some hf
          obtain ⟨hi_161, hf⟩ := hf
          refine k_iast hx hb hK hL hA hO_159 (by decide) (by decide) rfl (fun _ => rfl) hi_161 dX9_readsOrder_220 (fun H_163 locs_163 hO_163 => ?_)
          replace hf := zl_some hf
          obtain ⟨X_162, hX_162, hf⟩ := hf
          have hQ_163 := zo_eq hX_162 hO_163
          clear hO_163 hO_159
          refine lv_aload_n hx hb dX9_readsOrder_221 rfl (lv_at hl_6 2 rfl) ?_
          refine lv_dup hx hb dX9_readsOrder_222 rfl ?_
          refine k_get (k := 15) (v := .int (X_162 22 5)) hx hb hts in_X9_readsOrder_X9 hown hK hQ_163 (by decide) rfl rfl (by decide) lk_X9_readsOrder_f208 rfl dX9_readsOrder_223 ?_
          refine lv_aload_n hx hb dX9_readsOrder_226 rfl (lv_at hl_6 2 rfl) ?_
          refine k_get (k := 13) (v := .int (X_162 22 4)) hx hb hts in_X9_readsOrder_X9 hown hK hQ_163 (by decide) rfl rfl (by decide) lk_X9_readsOrder_f201 rfl dX9_readsOrder_227 ?_
          refine lv_if_eq (tgt := 237) hx hb dX9_readsOrder_230 (by decide) (fun c_164 => ?_) (fun c_164 => ?_)
          · rw [if_pos c_164] at hf
            refine lv_iconst (v := 0) hx hb dX9_readsOrder_237 (by decide) ?_
            refine lv_iadd hx hb dX9_readsOrder_238 ?_
            refine k_put (ty := .int) (k := 15) (r := 22) (k' := 5) hx hb tyX9 tyX9_ok nmX9 hts in_X9_readsOrder_X9 hown hK  hL hA hQ_163 (by decide) rfl (by omega) (fun Y => rfl) (by simp [xup]) rfl (by decide) lk_X9_readsOrder_f208 rfl (by decide +kernel) rfl rfl (Nat.le_of_ble_eq_true rfl) dX9_readsOrder_239 (fun H_166 locs_166 hO_166 => ?_)
            replace hf := zl_some hf
            obtain ⟨X_165, hX_165, hf⟩ := hf
            have hQ_166 := zo_eq hX_165 hO_166
            clear hO_166 hQ_163
            obtain rfl := Option.some.inj hf
            exact e_v hx hb hr hK hN hQ_166 hlocks dX9_readsOrder_242
          · rw [if_neg c_164] at hf
            refine lv_iconst (v := 1) hx hb dX9_readsOrder_233 (by decide) ?_
            refine lv_goto (tgt := 238) hx hb dX9_readsOrder_234 (by decide) ?_
            refine lv_iadd hx hb dX9_readsOrder_238 ?_
            refine k_put (ty := .int) (k := 15) (r := 22) (k' := 5) hx hb tyX9 tyX9_ok nmX9 hts in_X9_readsOrder_X9 hown hK  hL hA hQ_163 (by decide) rfl (by omega) (fun Y => rfl) (by simp [xup]) rfl (by decide) lk_X9_readsOrder_f208 rfl (by decide +kernel) rfl rfl (Nat.le_of_ble_eq_true rfl) dX9_readsOrder_239 (fun H_168 locs_168 hO_168 => ?_)
            replace hf := zl_some hf
            obtain ⟨X_167, hX_167, hf⟩ := hf
            have hQ_168 := zo_eq hX_167 hO_168
            clear hO_168 hQ_163
            obtain rfl := Option.some.inj hf
            exact e_v hx hb hr hK hN hQ_168 hlocks dX9_readsOrder_242
        · rw [if_neg c_160] at hf
          refine lv_iconst (v := 1) hx hb dX9_readsOrder_215 (by decide) ?_
          refine lv_goto (tgt := 220) hx hb dX9_readsOrder_216 (by decide) ?_
          replace hf := zd_some hf
          obtain ⟨hi_169, hf⟩ := hf
          refine k_iast hx hb hK hL hA hO_159 (by decide) (by decide) rfl (fun _ => rfl) hi_169 dX9_readsOrder_220 (fun H_171 locs_171 hO_171 => ?_)
          replace hf := zl_some hf
          obtain ⟨X_170, hX_170, hf⟩ := hf
          have hQ_171 := zo_eq hX_170 hO_171
          clear hO_171 hO_159
          refine lv_aload_n hx hb dX9_readsOrder_221 rfl (lv_at hl_6 2 rfl) ?_
          refine lv_dup hx hb dX9_readsOrder_222 rfl ?_
          refine k_get (k := 15) (v := .int (X_170 22 5)) hx hb hts in_X9_readsOrder_X9 hown hK hQ_171 (by decide) rfl rfl (by decide) lk_X9_readsOrder_f208 rfl dX9_readsOrder_223 ?_
          refine lv_aload_n hx hb dX9_readsOrder_226 rfl (lv_at hl_6 2 rfl) ?_
          refine k_get (k := 13) (v := .int (X_170 22 4)) hx hb hts in_X9_readsOrder_X9 hown hK hQ_171 (by decide) rfl rfl (by decide) lk_X9_readsOrder_f201 rfl dX9_readsOrder_227 ?_
          refine lv_if_eq (tgt := 237) hx hb dX9_readsOrder_230 (by decide) (fun c_172 => ?_) (fun c_172 => ?_)
          · rw [if_pos c_172] at hf
            refine lv_iconst (v := 0) hx hb dX9_readsOrder_237 (by decide) ?_
            refine lv_iadd hx hb dX9_readsOrder_238 ?_
            refine k_put (ty := .int) (k := 15) (r := 22) (k' := 5) hx hb tyX9 tyX9_ok nmX9 hts in_X9_readsOrder_X9 hown hK  hL hA hQ_171 (by decide) rfl (by omega) (fun Y => rfl) (by simp [xup]) rfl (by decide) lk_X9_readsOrder_f208 rfl (by decide +kernel) rfl rfl (Nat.le_of_ble_eq_true rfl) dX9_readsOrder_239 (fun H_174 locs_174 hO_174 => ?_)
            replace hf := zl_some hf
            obtain ⟨X_173, hX_173, hf⟩ := hf
            have hQ_174 := zo_eq hX_173 hO_174
            clear hO_174 hQ_171
            obtain rfl := Option.some.inj hf
            exact e_v hx hb hr hK hN hQ_174 hlocks dX9_readsOrder_242
          · rw [if_neg c_172] at hf
            refine lv_iconst (v := 1) hx hb dX9_readsOrder_233 (by decide) ?_
            refine lv_goto (tgt := 238) hx hb dX9_readsOrder_234 (by decide) ?_
            refine lv_iadd hx hb dX9_readsOrder_238 ?_
            refine k_put (ty := .int) (k := 15) (r := 22) (k' := 5) hx hb tyX9 tyX9_ok nmX9 hts in_X9_readsOrder_X9 hown hK  hL hA hQ_171 (by decide) rfl (by omega) (fun Y => rfl) (by simp [xup]) rfl (by decide) lk_X9_readsOrder_f208 rfl (by decide +kernel) rfl rfl (Nat.le_of_ble_eq_true rfl) dX9_readsOrder_239 (fun H_176 locs_176 hO_176 => ?_)
            replace hf := zl_some hf
            obtain ⟨X_175, hX_175, hf⟩ := hf
            have hQ_176 := zo_eq hX_175 hO_176
            clear hO_176 hQ_171
            obtain rfl := Option.some.inj hf
            exact e_v hx hb hr hK hN hQ_176 hlocks dX9_readsOrder_242
  · rw [if_neg c_7] at hf
    refine lv_iload_n hx hb dX9_readsOrder_19 rfl (lv_at hl_6 0 rfl) ?_
    refine lv_bipush (v := 45) hx hb dX9_readsOrder_20 (by decide) ?_
    refine lv_icmp_eq (tgt := 43) hx hb dX9_readsOrder_22 (by decide) (fun c_177 => ?_) (fun c_177 => ?_)
    · rw [if_pos c_177] at hf
      subst c_177
      refine lv_iconst (v := 1) hx hb dX9_readsOrder_43 (by decide) ?_
      refine lv_goto (tgt := 48) hx hb dX9_readsOrder_44 (by decide) ?_
      refine k_put (ty := .boolean) (k := 13) (r := 22) (k' := 4) hx hb tyX9 tyX9_ok nmX9 hts in_X9_readsOrder_X9 hown hK  hL hA hO_5 (by decide) rfl (by omega) (fun Y => rfl) (by simp [xup]) rfl (by decide) lk_X9_readsOrder_f201 rfl (by decide +kernel) (bo_n (by decide)) (bo_f (by decide)) (Nat.le_of_ble_eq_true rfl) dX9_readsOrder_48 (fun H_179 locs_179 hO_179 => ?_)
      replace hf := zl_some hf
      obtain ⟨X_178, hX_178, hf⟩ := hf
      have hQ_179 := zo_eq hX_178 hO_179
      clear hO_179 hO_5
      refine lv_aload_n hx hb dX9_readsOrder_51 rfl (lv_at hl_6 2 rfl) ?_
      refine lv_dup hx hb dX9_readsOrder_52 rfl ?_
      refine k_get (k := 12) (v := .int (X_178 22 3)) hx hb hts in_X9_readsOrder_X9 hown hK hQ_179 (by decide) rfl rfl (by decide) lk_X9_readsOrder_f198 rfl dX9_readsOrder_53 ?_
      refine lv_aload_n hx hb dX9_readsOrder_56 rfl (lv_at hl_6 2 rfl) ?_
      refine k_get (k := 13) (v := .int (X_178 22 4)) hx hb hts in_X9_readsOrder_X9 hown hK hQ_179 (by decide) rfl rfl (by decide) lk_X9_readsOrder_f201 rfl dX9_readsOrder_57 ?_
      refine lv_if_eq (tgt := 67) hx hb dX9_readsOrder_60 (by decide) (fun c_180 => ?_) (fun c_180 => ?_)
      · rw [if_pos c_180] at hf
        refine lv_iconst (v := 0) hx hb dX9_readsOrder_67 (by decide) ?_
        refine lv_iadd hx hb dX9_readsOrder_68 ?_
        refine k_put (ty := .int) (k := 12) (r := 22) (k' := 3) hx hb tyX9 tyX9_ok nmX9 hts in_X9_readsOrder_X9 hown hK  hL hA hQ_179 (by decide) rfl (by omega) (fun Y => rfl) (by simp [xup]) rfl (by decide) lk_X9_readsOrder_f198 rfl (by decide +kernel) rfl rfl (Nat.le_of_ble_eq_true rfl) dX9_readsOrder_69 (fun H_182 locs_182 hO_182 => ?_)
        replace hf := zl_some hf
        obtain ⟨X_181, hX_181, hf⟩ := hf
        have hQ_182 := zo_eq hX_181 hO_182
        clear hO_182 hQ_179
        refine lv_aload_n hx hb dX9_readsOrder_72 rfl (lv_at hl_6 2 rfl) ?_
        refine k_get (k := 14) (v := .ref (L 25)) hx hb hts in_X9_readsOrder_X9 hown hK hQ_182 (by decide) rfl rfl (by decide) lk_X9_readsOrder_f38 rfl dX9_readsOrder_73 ?_
        refine lv_iload_n hx hb dX9_readsOrder_76 rfl (lv_at hl_6 1 rfl) ?_
        refine lv_iload_n hx hb dX9_readsOrder_77 rfl (lv_at hl_6 0 rfl) ?_
        replace hf := zd_some hf
        obtain ⟨hi_183, hf⟩ := hf
        refine k_iast hx hb hK hL hA hQ_182 (by decide) (by decide) rfl (fun _ => rfl) hi_183 dX9_readsOrder_78 (fun H_185 locs_185 hO_185 => ?_)
        replace hf := zl_some hf
        obtain ⟨X_184, hX_184, hf⟩ := hf
        have hQ_185 := zo_eq hX_184 hO_185
        clear hO_185 hQ_182
        refine lv_aload_n hx hb dX9_readsOrder_79 rfl (lv_at hl_6 2 rfl) ?_
        refine k_get (k := 14) (v := .ref (L 25)) hx hb hts in_X9_readsOrder_X9 hown hK hQ_185 (by decide) rfl rfl (by decide) lk_X9_readsOrder_f38 rfl dX9_readsOrder_80 ?_
        refine lv_iload_n hx hb dX9_readsOrder_83 rfl (lv_at hl_6 1 rfl) ?_
        refine lv_iconst (v := 1) hx hb dX9_readsOrder_84 (by decide) ?_
        refine lv_iadd hx hb dX9_readsOrder_85 ?_
        refine lv_iload_n hx hb dX9_readsOrder_86 rfl (lv_at hl_6 0 rfl) ?_
        refine lv_bipush (v := 112) hx hb dX9_readsOrder_87 (by decide) ?_
        refine lv_icmp_eq (tgt := 98) hx hb dX9_readsOrder_89 (by decide) (fun c_186 => absurd c_186 (by decide)) (fun _ => ?_)
        refine lv_iload_n hx hb dX9_readsOrder_92 rfl (lv_at hl_6 0 rfl) ?_
        refine lv_bipush (v := 109) hx hb dX9_readsOrder_93 (by decide) ?_
        refine lv_icmp_ne (tgt := 102) hx hb dX9_readsOrder_95 (by decide) (fun _ => ?_) (fun c_187 => absurd c_187 (by decide))
        refine lv_aload_n hx hb dX9_readsOrder_102 rfl (lv_at hl_6 2 rfl) ?_
        replace hf := zi_some hf
        obtain ⟨r_189, X_188, hc_188, hf⟩ := hf
        refine k_ai (va_runV (As := []) (rest := [.int (v_1 + 1), .ref (L 25)]) ⟨hx, hb, hml, hown, hts⟩ (mX9_digit l D L ac hL _  _ _ hc_188) (cwV 0 hts gX9_readsOrder_X9_digit rfl rfl rfl (by decide +kernel) ⟨Nat.le_of_ble_eq_true rfl, Nat.le_of_ble_eq_true rfl⟩) (k_pv (j := 15) hK hN hQ_185 (by decide) rfl rfl _) rfl rfl hl_6.1 rfl (lv_room (Nat.le_of_ble_eq_true rfl)) dX9_readsOrder_103 ⟨Nat.le_of_ble_eq_true rfl, Nat.le_of_ble_eq_true rfl⟩) hA hQ_185 (fun H_190 locs_190 hO_190 => ?_)
        clear hQ_185
        replace hf := zd_some hf
        obtain ⟨hi_191, hf⟩ := hf
        refine k_iast hx hb hK hL hA hO_190 (by decide) (by decide) rfl (fun _ => rfl) hi_191 dX9_readsOrder_106 (fun H_193 locs_193 hO_193 => ?_)
        replace hf := zl_some hf
        obtain ⟨X_192, hX_192, hf⟩ := hf
        have hQ_193 := zo_eq hX_192 hO_193
        clear hO_193 hO_190
        refine lv_aload_n hx hb dX9_readsOrder_107 rfl (lv_at hl_6 2 rfl) ?_
        refine k_get (k := 14) (v := .ref (L 25)) hx hb hts in_X9_readsOrder_X9 hown hK hQ_193 (by decide) rfl rfl (by decide) lk_X9_readsOrder_f38 rfl dX9_readsOrder_108 ?_
        refine lv_iload_n hx hb dX9_readsOrder_111 rfl (lv_at hl_6 1 rfl) ?_
        refine lv_iconst (v := 2) hx hb dX9_readsOrder_112 (by decide) ?_
        refine lv_iadd hx hb dX9_readsOrder_113 ?_
        refine lv_iload_n hx hb dX9_readsOrder_114 rfl (lv_at hl_6 0 rfl) ?_
        refine lv_bipush (v := 43) hx hb dX9_readsOrder_115 (by decide) ?_
        refine lv_icmp_ne (tgt := 140) hx hb dX9_readsOrder_117 (by decide) (fun _ => ?_) (fun c_194 => absurd c_194 (by decide))
        refine lv_iconst (v := 0) hx hb dX9_readsOrder_140 (by decide) ?_
        replace hf := zd_some hf
        obtain ⟨hi_195, hf⟩ := hf
        refine k_iast hx hb hK hL hA hQ_193 (by decide) (by decide) rfl (fun _ => rfl) hi_195 dX9_readsOrder_141 (fun H_197 locs_197 hO_197 => ?_)
        replace hf := zl_some hf
        obtain ⟨X_196, hX_196, hf⟩ := hf
        have hQ_197 := zo_eq hX_196 hO_197
        clear hO_197 hQ_193
        refine lv_iload_n hx hb dX9_readsOrder_142 rfl (lv_at hl_6 0 rfl) ?_
        refine lv_bipush (v := 45) hx hb dX9_readsOrder_143 (by decide) ?_
        refine lv_icmp_ne (tgt := 158) hx hb dX9_readsOrder_145 (by decide) (fun c_198 => absurd (by decide) c_198) (fun _ => ?_)
        refine lv_aload_n hx hb dX9_readsOrder_148 rfl (lv_at hl_6 2 rfl) ?_
        refine lv_aload_n hx hb dX9_readsOrder_149 rfl (lv_at hl_6 2 rfl) ?_
        refine lv_bipush (v := 46) hx hb dX9_readsOrder_150 (by decide) ?_
        replace hf := zi_some hf
        obtain ⟨r_200, X_199, hc_199, hf⟩ := hf
        refine k_ai (va_runV (As := [.int 46]) (rest := [.ref (L 15)]) ⟨hx, hb, hml, hown, hts⟩ (mX9_hasSign l D L ac hL _ 46 _ _ hc_199) (cwV 1 hts gX9_readsOrder_X9_hasSign rfl rfl rfl (by decide +kernel) ⟨Nat.le_of_ble_eq_true rfl, Nat.le_of_ble_eq_true rfl⟩) (k_pv (j := 15) hK hN hQ_197 (by decide) rfl rfl _) rfl rfl hl_6.1 rfl (lv_room (Nat.le_of_ble_eq_true rfl)) dX9_readsOrder_152 ⟨Nat.le_of_ble_eq_true rfl, Nat.le_of_ble_eq_true rfl⟩) hA hQ_197 (fun H_201 locs_201 hO_201 => ?_)
        clear hQ_197
        replace hf := zb_some hf
        obtain ⟨hb_202, hf⟩ := hf
        refine k_put (ty := .boolean) (k := 13) (r := 22) (k' := 4) hx hb tyX9 tyX9_ok nmX9 hts in_X9_readsOrder_X9 hown hK  hL hA hO_201 (by decide) rfl (by omega) (fun Y => rfl) (by simp [xup]) rfl (by decide) lk_X9_readsOrder_f201 rfl (by decide +kernel) (bo_n hb_202) (bo_f hb_202) (Nat.le_of_ble_eq_true rfl) dX9_readsOrder_155 (fun H_204 locs_204 hO_204 => ?_)
        replace hf := zl_some hf
        obtain ⟨X_203, hX_203, hf⟩ := hf
        have hQ_204 := zo_eq hX_203 hO_204
        clear hO_204 hO_201
        refine lv_aload_n hx hb dX9_readsOrder_158 rfl (lv_at hl_6 2 rfl) ?_
        refine k_get (k := 14) (v := .ref (L 25)) hx hb hts in_X9_readsOrder_X9 hown hK hQ_204 (by decide) rfl rfl (by decide) lk_X9_readsOrder_f38 rfl dX9_readsOrder_159 ?_
        refine lv_iload_n hx hb dX9_readsOrder_162 rfl (lv_at hl_6 1 rfl) ?_
        refine lv_iconst (v := 2) hx hb dX9_readsOrder_163 (by decide) ?_
        refine lv_iadd hx hb dX9_readsOrder_164 ?_
        refine lv_iload_n hx hb dX9_readsOrder_165 rfl (lv_at hl_6 0 rfl) ?_
        refine lv_bipush (v := 45) hx hb dX9_readsOrder_166 (by decide) ?_
        refine lv_icmp_eq (tgt := 177) hx hb dX9_readsOrder_168 (by decide) (fun _ => ?_) (fun c_205 => absurd (by decide) c_205)
        refine lv_aload_n hx hb dX9_readsOrder_177 rfl (lv_at hl_6 2 rfl) ?_
        replace hf := zi_some hf
        obtain ⟨r_207, X_206, hc_206, hf⟩ := hf
        refine k_ai (va_runV (As := []) (rest := [.int (v_1 + 2), .ref (L 25)]) ⟨hx, hb, hml, hown, hts⟩ (mX9_digit l D L ac hL _  _ _ hc_206) (cwV 0 hts gX9_readsOrder_X9_digit rfl rfl rfl (by decide +kernel) ⟨Nat.le_of_ble_eq_true rfl, Nat.le_of_ble_eq_true rfl⟩) (k_pv (j := 15) hK hN hQ_204 (by decide) rfl rfl _) rfl rfl hl_6.1 rfl (lv_room (Nat.le_of_ble_eq_true rfl)) dX9_readsOrder_178 ⟨Nat.le_of_ble_eq_true rfl, Nat.le_of_ble_eq_true rfl⟩) hA hQ_204 (fun H_208 locs_208 hO_208 => ?_)
        clear hQ_204
        refine lv_goto (tgt := 192) hx hb dX9_readsOrder_181 (by decide) ?_
        replace hf := zd_some hf
        obtain ⟨hi_209, hf⟩ := hf
        refine k_iast hx hb hK hL hA hO_208 (by decide) (by decide) rfl (fun _ => rfl) hi_209 dX9_readsOrder_192 (fun H_211 locs_211 hO_211 => ?_)
        replace hf := zl_some hf
        obtain ⟨X_210, hX_210, hf⟩ := hf
        have hQ_211 := zo_eq hX_210 hO_211
        clear hO_211 hO_208
        refine lv_aload_n hx hb dX9_readsOrder_193 rfl (lv_at hl_6 2 rfl) ?_
        refine k_get (k := 14) (v := .ref (L 25)) hx hb hts in_X9_readsOrder_X9 hown hK hQ_211 (by decide) rfl rfl (by decide) lk_X9_readsOrder_f38 rfl dX9_readsOrder_194 ?_
        refine lv_iload_n hx hb dX9_readsOrder_197 rfl (lv_at hl_6 1 rfl) ?_
        refine lv_iconst (v := 3) hx hb dX9_readsOrder_198 (by decide) ?_
        refine lv_iadd hx hb dX9_readsOrder_199 ?_
        refine lv_iload_n hx hb dX9_readsOrder_200 rfl (lv_at hl_6 0 rfl) ?_
        refine lv_bipush (v := 43) hx hb dX9_readsOrder_201 (by decide) ?_
        refine lv_icmp_ne (tgt := 219) hx hb dX9_readsOrder_203 (by decide) (fun _ => ?_) (fun c_212 => absurd c_212 (by decide))
        refine lv_iconst (v := 0) hx hb dX9_readsOrder_219 (by decide) ?_
        replace hf := zd_some hf
        obtain ⟨hi_213, hf⟩ := hf
        refine k_iast hx hb hK hL hA hQ_211 (by decide) (by decide) rfl (fun _ => rfl) hi_213 dX9_readsOrder_220 (fun H_215 locs_215 hO_215 => ?_)
        replace hf := zl_some hf
        obtain ⟨X_214, hX_214, hf⟩ := hf
        have hQ_215 := zo_eq hX_214 hO_215
        clear hO_215 hQ_211
        refine lv_aload_n hx hb dX9_readsOrder_221 rfl (lv_at hl_6 2 rfl) ?_
        refine lv_dup hx hb dX9_readsOrder_222 rfl ?_
        refine k_get (k := 15) (v := .int (X_214 22 5)) hx hb hts in_X9_readsOrder_X9 hown hK hQ_215 (by decide) rfl rfl (by decide) lk_X9_readsOrder_f208 rfl dX9_readsOrder_223 ?_
        refine lv_aload_n hx hb dX9_readsOrder_226 rfl (lv_at hl_6 2 rfl) ?_
        refine k_get (k := 13) (v := .int (X_214 22 4)) hx hb hts in_X9_readsOrder_X9 hown hK hQ_215 (by decide) rfl rfl (by decide) lk_X9_readsOrder_f201 rfl dX9_readsOrder_227 ?_
        refine lv_if_eq (tgt := 237) hx hb dX9_readsOrder_230 (by decide) (fun c_216 => ?_) (fun c_216 => ?_)
        · rw [if_pos c_216] at hf
          refine lv_iconst (v := 0) hx hb dX9_readsOrder_237 (by decide) ?_
          refine lv_iadd hx hb dX9_readsOrder_238 ?_
          refine k_put (ty := .int) (k := 15) (r := 22) (k' := 5) hx hb tyX9 tyX9_ok nmX9 hts in_X9_readsOrder_X9 hown hK  hL hA hQ_215 (by decide) rfl (by omega) (fun Y => rfl) (by simp [xup]) rfl (by decide) lk_X9_readsOrder_f208 rfl (by decide +kernel) rfl rfl (Nat.le_of_ble_eq_true rfl) dX9_readsOrder_239 (fun H_218 locs_218 hO_218 => ?_)
          replace hf := zl_some hf
          obtain ⟨X_217, hX_217, hf⟩ := hf
          have hQ_218 := zo_eq hX_217 hO_218
          clear hO_218 hQ_215
          obtain rfl := Option.some.inj hf
          exact e_v hx hb hr hK hN hQ_218 hlocks dX9_readsOrder_242
        · rw [if_neg c_216] at hf
          refine lv_iconst (v := 1) hx hb dX9_readsOrder_233 (by decide) ?_
          refine lv_goto (tgt := 238) hx hb dX9_readsOrder_234 (by decide) ?_
          refine lv_iadd hx hb dX9_readsOrder_238 ?_
          refine k_put (ty := .int) (k := 15) (r := 22) (k' := 5) hx hb tyX9 tyX9_ok nmX9 hts in_X9_readsOrder_X9 hown hK  hL hA hQ_215 (by decide) rfl (by omega) (fun Y => rfl) (by simp [xup]) rfl (by decide) lk_X9_readsOrder_f208 rfl (by decide +kernel) rfl rfl (Nat.le_of_ble_eq_true rfl) dX9_readsOrder_239 (fun H_220 locs_220 hO_220 => ?_)
          replace hf := zl_some hf
          obtain ⟨X_219, hX_219, hf⟩ := hf
          have hQ_220 := zo_eq hX_219 hO_220
          clear hO_220 hQ_215
          obtain rfl := Option.some.inj hf
          exact e_v hx hb hr hK hN hQ_220 hlocks dX9_readsOrder_242
      · rw [if_neg c_180] at hf
        refine lv_iconst (v := 1) hx hb dX9_readsOrder_63 (by decide) ?_
        refine lv_goto (tgt := 68) hx hb dX9_readsOrder_64 (by decide) ?_
        refine lv_iadd hx hb dX9_readsOrder_68 ?_
        refine k_put (ty := .int) (k := 12) (r := 22) (k' := 3) hx hb tyX9 tyX9_ok nmX9 hts in_X9_readsOrder_X9 hown hK  hL hA hQ_179 (by decide) rfl (by omega) (fun Y => rfl) (by simp [xup]) rfl (by decide) lk_X9_readsOrder_f198 rfl (by decide +kernel) rfl rfl (Nat.le_of_ble_eq_true rfl) dX9_readsOrder_69 (fun H_222 locs_222 hO_222 => ?_)
        replace hf := zl_some hf
        obtain ⟨X_221, hX_221, hf⟩ := hf
        have hQ_222 := zo_eq hX_221 hO_222
        clear hO_222 hQ_179
        refine lv_aload_n hx hb dX9_readsOrder_72 rfl (lv_at hl_6 2 rfl) ?_
        refine k_get (k := 14) (v := .ref (L 25)) hx hb hts in_X9_readsOrder_X9 hown hK hQ_222 (by decide) rfl rfl (by decide) lk_X9_readsOrder_f38 rfl dX9_readsOrder_73 ?_
        refine lv_iload_n hx hb dX9_readsOrder_76 rfl (lv_at hl_6 1 rfl) ?_
        refine lv_iload_n hx hb dX9_readsOrder_77 rfl (lv_at hl_6 0 rfl) ?_
        replace hf := zd_some hf
        obtain ⟨hi_223, hf⟩ := hf
        refine k_iast hx hb hK hL hA hQ_222 (by decide) (by decide) rfl (fun _ => rfl) hi_223 dX9_readsOrder_78 (fun H_225 locs_225 hO_225 => ?_)
        replace hf := zl_some hf
        obtain ⟨X_224, hX_224, hf⟩ := hf
        have hQ_225 := zo_eq hX_224 hO_225
        clear hO_225 hQ_222
        refine lv_aload_n hx hb dX9_readsOrder_79 rfl (lv_at hl_6 2 rfl) ?_
        refine k_get (k := 14) (v := .ref (L 25)) hx hb hts in_X9_readsOrder_X9 hown hK hQ_225 (by decide) rfl rfl (by decide) lk_X9_readsOrder_f38 rfl dX9_readsOrder_80 ?_
        refine lv_iload_n hx hb dX9_readsOrder_83 rfl (lv_at hl_6 1 rfl) ?_
        refine lv_iconst (v := 1) hx hb dX9_readsOrder_84 (by decide) ?_
        refine lv_iadd hx hb dX9_readsOrder_85 ?_
        refine lv_iload_n hx hb dX9_readsOrder_86 rfl (lv_at hl_6 0 rfl) ?_
        refine lv_bipush (v := 112) hx hb dX9_readsOrder_87 (by decide) ?_
        refine lv_icmp_eq (tgt := 98) hx hb dX9_readsOrder_89 (by decide) (fun c_226 => absurd c_226 (by decide)) (fun _ => ?_)
        refine lv_iload_n hx hb dX9_readsOrder_92 rfl (lv_at hl_6 0 rfl) ?_
        refine lv_bipush (v := 109) hx hb dX9_readsOrder_93 (by decide) ?_
        refine lv_icmp_ne (tgt := 102) hx hb dX9_readsOrder_95 (by decide) (fun _ => ?_) (fun c_227 => absurd c_227 (by decide))
        refine lv_aload_n hx hb dX9_readsOrder_102 rfl (lv_at hl_6 2 rfl) ?_
        replace hf := zi_some hf
        obtain ⟨r_229, X_228, hc_228, hf⟩ := hf
        refine k_ai (va_runV (As := []) (rest := [.int (v_1 + 1), .ref (L 25)]) ⟨hx, hb, hml, hown, hts⟩ (mX9_digit l D L ac hL _  _ _ hc_228) (cwV 0 hts gX9_readsOrder_X9_digit rfl rfl rfl (by decide +kernel) ⟨Nat.le_of_ble_eq_true rfl, Nat.le_of_ble_eq_true rfl⟩) (k_pv (j := 15) hK hN hQ_225 (by decide) rfl rfl _) rfl rfl hl_6.1 rfl (lv_room (Nat.le_of_ble_eq_true rfl)) dX9_readsOrder_103 ⟨Nat.le_of_ble_eq_true rfl, Nat.le_of_ble_eq_true rfl⟩) hA hQ_225 (fun H_230 locs_230 hO_230 => ?_)
        clear hQ_225
        replace hf := zd_some hf
        obtain ⟨hi_231, hf⟩ := hf
        refine k_iast hx hb hK hL hA hO_230 (by decide) (by decide) rfl (fun _ => rfl) hi_231 dX9_readsOrder_106 (fun H_233 locs_233 hO_233 => ?_)
        replace hf := zl_some hf
        obtain ⟨X_232, hX_232, hf⟩ := hf
        have hQ_233 := zo_eq hX_232 hO_233
        clear hO_233 hO_230
        refine lv_aload_n hx hb dX9_readsOrder_107 rfl (lv_at hl_6 2 rfl) ?_
        refine k_get (k := 14) (v := .ref (L 25)) hx hb hts in_X9_readsOrder_X9 hown hK hQ_233 (by decide) rfl rfl (by decide) lk_X9_readsOrder_f38 rfl dX9_readsOrder_108 ?_
        refine lv_iload_n hx hb dX9_readsOrder_111 rfl (lv_at hl_6 1 rfl) ?_
        refine lv_iconst (v := 2) hx hb dX9_readsOrder_112 (by decide) ?_
        refine lv_iadd hx hb dX9_readsOrder_113 ?_
        refine lv_iload_n hx hb dX9_readsOrder_114 rfl (lv_at hl_6 0 rfl) ?_
        refine lv_bipush (v := 43) hx hb dX9_readsOrder_115 (by decide) ?_
        refine lv_icmp_ne (tgt := 140) hx hb dX9_readsOrder_117 (by decide) (fun _ => ?_) (fun c_234 => absurd c_234 (by decide))
        refine lv_iconst (v := 0) hx hb dX9_readsOrder_140 (by decide) ?_
        replace hf := zd_some hf
        obtain ⟨hi_235, hf⟩ := hf
        refine k_iast hx hb hK hL hA hQ_233 (by decide) (by decide) rfl (fun _ => rfl) hi_235 dX9_readsOrder_141 (fun H_237 locs_237 hO_237 => ?_)
        replace hf := zl_some hf
        obtain ⟨X_236, hX_236, hf⟩ := hf
        have hQ_237 := zo_eq hX_236 hO_237
        clear hO_237 hQ_233
        refine lv_iload_n hx hb dX9_readsOrder_142 rfl (lv_at hl_6 0 rfl) ?_
        refine lv_bipush (v := 45) hx hb dX9_readsOrder_143 (by decide) ?_
        refine lv_icmp_ne (tgt := 158) hx hb dX9_readsOrder_145 (by decide) (fun c_238 => absurd (by decide) c_238) (fun _ => ?_)
        refine lv_aload_n hx hb dX9_readsOrder_148 rfl (lv_at hl_6 2 rfl) ?_
        refine lv_aload_n hx hb dX9_readsOrder_149 rfl (lv_at hl_6 2 rfl) ?_
        refine lv_bipush (v := 46) hx hb dX9_readsOrder_150 (by decide) ?_
        replace hf := zi_some hf
        obtain ⟨r_240, X_239, hc_239, hf⟩ := hf
        refine k_ai (va_runV (As := [.int 46]) (rest := [.ref (L 15)]) ⟨hx, hb, hml, hown, hts⟩ (mX9_hasSign l D L ac hL _ 46 _ _ hc_239) (cwV 1 hts gX9_readsOrder_X9_hasSign rfl rfl rfl (by decide +kernel) ⟨Nat.le_of_ble_eq_true rfl, Nat.le_of_ble_eq_true rfl⟩) (k_pv (j := 15) hK hN hQ_237 (by decide) rfl rfl _) rfl rfl hl_6.1 rfl (lv_room (Nat.le_of_ble_eq_true rfl)) dX9_readsOrder_152 ⟨Nat.le_of_ble_eq_true rfl, Nat.le_of_ble_eq_true rfl⟩) hA hQ_237 (fun H_241 locs_241 hO_241 => ?_)
        clear hQ_237
        replace hf := zb_some hf
        obtain ⟨hb_242, hf⟩ := hf
        refine k_put (ty := .boolean) (k := 13) (r := 22) (k' := 4) hx hb tyX9 tyX9_ok nmX9 hts in_X9_readsOrder_X9 hown hK  hL hA hO_241 (by decide) rfl (by omega) (fun Y => rfl) (by simp [xup]) rfl (by decide) lk_X9_readsOrder_f201 rfl (by decide +kernel) (bo_n hb_242) (bo_f hb_242) (Nat.le_of_ble_eq_true rfl) dX9_readsOrder_155 (fun H_244 locs_244 hO_244 => ?_)
        replace hf := zl_some hf
        obtain ⟨X_243, hX_243, hf⟩ := hf
        have hQ_244 := zo_eq hX_243 hO_244
        clear hO_244 hO_241
        refine lv_aload_n hx hb dX9_readsOrder_158 rfl (lv_at hl_6 2 rfl) ?_
        refine k_get (k := 14) (v := .ref (L 25)) hx hb hts in_X9_readsOrder_X9 hown hK hQ_244 (by decide) rfl rfl (by decide) lk_X9_readsOrder_f38 rfl dX9_readsOrder_159 ?_
        refine lv_iload_n hx hb dX9_readsOrder_162 rfl (lv_at hl_6 1 rfl) ?_
        refine lv_iconst (v := 2) hx hb dX9_readsOrder_163 (by decide) ?_
        refine lv_iadd hx hb dX9_readsOrder_164 ?_
        refine lv_iload_n hx hb dX9_readsOrder_165 rfl (lv_at hl_6 0 rfl) ?_
        refine lv_bipush (v := 45) hx hb dX9_readsOrder_166 (by decide) ?_
        refine lv_icmp_eq (tgt := 177) hx hb dX9_readsOrder_168 (by decide) (fun _ => ?_) (fun c_245 => absurd (by decide) c_245)
        refine lv_aload_n hx hb dX9_readsOrder_177 rfl (lv_at hl_6 2 rfl) ?_
        replace hf := zi_some hf
        obtain ⟨r_247, X_246, hc_246, hf⟩ := hf
        refine k_ai (va_runV (As := []) (rest := [.int (v_1 + 2), .ref (L 25)]) ⟨hx, hb, hml, hown, hts⟩ (mX9_digit l D L ac hL _  _ _ hc_246) (cwV 0 hts gX9_readsOrder_X9_digit rfl rfl rfl (by decide +kernel) ⟨Nat.le_of_ble_eq_true rfl, Nat.le_of_ble_eq_true rfl⟩) (k_pv (j := 15) hK hN hQ_244 (by decide) rfl rfl _) rfl rfl hl_6.1 rfl (lv_room (Nat.le_of_ble_eq_true rfl)) dX9_readsOrder_178 ⟨Nat.le_of_ble_eq_true rfl, Nat.le_of_ble_eq_true rfl⟩) hA hQ_244 (fun H_248 locs_248 hO_248 => ?_)
        clear hQ_244
        refine lv_goto (tgt := 192) hx hb dX9_readsOrder_181 (by decide) ?_
        replace hf := zd_some hf
        obtain ⟨hi_249, hf⟩ := hf
        refine k_iast hx hb hK hL hA hO_248 (by decide) (by decide) rfl (fun _ => rfl) hi_249 dX9_readsOrder_192 (fun H_251 locs_251 hO_251 => ?_)
        replace hf := zl_some hf
        obtain ⟨X_250, hX_250, hf⟩ := hf
        have hQ_251 := zo_eq hX_250 hO_251
        clear hO_251 hO_248
        refine lv_aload_n hx hb dX9_readsOrder_193 rfl (lv_at hl_6 2 rfl) ?_
        refine k_get (k := 14) (v := .ref (L 25)) hx hb hts in_X9_readsOrder_X9 hown hK hQ_251 (by decide) rfl rfl (by decide) lk_X9_readsOrder_f38 rfl dX9_readsOrder_194 ?_
        refine lv_iload_n hx hb dX9_readsOrder_197 rfl (lv_at hl_6 1 rfl) ?_
        refine lv_iconst (v := 3) hx hb dX9_readsOrder_198 (by decide) ?_
        refine lv_iadd hx hb dX9_readsOrder_199 ?_
        refine lv_iload_n hx hb dX9_readsOrder_200 rfl (lv_at hl_6 0 rfl) ?_
        refine lv_bipush (v := 43) hx hb dX9_readsOrder_201 (by decide) ?_
        refine lv_icmp_ne (tgt := 219) hx hb dX9_readsOrder_203 (by decide) (fun _ => ?_) (fun c_252 => absurd c_252 (by decide))
        refine lv_iconst (v := 0) hx hb dX9_readsOrder_219 (by decide) ?_
        replace hf := zd_some hf
        obtain ⟨hi_253, hf⟩ := hf
        refine k_iast hx hb hK hL hA hQ_251 (by decide) (by decide) rfl (fun _ => rfl) hi_253 dX9_readsOrder_220 (fun H_255 locs_255 hO_255 => ?_)
        replace hf := zl_some hf
        obtain ⟨X_254, hX_254, hf⟩ := hf
        have hQ_255 := zo_eq hX_254 hO_255
        clear hO_255 hQ_251
        refine lv_aload_n hx hb dX9_readsOrder_221 rfl (lv_at hl_6 2 rfl) ?_
        refine lv_dup hx hb dX9_readsOrder_222 rfl ?_
        refine k_get (k := 15) (v := .int (X_254 22 5)) hx hb hts in_X9_readsOrder_X9 hown hK hQ_255 (by decide) rfl rfl (by decide) lk_X9_readsOrder_f208 rfl dX9_readsOrder_223 ?_
        refine lv_aload_n hx hb dX9_readsOrder_226 rfl (lv_at hl_6 2 rfl) ?_
        refine k_get (k := 13) (v := .int (X_254 22 4)) hx hb hts in_X9_readsOrder_X9 hown hK hQ_255 (by decide) rfl rfl (by decide) lk_X9_readsOrder_f201 rfl dX9_readsOrder_227 ?_
        refine lv_if_eq (tgt := 237) hx hb dX9_readsOrder_230 (by decide) (fun c_256 => ?_) (fun c_256 => ?_)
        · rw [if_pos c_256] at hf
          refine lv_iconst (v := 0) hx hb dX9_readsOrder_237 (by decide) ?_
          refine lv_iadd hx hb dX9_readsOrder_238 ?_
          refine k_put (ty := .int) (k := 15) (r := 22) (k' := 5) hx hb tyX9 tyX9_ok nmX9 hts in_X9_readsOrder_X9 hown hK  hL hA hQ_255 (by decide) rfl (by omega) (fun Y => rfl) (by simp [xup]) rfl (by decide) lk_X9_readsOrder_f208 rfl (by decide +kernel) rfl rfl (Nat.le_of_ble_eq_true rfl) dX9_readsOrder_239 (fun H_258 locs_258 hO_258 => ?_)
          replace hf := zl_some hf
          obtain ⟨X_257, hX_257, hf⟩ := hf
          have hQ_258 := zo_eq hX_257 hO_258
          clear hO_258 hQ_255
          obtain rfl := Option.some.inj hf
          exact e_v hx hb hr hK hN hQ_258 hlocks dX9_readsOrder_242
        · rw [if_neg c_256] at hf
          refine lv_iconst (v := 1) hx hb dX9_readsOrder_233 (by decide) ?_
          refine lv_goto (tgt := 238) hx hb dX9_readsOrder_234 (by decide) ?_
          refine lv_iadd hx hb dX9_readsOrder_238 ?_
          refine k_put (ty := .int) (k := 15) (r := 22) (k' := 5) hx hb tyX9 tyX9_ok nmX9 hts in_X9_readsOrder_X9 hown hK  hL hA hQ_255 (by decide) rfl (by omega) (fun Y => rfl) (by simp [xup]) rfl (by decide) lk_X9_readsOrder_f208 rfl (by decide +kernel) rfl rfl (Nat.le_of_ble_eq_true rfl) dX9_readsOrder_239 (fun H_260 locs_260 hO_260 => ?_)
          replace hf := zl_some hf
          obtain ⟨X_259, hX_259, hf⟩ := hf
          have hQ_260 := zo_eq hX_259 hO_260
          clear hO_260 hQ_255
          obtain rfl := Option.some.inj hf
          exact e_v hx hb hr hK hN hQ_260 hlocks dX9_readsOrder_242
    · rw [if_neg c_177] at hf
      refine lv_iload_n hx hb dX9_readsOrder_25 rfl (lv_at hl_6 0 rfl) ?_
      refine lv_bipush (v := 112) hx hb dX9_readsOrder_26 (by decide) ?_
      refine lv_icmp_eq (tgt := 43) hx hb dX9_readsOrder_28 (by decide) (fun c_261 => ?_) (fun c_261 => ?_)
      · rw [if_pos c_261] at hf
        subst c_261
        refine lv_iconst (v := 1) hx hb dX9_readsOrder_43 (by decide) ?_
        refine lv_goto (tgt := 48) hx hb dX9_readsOrder_44 (by decide) ?_
        refine k_put (ty := .boolean) (k := 13) (r := 22) (k' := 4) hx hb tyX9 tyX9_ok nmX9 hts in_X9_readsOrder_X9 hown hK  hL hA hO_5 (by decide) rfl (by omega) (fun Y => rfl) (by simp [xup]) rfl (by decide) lk_X9_readsOrder_f201 rfl (by decide +kernel) (bo_n (by decide)) (bo_f (by decide)) (Nat.le_of_ble_eq_true rfl) dX9_readsOrder_48 (fun H_263 locs_263 hO_263 => ?_)
        replace hf := zl_some hf
        obtain ⟨X_262, hX_262, hf⟩ := hf
        have hQ_263 := zo_eq hX_262 hO_263
        clear hO_263 hO_5
        refine lv_aload_n hx hb dX9_readsOrder_51 rfl (lv_at hl_6 2 rfl) ?_
        refine lv_dup hx hb dX9_readsOrder_52 rfl ?_
        refine k_get (k := 12) (v := .int (X_262 22 3)) hx hb hts in_X9_readsOrder_X9 hown hK hQ_263 (by decide) rfl rfl (by decide) lk_X9_readsOrder_f198 rfl dX9_readsOrder_53 ?_
        refine lv_aload_n hx hb dX9_readsOrder_56 rfl (lv_at hl_6 2 rfl) ?_
        refine k_get (k := 13) (v := .int (X_262 22 4)) hx hb hts in_X9_readsOrder_X9 hown hK hQ_263 (by decide) rfl rfl (by decide) lk_X9_readsOrder_f201 rfl dX9_readsOrder_57 ?_
        refine lv_if_eq (tgt := 67) hx hb dX9_readsOrder_60 (by decide) (fun c_264 => ?_) (fun c_264 => ?_)
        · rw [if_pos c_264] at hf
          refine lv_iconst (v := 0) hx hb dX9_readsOrder_67 (by decide) ?_
          refine lv_iadd hx hb dX9_readsOrder_68 ?_
          refine k_put (ty := .int) (k := 12) (r := 22) (k' := 3) hx hb tyX9 tyX9_ok nmX9 hts in_X9_readsOrder_X9 hown hK  hL hA hQ_263 (by decide) rfl (by omega) (fun Y => rfl) (by simp [xup]) rfl (by decide) lk_X9_readsOrder_f198 rfl (by decide +kernel) rfl rfl (Nat.le_of_ble_eq_true rfl) dX9_readsOrder_69 (fun H_266 locs_266 hO_266 => ?_)
          replace hf := zl_some hf
          obtain ⟨X_265, hX_265, hf⟩ := hf
          have hQ_266 := zo_eq hX_265 hO_266
          clear hO_266 hQ_263
          refine lv_aload_n hx hb dX9_readsOrder_72 rfl (lv_at hl_6 2 rfl) ?_
          refine k_get (k := 14) (v := .ref (L 25)) hx hb hts in_X9_readsOrder_X9 hown hK hQ_266 (by decide) rfl rfl (by decide) lk_X9_readsOrder_f38 rfl dX9_readsOrder_73 ?_
          refine lv_iload_n hx hb dX9_readsOrder_76 rfl (lv_at hl_6 1 rfl) ?_
          refine lv_iload_n hx hb dX9_readsOrder_77 rfl (lv_at hl_6 0 rfl) ?_
          replace hf := zd_some hf
          obtain ⟨hi_267, hf⟩ := hf
          refine k_iast hx hb hK hL hA hQ_266 (by decide) (by decide) rfl (fun _ => rfl) hi_267 dX9_readsOrder_78 (fun H_269 locs_269 hO_269 => ?_)
          replace hf := zl_some hf
          obtain ⟨X_268, hX_268, hf⟩ := hf
          have hQ_269 := zo_eq hX_268 hO_269
          clear hO_269 hQ_266
          refine lv_aload_n hx hb dX9_readsOrder_79 rfl (lv_at hl_6 2 rfl) ?_
          refine k_get (k := 14) (v := .ref (L 25)) hx hb hts in_X9_readsOrder_X9 hown hK hQ_269 (by decide) rfl rfl (by decide) lk_X9_readsOrder_f38 rfl dX9_readsOrder_80 ?_
          refine lv_iload_n hx hb dX9_readsOrder_83 rfl (lv_at hl_6 1 rfl) ?_
          refine lv_iconst (v := 1) hx hb dX9_readsOrder_84 (by decide) ?_
          refine lv_iadd hx hb dX9_readsOrder_85 ?_
          refine lv_iload_n hx hb dX9_readsOrder_86 rfl (lv_at hl_6 0 rfl) ?_
          refine lv_bipush (v := 112) hx hb dX9_readsOrder_87 (by decide) ?_
          refine lv_icmp_eq (tgt := 98) hx hb dX9_readsOrder_89 (by decide) (fun _ => ?_) (fun c_270 => absurd (by decide) c_270)
          refine lv_iconst (v := 0) hx hb dX9_readsOrder_98 (by decide) ?_
          refine lv_goto (tgt := 106) hx hb dX9_readsOrder_99 (by decide) ?_
          replace hf := zd_some hf
          obtain ⟨hi_271, hf⟩ := hf
          refine k_iast hx hb hK hL hA hQ_269 (by decide) (by decide) rfl (fun _ => rfl) hi_271 dX9_readsOrder_106 (fun H_273 locs_273 hO_273 => ?_)
          replace hf := zl_some hf
          obtain ⟨X_272, hX_272, hf⟩ := hf
          have hQ_273 := zo_eq hX_272 hO_273
          clear hO_273 hQ_269
          refine lv_aload_n hx hb dX9_readsOrder_107 rfl (lv_at hl_6 2 rfl) ?_
          refine k_get (k := 14) (v := .ref (L 25)) hx hb hts in_X9_readsOrder_X9 hown hK hQ_273 (by decide) rfl rfl (by decide) lk_X9_readsOrder_f38 rfl dX9_readsOrder_108 ?_
          refine lv_iload_n hx hb dX9_readsOrder_111 rfl (lv_at hl_6 1 rfl) ?_
          refine lv_iconst (v := 2) hx hb dX9_readsOrder_112 (by decide) ?_
          refine lv_iadd hx hb dX9_readsOrder_113 ?_
          refine lv_iload_n hx hb dX9_readsOrder_114 rfl (lv_at hl_6 0 rfl) ?_
          refine lv_bipush (v := 43) hx hb dX9_readsOrder_115 (by decide) ?_
          refine lv_icmp_ne (tgt := 140) hx hb dX9_readsOrder_117 (by decide) (fun _ => ?_) (fun c_274 => absurd c_274 (by decide))
          refine lv_iconst (v := 0) hx hb dX9_readsOrder_140 (by decide) ?_
          replace hf := zd_some hf
          obtain ⟨hi_275, hf⟩ := hf
          refine k_iast hx hb hK hL hA hQ_273 (by decide) (by decide) rfl (fun _ => rfl) hi_275 dX9_readsOrder_141 (fun H_277 locs_277 hO_277 => ?_)
          replace hf := zl_some hf
          obtain ⟨X_276, hX_276, hf⟩ := hf
          have hQ_277 := zo_eq hX_276 hO_277
          clear hO_277 hQ_273
          refine lv_iload_n hx hb dX9_readsOrder_142 rfl (lv_at hl_6 0 rfl) ?_
          refine lv_bipush (v := 45) hx hb dX9_readsOrder_143 (by decide) ?_
          refine lv_icmp_ne (tgt := 158) hx hb dX9_readsOrder_145 (by decide) (fun _ => ?_) (fun c_278 => absurd c_278 (by decide))
          refine lv_aload_n hx hb dX9_readsOrder_158 rfl (lv_at hl_6 2 rfl) ?_
          refine k_get (k := 14) (v := .ref (L 25)) hx hb hts in_X9_readsOrder_X9 hown hK hQ_277 (by decide) rfl rfl (by decide) lk_X9_readsOrder_f38 rfl dX9_readsOrder_159 ?_
          refine lv_iload_n hx hb dX9_readsOrder_162 rfl (lv_at hl_6 1 rfl) ?_
          refine lv_iconst (v := 2) hx hb dX9_readsOrder_163 (by decide) ?_
          refine lv_iadd hx hb dX9_readsOrder_164 ?_
          refine lv_iload_n hx hb dX9_readsOrder_165 rfl (lv_at hl_6 0 rfl) ?_
          refine lv_bipush (v := 45) hx hb dX9_readsOrder_166 (by decide) ?_
          refine lv_icmp_eq (tgt := 177) hx hb dX9_readsOrder_168 (by decide) (fun c_279 => absurd c_279 (by decide)) (fun _ => ?_)
          refine lv_iload_n hx hb dX9_readsOrder_171 rfl (lv_at hl_6 0 rfl) ?_
          refine lv_bipush (v := 114) hx hb dX9_readsOrder_172 (by decide) ?_
          refine lv_icmp_ne (tgt := 184) hx hb dX9_readsOrder_174 (by decide) (fun _ => ?_) (fun c_280 => absurd c_280 (by decide))
          refine lv_aload_n hx hb dX9_readsOrder_184 rfl (lv_at hl_6 2 rfl) ?_
          refine k_get (k := 14) (v := .ref (L 25)) hx hb hts in_X9_readsOrder_X9 hown hK hQ_277 (by decide) rfl rfl (by decide) lk_X9_readsOrder_f38 rfl dX9_readsOrder_185 ?_
          refine lv_iload_n hx hb dX9_readsOrder_188 rfl (lv_at hl_6 1 rfl) ?_
          refine lv_iconst (v := 2) hx hb dX9_readsOrder_189 (by decide) ?_
          refine lv_iadd hx hb dX9_readsOrder_190 ?_
          replace hf := zd_some hf
          obtain ⟨hi_281, hf⟩ := hf
          refine k_iald hx hb hK hQ_277 (by decide) (fun _ => rfl) hi_281 dX9_readsOrder_191 ?_
          replace hf := zd_some hf
          obtain ⟨hi_282, hf⟩ := hf
          refine k_iast hx hb hK hL hA hQ_277 (by decide) (by decide) rfl (fun _ => rfl) hi_282 dX9_readsOrder_192 (fun H_284 locs_284 hO_284 => ?_)
          replace hf := zl_some hf
          obtain ⟨X_283, hX_283, hf⟩ := hf
          have hQ_284 := zo_eq hX_283 hO_284
          clear hO_284 hQ_277
          refine lv_aload_n hx hb dX9_readsOrder_193 rfl (lv_at hl_6 2 rfl) ?_
          refine k_get (k := 14) (v := .ref (L 25)) hx hb hts in_X9_readsOrder_X9 hown hK hQ_284 (by decide) rfl rfl (by decide) lk_X9_readsOrder_f38 rfl dX9_readsOrder_194 ?_
          refine lv_iload_n hx hb dX9_readsOrder_197 rfl (lv_at hl_6 1 rfl) ?_
          refine lv_iconst (v := 3) hx hb dX9_readsOrder_198 (by decide) ?_
          refine lv_iadd hx hb dX9_readsOrder_199 ?_
          refine lv_iload_n hx hb dX9_readsOrder_200 rfl (lv_at hl_6 0 rfl) ?_
          refine lv_bipush (v := 43) hx hb dX9_readsOrder_201 (by decide) ?_
          refine lv_icmp_ne (tgt := 219) hx hb dX9_readsOrder_203 (by decide) (fun _ => ?_) (fun c_285 => absurd c_285 (by decide))
          refine lv_iconst (v := 0) hx hb dX9_readsOrder_219 (by decide) ?_
          replace hf := zd_some hf
          obtain ⟨hi_286, hf⟩ := hf
          refine k_iast hx hb hK hL hA hQ_284 (by decide) (by decide) rfl (fun _ => rfl) hi_286 dX9_readsOrder_220 (fun H_288 locs_288 hO_288 => ?_)
          replace hf := zl_some hf
          obtain ⟨X_287, hX_287, hf⟩ := hf
          have hQ_288 := zo_eq hX_287 hO_288
          clear hO_288 hQ_284
          refine lv_aload_n hx hb dX9_readsOrder_221 rfl (lv_at hl_6 2 rfl) ?_
          refine lv_dup hx hb dX9_readsOrder_222 rfl ?_
          refine k_get (k := 15) (v := .int (X_287 22 5)) hx hb hts in_X9_readsOrder_X9 hown hK hQ_288 (by decide) rfl rfl (by decide) lk_X9_readsOrder_f208 rfl dX9_readsOrder_223 ?_
          refine lv_aload_n hx hb dX9_readsOrder_226 rfl (lv_at hl_6 2 rfl) ?_
          refine k_get (k := 13) (v := .int (X_287 22 4)) hx hb hts in_X9_readsOrder_X9 hown hK hQ_288 (by decide) rfl rfl (by decide) lk_X9_readsOrder_f201 rfl dX9_readsOrder_227 ?_
          refine lv_if_eq (tgt := 237) hx hb dX9_readsOrder_230 (by decide) (fun c_289 => ?_) (fun c_289 => ?_)
          · rw [if_pos c_289] at hf
            refine lv_iconst (v := 0) hx hb dX9_readsOrder_237 (by decide) ?_
            refine lv_iadd hx hb dX9_readsOrder_238 ?_
            refine k_put (ty := .int) (k := 15) (r := 22) (k' := 5) hx hb tyX9 tyX9_ok nmX9 hts in_X9_readsOrder_X9 hown hK  hL hA hQ_288 (by decide) rfl (by omega) (fun Y => rfl) (by simp [xup]) rfl (by decide) lk_X9_readsOrder_f208 rfl (by decide +kernel) rfl rfl (Nat.le_of_ble_eq_true rfl) dX9_readsOrder_239 (fun H_291 locs_291 hO_291 => ?_)
            replace hf := zl_some hf
            obtain ⟨X_290, hX_290, hf⟩ := hf
            have hQ_291 := zo_eq hX_290 hO_291
            clear hO_291 hQ_288
            obtain rfl := Option.some.inj hf
            exact e_v hx hb hr hK hN hQ_291 hlocks dX9_readsOrder_242
          · rw [if_neg c_289] at hf
            refine lv_iconst (v := 1) hx hb dX9_readsOrder_233 (by decide) ?_
            refine lv_goto (tgt := 238) hx hb dX9_readsOrder_234 (by decide) ?_
            refine lv_iadd hx hb dX9_readsOrder_238 ?_
            refine k_put (ty := .int) (k := 15) (r := 22) (k' := 5) hx hb tyX9 tyX9_ok nmX9 hts in_X9_readsOrder_X9 hown hK  hL hA hQ_288 (by decide) rfl (by omega) (fun Y => rfl) (by simp [xup]) rfl (by decide) lk_X9_readsOrder_f208 rfl (by decide +kernel) rfl rfl (Nat.le_of_ble_eq_true rfl) dX9_readsOrder_239 (fun H_293 locs_293 hO_293 => ?_)
            replace hf := zl_some hf
            obtain ⟨X_292, hX_292, hf⟩ := hf
            have hQ_293 := zo_eq hX_292 hO_293
            clear hO_293 hQ_288
            obtain rfl := Option.some.inj hf
            exact e_v hx hb hr hK hN hQ_293 hlocks dX9_readsOrder_242
        · rw [if_neg c_264] at hf
          refine lv_iconst (v := 1) hx hb dX9_readsOrder_63 (by decide) ?_
          refine lv_goto (tgt := 68) hx hb dX9_readsOrder_64 (by decide) ?_
          refine lv_iadd hx hb dX9_readsOrder_68 ?_
          refine k_put (ty := .int) (k := 12) (r := 22) (k' := 3) hx hb tyX9 tyX9_ok nmX9 hts in_X9_readsOrder_X9 hown hK  hL hA hQ_263 (by decide) rfl (by omega) (fun Y => rfl) (by simp [xup]) rfl (by decide) lk_X9_readsOrder_f198 rfl (by decide +kernel) rfl rfl (Nat.le_of_ble_eq_true rfl) dX9_readsOrder_69 (fun H_295 locs_295 hO_295 => ?_)
          replace hf := zl_some hf
          obtain ⟨X_294, hX_294, hf⟩ := hf
          have hQ_295 := zo_eq hX_294 hO_295
          clear hO_295 hQ_263
          refine lv_aload_n hx hb dX9_readsOrder_72 rfl (lv_at hl_6 2 rfl) ?_
          refine k_get (k := 14) (v := .ref (L 25)) hx hb hts in_X9_readsOrder_X9 hown hK hQ_295 (by decide) rfl rfl (by decide) lk_X9_readsOrder_f38 rfl dX9_readsOrder_73 ?_
          refine lv_iload_n hx hb dX9_readsOrder_76 rfl (lv_at hl_6 1 rfl) ?_
          refine lv_iload_n hx hb dX9_readsOrder_77 rfl (lv_at hl_6 0 rfl) ?_
          replace hf := zd_some hf
          obtain ⟨hi_296, hf⟩ := hf
          refine k_iast hx hb hK hL hA hQ_295 (by decide) (by decide) rfl (fun _ => rfl) hi_296 dX9_readsOrder_78 (fun H_298 locs_298 hO_298 => ?_)
          replace hf := zl_some hf
          obtain ⟨X_297, hX_297, hf⟩ := hf
          have hQ_298 := zo_eq hX_297 hO_298
          clear hO_298 hQ_295
          refine lv_aload_n hx hb dX9_readsOrder_79 rfl (lv_at hl_6 2 rfl) ?_
          refine k_get (k := 14) (v := .ref (L 25)) hx hb hts in_X9_readsOrder_X9 hown hK hQ_298 (by decide) rfl rfl (by decide) lk_X9_readsOrder_f38 rfl dX9_readsOrder_80 ?_
          refine lv_iload_n hx hb dX9_readsOrder_83 rfl (lv_at hl_6 1 rfl) ?_
          refine lv_iconst (v := 1) hx hb dX9_readsOrder_84 (by decide) ?_
          refine lv_iadd hx hb dX9_readsOrder_85 ?_
          refine lv_iload_n hx hb dX9_readsOrder_86 rfl (lv_at hl_6 0 rfl) ?_
          refine lv_bipush (v := 112) hx hb dX9_readsOrder_87 (by decide) ?_
          refine lv_icmp_eq (tgt := 98) hx hb dX9_readsOrder_89 (by decide) (fun _ => ?_) (fun c_299 => absurd (by decide) c_299)
          refine lv_iconst (v := 0) hx hb dX9_readsOrder_98 (by decide) ?_
          refine lv_goto (tgt := 106) hx hb dX9_readsOrder_99 (by decide) ?_
          replace hf := zd_some hf
          obtain ⟨hi_300, hf⟩ := hf
          refine k_iast hx hb hK hL hA hQ_298 (by decide) (by decide) rfl (fun _ => rfl) hi_300 dX9_readsOrder_106 (fun H_302 locs_302 hO_302 => ?_)
          replace hf := zl_some hf
          obtain ⟨X_301, hX_301, hf⟩ := hf
          have hQ_302 := zo_eq hX_301 hO_302
          clear hO_302 hQ_298
          refine lv_aload_n hx hb dX9_readsOrder_107 rfl (lv_at hl_6 2 rfl) ?_
          refine k_get (k := 14) (v := .ref (L 25)) hx hb hts in_X9_readsOrder_X9 hown hK hQ_302 (by decide) rfl rfl (by decide) lk_X9_readsOrder_f38 rfl dX9_readsOrder_108 ?_
          refine lv_iload_n hx hb dX9_readsOrder_111 rfl (lv_at hl_6 1 rfl) ?_
          refine lv_iconst (v := 2) hx hb dX9_readsOrder_112 (by decide) ?_
          refine lv_iadd hx hb dX9_readsOrder_113 ?_
          refine lv_iload_n hx hb dX9_readsOrder_114 rfl (lv_at hl_6 0 rfl) ?_
          refine lv_bipush (v := 43) hx hb dX9_readsOrder_115 (by decide) ?_
          refine lv_icmp_ne (tgt := 140) hx hb dX9_readsOrder_117 (by decide) (fun _ => ?_) (fun c_303 => absurd c_303 (by decide))
          refine lv_iconst (v := 0) hx hb dX9_readsOrder_140 (by decide) ?_
          replace hf := zd_some hf
          obtain ⟨hi_304, hf⟩ := hf
          refine k_iast hx hb hK hL hA hQ_302 (by decide) (by decide) rfl (fun _ => rfl) hi_304 dX9_readsOrder_141 (fun H_306 locs_306 hO_306 => ?_)
          replace hf := zl_some hf
          obtain ⟨X_305, hX_305, hf⟩ := hf
          have hQ_306 := zo_eq hX_305 hO_306
          clear hO_306 hQ_302
          refine lv_iload_n hx hb dX9_readsOrder_142 rfl (lv_at hl_6 0 rfl) ?_
          refine lv_bipush (v := 45) hx hb dX9_readsOrder_143 (by decide) ?_
          refine lv_icmp_ne (tgt := 158) hx hb dX9_readsOrder_145 (by decide) (fun _ => ?_) (fun c_307 => absurd c_307 (by decide))
          refine lv_aload_n hx hb dX9_readsOrder_158 rfl (lv_at hl_6 2 rfl) ?_
          refine k_get (k := 14) (v := .ref (L 25)) hx hb hts in_X9_readsOrder_X9 hown hK hQ_306 (by decide) rfl rfl (by decide) lk_X9_readsOrder_f38 rfl dX9_readsOrder_159 ?_
          refine lv_iload_n hx hb dX9_readsOrder_162 rfl (lv_at hl_6 1 rfl) ?_
          refine lv_iconst (v := 2) hx hb dX9_readsOrder_163 (by decide) ?_
          refine lv_iadd hx hb dX9_readsOrder_164 ?_
          refine lv_iload_n hx hb dX9_readsOrder_165 rfl (lv_at hl_6 0 rfl) ?_
          refine lv_bipush (v := 45) hx hb dX9_readsOrder_166 (by decide) ?_
          refine lv_icmp_eq (tgt := 177) hx hb dX9_readsOrder_168 (by decide) (fun c_308 => absurd c_308 (by decide)) (fun _ => ?_)
          refine lv_iload_n hx hb dX9_readsOrder_171 rfl (lv_at hl_6 0 rfl) ?_
          refine lv_bipush (v := 114) hx hb dX9_readsOrder_172 (by decide) ?_
          refine lv_icmp_ne (tgt := 184) hx hb dX9_readsOrder_174 (by decide) (fun _ => ?_) (fun c_309 => absurd c_309 (by decide))
          refine lv_aload_n hx hb dX9_readsOrder_184 rfl (lv_at hl_6 2 rfl) ?_
          refine k_get (k := 14) (v := .ref (L 25)) hx hb hts in_X9_readsOrder_X9 hown hK hQ_306 (by decide) rfl rfl (by decide) lk_X9_readsOrder_f38 rfl dX9_readsOrder_185 ?_
          refine lv_iload_n hx hb dX9_readsOrder_188 rfl (lv_at hl_6 1 rfl) ?_
          refine lv_iconst (v := 2) hx hb dX9_readsOrder_189 (by decide) ?_
          refine lv_iadd hx hb dX9_readsOrder_190 ?_
          replace hf := zd_some hf
          obtain ⟨hi_310, hf⟩ := hf
          refine k_iald hx hb hK hQ_306 (by decide) (fun _ => rfl) hi_310 dX9_readsOrder_191 ?_
          replace hf := zd_some hf
          obtain ⟨hi_311, hf⟩ := hf
          refine k_iast hx hb hK hL hA hQ_306 (by decide) (by decide) rfl (fun _ => rfl) hi_311 dX9_readsOrder_192 (fun H_313 locs_313 hO_313 => ?_)
          replace hf := zl_some hf
          obtain ⟨X_312, hX_312, hf⟩ := hf
          have hQ_313 := zo_eq hX_312 hO_313
          clear hO_313 hQ_306
          refine lv_aload_n hx hb dX9_readsOrder_193 rfl (lv_at hl_6 2 rfl) ?_
          refine k_get (k := 14) (v := .ref (L 25)) hx hb hts in_X9_readsOrder_X9 hown hK hQ_313 (by decide) rfl rfl (by decide) lk_X9_readsOrder_f38 rfl dX9_readsOrder_194 ?_
          refine lv_iload_n hx hb dX9_readsOrder_197 rfl (lv_at hl_6 1 rfl) ?_
          refine lv_iconst (v := 3) hx hb dX9_readsOrder_198 (by decide) ?_
          refine lv_iadd hx hb dX9_readsOrder_199 ?_
          refine lv_iload_n hx hb dX9_readsOrder_200 rfl (lv_at hl_6 0 rfl) ?_
          refine lv_bipush (v := 43) hx hb dX9_readsOrder_201 (by decide) ?_
          refine lv_icmp_ne (tgt := 219) hx hb dX9_readsOrder_203 (by decide) (fun _ => ?_) (fun c_314 => absurd c_314 (by decide))
          refine lv_iconst (v := 0) hx hb dX9_readsOrder_219 (by decide) ?_
          replace hf := zd_some hf
          obtain ⟨hi_315, hf⟩ := hf
          refine k_iast hx hb hK hL hA hQ_313 (by decide) (by decide) rfl (fun _ => rfl) hi_315 dX9_readsOrder_220 (fun H_317 locs_317 hO_317 => ?_)
          replace hf := zl_some hf
          obtain ⟨X_316, hX_316, hf⟩ := hf
          have hQ_317 := zo_eq hX_316 hO_317
          clear hO_317 hQ_313
          refine lv_aload_n hx hb dX9_readsOrder_221 rfl (lv_at hl_6 2 rfl) ?_
          refine lv_dup hx hb dX9_readsOrder_222 rfl ?_
          refine k_get (k := 15) (v := .int (X_316 22 5)) hx hb hts in_X9_readsOrder_X9 hown hK hQ_317 (by decide) rfl rfl (by decide) lk_X9_readsOrder_f208 rfl dX9_readsOrder_223 ?_
          refine lv_aload_n hx hb dX9_readsOrder_226 rfl (lv_at hl_6 2 rfl) ?_
          refine k_get (k := 13) (v := .int (X_316 22 4)) hx hb hts in_X9_readsOrder_X9 hown hK hQ_317 (by decide) rfl rfl (by decide) lk_X9_readsOrder_f201 rfl dX9_readsOrder_227 ?_
          refine lv_if_eq (tgt := 237) hx hb dX9_readsOrder_230 (by decide) (fun c_318 => ?_) (fun c_318 => ?_)
          · rw [if_pos c_318] at hf
            refine lv_iconst (v := 0) hx hb dX9_readsOrder_237 (by decide) ?_
            refine lv_iadd hx hb dX9_readsOrder_238 ?_
            refine k_put (ty := .int) (k := 15) (r := 22) (k' := 5) hx hb tyX9 tyX9_ok nmX9 hts in_X9_readsOrder_X9 hown hK  hL hA hQ_317 (by decide) rfl (by omega) (fun Y => rfl) (by simp [xup]) rfl (by decide) lk_X9_readsOrder_f208 rfl (by decide +kernel) rfl rfl (Nat.le_of_ble_eq_true rfl) dX9_readsOrder_239 (fun H_320 locs_320 hO_320 => ?_)
            replace hf := zl_some hf
            obtain ⟨X_319, hX_319, hf⟩ := hf
            have hQ_320 := zo_eq hX_319 hO_320
            clear hO_320 hQ_317
            obtain rfl := Option.some.inj hf
            exact e_v hx hb hr hK hN hQ_320 hlocks dX9_readsOrder_242
          · rw [if_neg c_318] at hf
            refine lv_iconst (v := 1) hx hb dX9_readsOrder_233 (by decide) ?_
            refine lv_goto (tgt := 238) hx hb dX9_readsOrder_234 (by decide) ?_
            refine lv_iadd hx hb dX9_readsOrder_238 ?_
            refine k_put (ty := .int) (k := 15) (r := 22) (k' := 5) hx hb tyX9 tyX9_ok nmX9 hts in_X9_readsOrder_X9 hown hK  hL hA hQ_317 (by decide) rfl (by omega) (fun Y => rfl) (by simp [xup]) rfl (by decide) lk_X9_readsOrder_f208 rfl (by decide +kernel) rfl rfl (Nat.le_of_ble_eq_true rfl) dX9_readsOrder_239 (fun H_322 locs_322 hO_322 => ?_)
            replace hf := zl_some hf
            obtain ⟨X_321, hX_321, hf⟩ := hf
            have hQ_322 := zo_eq hX_321 hO_322
            clear hO_322 hQ_317
            obtain rfl := Option.some.inj hf
            exact e_v hx hb hr hK hN hQ_322 hlocks dX9_readsOrder_242
      · rw [if_neg c_261] at hf
        refine lv_iload_n hx hb dX9_readsOrder_31 rfl (lv_at hl_6 0 rfl) ?_
        refine lv_bipush (v := 109) hx hb dX9_readsOrder_32 (by decide) ?_
        refine lv_icmp_eq (tgt := 43) hx hb dX9_readsOrder_34 (by decide) (fun c_323 => ?_) (fun c_323 => ?_)
        · rw [if_pos c_323] at hf
          subst c_323
          refine lv_iconst (v := 1) hx hb dX9_readsOrder_43 (by decide) ?_
          refine lv_goto (tgt := 48) hx hb dX9_readsOrder_44 (by decide) ?_
          refine k_put (ty := .boolean) (k := 13) (r := 22) (k' := 4) hx hb tyX9 tyX9_ok nmX9 hts in_X9_readsOrder_X9 hown hK  hL hA hO_5 (by decide) rfl (by omega) (fun Y => rfl) (by simp [xup]) rfl (by decide) lk_X9_readsOrder_f201 rfl (by decide +kernel) (bo_n (by decide)) (bo_f (by decide)) (Nat.le_of_ble_eq_true rfl) dX9_readsOrder_48 (fun H_325 locs_325 hO_325 => ?_)
          replace hf := zl_some hf
          obtain ⟨X_324, hX_324, hf⟩ := hf
          have hQ_325 := zo_eq hX_324 hO_325
          clear hO_325 hO_5
          refine lv_aload_n hx hb dX9_readsOrder_51 rfl (lv_at hl_6 2 rfl) ?_
          refine lv_dup hx hb dX9_readsOrder_52 rfl ?_
          refine k_get (k := 12) (v := .int (X_324 22 3)) hx hb hts in_X9_readsOrder_X9 hown hK hQ_325 (by decide) rfl rfl (by decide) lk_X9_readsOrder_f198 rfl dX9_readsOrder_53 ?_
          refine lv_aload_n hx hb dX9_readsOrder_56 rfl (lv_at hl_6 2 rfl) ?_
          refine k_get (k := 13) (v := .int (X_324 22 4)) hx hb hts in_X9_readsOrder_X9 hown hK hQ_325 (by decide) rfl rfl (by decide) lk_X9_readsOrder_f201 rfl dX9_readsOrder_57 ?_
          refine lv_if_eq (tgt := 67) hx hb dX9_readsOrder_60 (by decide) (fun c_326 => ?_) (fun c_326 => ?_)
          · rw [if_pos c_326] at hf
            refine lv_iconst (v := 0) hx hb dX9_readsOrder_67 (by decide) ?_
            refine lv_iadd hx hb dX9_readsOrder_68 ?_
            refine k_put (ty := .int) (k := 12) (r := 22) (k' := 3) hx hb tyX9 tyX9_ok nmX9 hts in_X9_readsOrder_X9 hown hK  hL hA hQ_325 (by decide) rfl (by omega) (fun Y => rfl) (by simp [xup]) rfl (by decide) lk_X9_readsOrder_f198 rfl (by decide +kernel) rfl rfl (Nat.le_of_ble_eq_true rfl) dX9_readsOrder_69 (fun H_328 locs_328 hO_328 => ?_)
            replace hf := zl_some hf
            obtain ⟨X_327, hX_327, hf⟩ := hf
            have hQ_328 := zo_eq hX_327 hO_328
            clear hO_328 hQ_325
            refine lv_aload_n hx hb dX9_readsOrder_72 rfl (lv_at hl_6 2 rfl) ?_
            refine k_get (k := 14) (v := .ref (L 25)) hx hb hts in_X9_readsOrder_X9 hown hK hQ_328 (by decide) rfl rfl (by decide) lk_X9_readsOrder_f38 rfl dX9_readsOrder_73 ?_
            refine lv_iload_n hx hb dX9_readsOrder_76 rfl (lv_at hl_6 1 rfl) ?_
            refine lv_iload_n hx hb dX9_readsOrder_77 rfl (lv_at hl_6 0 rfl) ?_
            replace hf := zd_some hf
            obtain ⟨hi_329, hf⟩ := hf
            refine k_iast hx hb hK hL hA hQ_328 (by decide) (by decide) rfl (fun _ => rfl) hi_329 dX9_readsOrder_78 (fun H_331 locs_331 hO_331 => ?_)
            replace hf := zl_some hf
            obtain ⟨X_330, hX_330, hf⟩ := hf
            have hQ_331 := zo_eq hX_330 hO_331
            clear hO_331 hQ_328
            refine lv_aload_n hx hb dX9_readsOrder_79 rfl (lv_at hl_6 2 rfl) ?_
            refine k_get (k := 14) (v := .ref (L 25)) hx hb hts in_X9_readsOrder_X9 hown hK hQ_331 (by decide) rfl rfl (by decide) lk_X9_readsOrder_f38 rfl dX9_readsOrder_80 ?_
            refine lv_iload_n hx hb dX9_readsOrder_83 rfl (lv_at hl_6 1 rfl) ?_
            refine lv_iconst (v := 1) hx hb dX9_readsOrder_84 (by decide) ?_
            refine lv_iadd hx hb dX9_readsOrder_85 ?_
            refine lv_iload_n hx hb dX9_readsOrder_86 rfl (lv_at hl_6 0 rfl) ?_
            refine lv_bipush (v := 112) hx hb dX9_readsOrder_87 (by decide) ?_
            refine lv_icmp_eq (tgt := 98) hx hb dX9_readsOrder_89 (by decide) (fun c_332 => absurd c_332 (by decide)) (fun _ => ?_)
            refine lv_iload_n hx hb dX9_readsOrder_92 rfl (lv_at hl_6 0 rfl) ?_
            refine lv_bipush (v := 109) hx hb dX9_readsOrder_93 (by decide) ?_
            refine lv_icmp_ne (tgt := 102) hx hb dX9_readsOrder_95 (by decide) (fun c_333 => absurd (by decide) c_333) (fun _ => ?_)
            refine lv_iconst (v := 0) hx hb dX9_readsOrder_98 (by decide) ?_
            refine lv_goto (tgt := 106) hx hb dX9_readsOrder_99 (by decide) ?_
            replace hf := zd_some hf
            obtain ⟨hi_334, hf⟩ := hf
            refine k_iast hx hb hK hL hA hQ_331 (by decide) (by decide) rfl (fun _ => rfl) hi_334 dX9_readsOrder_106 (fun H_336 locs_336 hO_336 => ?_)
            replace hf := zl_some hf
            obtain ⟨X_335, hX_335, hf⟩ := hf
            have hQ_336 := zo_eq hX_335 hO_336
            clear hO_336 hQ_331
            refine lv_aload_n hx hb dX9_readsOrder_107 rfl (lv_at hl_6 2 rfl) ?_
            refine k_get (k := 14) (v := .ref (L 25)) hx hb hts in_X9_readsOrder_X9 hown hK hQ_336 (by decide) rfl rfl (by decide) lk_X9_readsOrder_f38 rfl dX9_readsOrder_108 ?_
            refine lv_iload_n hx hb dX9_readsOrder_111 rfl (lv_at hl_6 1 rfl) ?_
            refine lv_iconst (v := 2) hx hb dX9_readsOrder_112 (by decide) ?_
            refine lv_iadd hx hb dX9_readsOrder_113 ?_
            refine lv_iload_n hx hb dX9_readsOrder_114 rfl (lv_at hl_6 0 rfl) ?_
            refine lv_bipush (v := 43) hx hb dX9_readsOrder_115 (by decide) ?_
            refine lv_icmp_ne (tgt := 140) hx hb dX9_readsOrder_117 (by decide) (fun _ => ?_) (fun c_337 => absurd c_337 (by decide))
            refine lv_iconst (v := 0) hx hb dX9_readsOrder_140 (by decide) ?_
            replace hf := zd_some hf
            obtain ⟨hi_338, hf⟩ := hf
            refine k_iast hx hb hK hL hA hQ_336 (by decide) (by decide) rfl (fun _ => rfl) hi_338 dX9_readsOrder_141 (fun H_340 locs_340 hO_340 => ?_)
            replace hf := zl_some hf
            obtain ⟨X_339, hX_339, hf⟩ := hf
            have hQ_340 := zo_eq hX_339 hO_340
            clear hO_340 hQ_336
            refine lv_iload_n hx hb dX9_readsOrder_142 rfl (lv_at hl_6 0 rfl) ?_
            refine lv_bipush (v := 45) hx hb dX9_readsOrder_143 (by decide) ?_
            refine lv_icmp_ne (tgt := 158) hx hb dX9_readsOrder_145 (by decide) (fun _ => ?_) (fun c_341 => absurd c_341 (by decide))
            refine lv_aload_n hx hb dX9_readsOrder_158 rfl (lv_at hl_6 2 rfl) ?_
            refine k_get (k := 14) (v := .ref (L 25)) hx hb hts in_X9_readsOrder_X9 hown hK hQ_340 (by decide) rfl rfl (by decide) lk_X9_readsOrder_f38 rfl dX9_readsOrder_159 ?_
            refine lv_iload_n hx hb dX9_readsOrder_162 rfl (lv_at hl_6 1 rfl) ?_
            refine lv_iconst (v := 2) hx hb dX9_readsOrder_163 (by decide) ?_
            refine lv_iadd hx hb dX9_readsOrder_164 ?_
            refine lv_iload_n hx hb dX9_readsOrder_165 rfl (lv_at hl_6 0 rfl) ?_
            refine lv_bipush (v := 45) hx hb dX9_readsOrder_166 (by decide) ?_
            refine lv_icmp_eq (tgt := 177) hx hb dX9_readsOrder_168 (by decide) (fun c_342 => absurd c_342 (by decide)) (fun _ => ?_)
            refine lv_iload_n hx hb dX9_readsOrder_171 rfl (lv_at hl_6 0 rfl) ?_
            refine lv_bipush (v := 114) hx hb dX9_readsOrder_172 (by decide) ?_
            refine lv_icmp_ne (tgt := 184) hx hb dX9_readsOrder_174 (by decide) (fun _ => ?_) (fun c_343 => absurd c_343 (by decide))
            refine lv_aload_n hx hb dX9_readsOrder_184 rfl (lv_at hl_6 2 rfl) ?_
            refine k_get (k := 14) (v := .ref (L 25)) hx hb hts in_X9_readsOrder_X9 hown hK hQ_340 (by decide) rfl rfl (by decide) lk_X9_readsOrder_f38 rfl dX9_readsOrder_185 ?_
            refine lv_iload_n hx hb dX9_readsOrder_188 rfl (lv_at hl_6 1 rfl) ?_
            refine lv_iconst (v := 2) hx hb dX9_readsOrder_189 (by decide) ?_
            refine lv_iadd hx hb dX9_readsOrder_190 ?_
            replace hf := zd_some hf
            obtain ⟨hi_344, hf⟩ := hf
            refine k_iald hx hb hK hQ_340 (by decide) (fun _ => rfl) hi_344 dX9_readsOrder_191 ?_
            replace hf := zd_some hf
            obtain ⟨hi_345, hf⟩ := hf
            refine k_iast hx hb hK hL hA hQ_340 (by decide) (by decide) rfl (fun _ => rfl) hi_345 dX9_readsOrder_192 (fun H_347 locs_347 hO_347 => ?_)
            replace hf := zl_some hf
            obtain ⟨X_346, hX_346, hf⟩ := hf
            have hQ_347 := zo_eq hX_346 hO_347
            clear hO_347 hQ_340
            refine lv_aload_n hx hb dX9_readsOrder_193 rfl (lv_at hl_6 2 rfl) ?_
            refine k_get (k := 14) (v := .ref (L 25)) hx hb hts in_X9_readsOrder_X9 hown hK hQ_347 (by decide) rfl rfl (by decide) lk_X9_readsOrder_f38 rfl dX9_readsOrder_194 ?_
            refine lv_iload_n hx hb dX9_readsOrder_197 rfl (lv_at hl_6 1 rfl) ?_
            refine lv_iconst (v := 3) hx hb dX9_readsOrder_198 (by decide) ?_
            refine lv_iadd hx hb dX9_readsOrder_199 ?_
            refine lv_iload_n hx hb dX9_readsOrder_200 rfl (lv_at hl_6 0 rfl) ?_
            refine lv_bipush (v := 43) hx hb dX9_readsOrder_201 (by decide) ?_
            refine lv_icmp_ne (tgt := 219) hx hb dX9_readsOrder_203 (by decide) (fun _ => ?_) (fun c_348 => absurd c_348 (by decide))
            refine lv_iconst (v := 0) hx hb dX9_readsOrder_219 (by decide) ?_
            replace hf := zd_some hf
            obtain ⟨hi_349, hf⟩ := hf
            refine k_iast hx hb hK hL hA hQ_347 (by decide) (by decide) rfl (fun _ => rfl) hi_349 dX9_readsOrder_220 (fun H_351 locs_351 hO_351 => ?_)
            replace hf := zl_some hf
            obtain ⟨X_350, hX_350, hf⟩ := hf
            have hQ_351 := zo_eq hX_350 hO_351
            clear hO_351 hQ_347
            refine lv_aload_n hx hb dX9_readsOrder_221 rfl (lv_at hl_6 2 rfl) ?_
            refine lv_dup hx hb dX9_readsOrder_222 rfl ?_
            refine k_get (k := 15) (v := .int (X_350 22 5)) hx hb hts in_X9_readsOrder_X9 hown hK hQ_351 (by decide) rfl rfl (by decide) lk_X9_readsOrder_f208 rfl dX9_readsOrder_223 ?_
            refine lv_aload_n hx hb dX9_readsOrder_226 rfl (lv_at hl_6 2 rfl) ?_
            refine k_get (k := 13) (v := .int (X_350 22 4)) hx hb hts in_X9_readsOrder_X9 hown hK hQ_351 (by decide) rfl rfl (by decide) lk_X9_readsOrder_f201 rfl dX9_readsOrder_227 ?_
            refine lv_if_eq (tgt := 237) hx hb dX9_readsOrder_230 (by decide) (fun c_352 => ?_) (fun c_352 => ?_)
            · rw [if_pos c_352] at hf
              refine lv_iconst (v := 0) hx hb dX9_readsOrder_237 (by decide) ?_
              refine lv_iadd hx hb dX9_readsOrder_238 ?_
              refine k_put (ty := .int) (k := 15) (r := 22) (k' := 5) hx hb tyX9 tyX9_ok nmX9 hts in_X9_readsOrder_X9 hown hK  hL hA hQ_351 (by decide) rfl (by omega) (fun Y => rfl) (by simp [xup]) rfl (by decide) lk_X9_readsOrder_f208 rfl (by decide +kernel) rfl rfl (Nat.le_of_ble_eq_true rfl) dX9_readsOrder_239 (fun H_354 locs_354 hO_354 => ?_)
              replace hf := zl_some hf
              obtain ⟨X_353, hX_353, hf⟩ := hf
              have hQ_354 := zo_eq hX_353 hO_354
              clear hO_354 hQ_351
              obtain rfl := Option.some.inj hf
              exact e_v hx hb hr hK hN hQ_354 hlocks dX9_readsOrder_242
            · rw [if_neg c_352] at hf
              refine lv_iconst (v := 1) hx hb dX9_readsOrder_233 (by decide) ?_
              refine lv_goto (tgt := 238) hx hb dX9_readsOrder_234 (by decide) ?_
              refine lv_iadd hx hb dX9_readsOrder_238 ?_
              refine k_put (ty := .int) (k := 15) (r := 22) (k' := 5) hx hb tyX9 tyX9_ok nmX9 hts in_X9_readsOrder_X9 hown hK  hL hA hQ_351 (by decide) rfl (by omega) (fun Y => rfl) (by simp [xup]) rfl (by decide) lk_X9_readsOrder_f208 rfl (by decide +kernel) rfl rfl (Nat.le_of_ble_eq_true rfl) dX9_readsOrder_239 (fun H_356 locs_356 hO_356 => ?_)
              replace hf := zl_some hf
              obtain ⟨X_355, hX_355, hf⟩ := hf
              have hQ_356 := zo_eq hX_355 hO_356
              clear hO_356 hQ_351
              obtain rfl := Option.some.inj hf
              exact e_v hx hb hr hK hN hQ_356 hlocks dX9_readsOrder_242
          · rw [if_neg c_326] at hf
            refine lv_iconst (v := 1) hx hb dX9_readsOrder_63 (by decide) ?_
            refine lv_goto (tgt := 68) hx hb dX9_readsOrder_64 (by decide) ?_
            refine lv_iadd hx hb dX9_readsOrder_68 ?_
            refine k_put (ty := .int) (k := 12) (r := 22) (k' := 3) hx hb tyX9 tyX9_ok nmX9 hts in_X9_readsOrder_X9 hown hK  hL hA hQ_325 (by decide) rfl (by omega) (fun Y => rfl) (by simp [xup]) rfl (by decide) lk_X9_readsOrder_f198 rfl (by decide +kernel) rfl rfl (Nat.le_of_ble_eq_true rfl) dX9_readsOrder_69 (fun H_358 locs_358 hO_358 => ?_)
            replace hf := zl_some hf
            obtain ⟨X_357, hX_357, hf⟩ := hf
            have hQ_358 := zo_eq hX_357 hO_358
            clear hO_358 hQ_325
            refine lv_aload_n hx hb dX9_readsOrder_72 rfl (lv_at hl_6 2 rfl) ?_
            refine k_get (k := 14) (v := .ref (L 25)) hx hb hts in_X9_readsOrder_X9 hown hK hQ_358 (by decide) rfl rfl (by decide) lk_X9_readsOrder_f38 rfl dX9_readsOrder_73 ?_
            refine lv_iload_n hx hb dX9_readsOrder_76 rfl (lv_at hl_6 1 rfl) ?_
            refine lv_iload_n hx hb dX9_readsOrder_77 rfl (lv_at hl_6 0 rfl) ?_
            replace hf := zd_some hf
            obtain ⟨hi_359, hf⟩ := hf
            refine k_iast hx hb hK hL hA hQ_358 (by decide) (by decide) rfl (fun _ => rfl) hi_359 dX9_readsOrder_78 (fun H_361 locs_361 hO_361 => ?_)
            replace hf := zl_some hf
            obtain ⟨X_360, hX_360, hf⟩ := hf
            have hQ_361 := zo_eq hX_360 hO_361
            clear hO_361 hQ_358
            refine lv_aload_n hx hb dX9_readsOrder_79 rfl (lv_at hl_6 2 rfl) ?_
            refine k_get (k := 14) (v := .ref (L 25)) hx hb hts in_X9_readsOrder_X9 hown hK hQ_361 (by decide) rfl rfl (by decide) lk_X9_readsOrder_f38 rfl dX9_readsOrder_80 ?_
            refine lv_iload_n hx hb dX9_readsOrder_83 rfl (lv_at hl_6 1 rfl) ?_
            refine lv_iconst (v := 1) hx hb dX9_readsOrder_84 (by decide) ?_
            refine lv_iadd hx hb dX9_readsOrder_85 ?_
            refine lv_iload_n hx hb dX9_readsOrder_86 rfl (lv_at hl_6 0 rfl) ?_
            refine lv_bipush (v := 112) hx hb dX9_readsOrder_87 (by decide) ?_
            refine lv_icmp_eq (tgt := 98) hx hb dX9_readsOrder_89 (by decide) (fun c_362 => absurd c_362 (by decide)) (fun _ => ?_)
            refine lv_iload_n hx hb dX9_readsOrder_92 rfl (lv_at hl_6 0 rfl) ?_
            refine lv_bipush (v := 109) hx hb dX9_readsOrder_93 (by decide) ?_
            refine lv_icmp_ne (tgt := 102) hx hb dX9_readsOrder_95 (by decide) (fun c_363 => absurd (by decide) c_363) (fun _ => ?_)
            refine lv_iconst (v := 0) hx hb dX9_readsOrder_98 (by decide) ?_
            refine lv_goto (tgt := 106) hx hb dX9_readsOrder_99 (by decide) ?_
            replace hf := zd_some hf
            obtain ⟨hi_364, hf⟩ := hf
            refine k_iast hx hb hK hL hA hQ_361 (by decide) (by decide) rfl (fun _ => rfl) hi_364 dX9_readsOrder_106 (fun H_366 locs_366 hO_366 => ?_)
            replace hf := zl_some hf
            obtain ⟨X_365, hX_365, hf⟩ := hf
            have hQ_366 := zo_eq hX_365 hO_366
            clear hO_366 hQ_361
            refine lv_aload_n hx hb dX9_readsOrder_107 rfl (lv_at hl_6 2 rfl) ?_
            refine k_get (k := 14) (v := .ref (L 25)) hx hb hts in_X9_readsOrder_X9 hown hK hQ_366 (by decide) rfl rfl (by decide) lk_X9_readsOrder_f38 rfl dX9_readsOrder_108 ?_
            refine lv_iload_n hx hb dX9_readsOrder_111 rfl (lv_at hl_6 1 rfl) ?_
            refine lv_iconst (v := 2) hx hb dX9_readsOrder_112 (by decide) ?_
            refine lv_iadd hx hb dX9_readsOrder_113 ?_
            refine lv_iload_n hx hb dX9_readsOrder_114 rfl (lv_at hl_6 0 rfl) ?_
            refine lv_bipush (v := 43) hx hb dX9_readsOrder_115 (by decide) ?_
            refine lv_icmp_ne (tgt := 140) hx hb dX9_readsOrder_117 (by decide) (fun _ => ?_) (fun c_367 => absurd c_367 (by decide))
            refine lv_iconst (v := 0) hx hb dX9_readsOrder_140 (by decide) ?_
            replace hf := zd_some hf
            obtain ⟨hi_368, hf⟩ := hf
            refine k_iast hx hb hK hL hA hQ_366 (by decide) (by decide) rfl (fun _ => rfl) hi_368 dX9_readsOrder_141 (fun H_370 locs_370 hO_370 => ?_)
            replace hf := zl_some hf
            obtain ⟨X_369, hX_369, hf⟩ := hf
            have hQ_370 := zo_eq hX_369 hO_370
            clear hO_370 hQ_366
            refine lv_iload_n hx hb dX9_readsOrder_142 rfl (lv_at hl_6 0 rfl) ?_
            refine lv_bipush (v := 45) hx hb dX9_readsOrder_143 (by decide) ?_
            refine lv_icmp_ne (tgt := 158) hx hb dX9_readsOrder_145 (by decide) (fun _ => ?_) (fun c_371 => absurd c_371 (by decide))
            refine lv_aload_n hx hb dX9_readsOrder_158 rfl (lv_at hl_6 2 rfl) ?_
            refine k_get (k := 14) (v := .ref (L 25)) hx hb hts in_X9_readsOrder_X9 hown hK hQ_370 (by decide) rfl rfl (by decide) lk_X9_readsOrder_f38 rfl dX9_readsOrder_159 ?_
            refine lv_iload_n hx hb dX9_readsOrder_162 rfl (lv_at hl_6 1 rfl) ?_
            refine lv_iconst (v := 2) hx hb dX9_readsOrder_163 (by decide) ?_
            refine lv_iadd hx hb dX9_readsOrder_164 ?_
            refine lv_iload_n hx hb dX9_readsOrder_165 rfl (lv_at hl_6 0 rfl) ?_
            refine lv_bipush (v := 45) hx hb dX9_readsOrder_166 (by decide) ?_
            refine lv_icmp_eq (tgt := 177) hx hb dX9_readsOrder_168 (by decide) (fun c_372 => absurd c_372 (by decide)) (fun _ => ?_)
            refine lv_iload_n hx hb dX9_readsOrder_171 rfl (lv_at hl_6 0 rfl) ?_
            refine lv_bipush (v := 114) hx hb dX9_readsOrder_172 (by decide) ?_
            refine lv_icmp_ne (tgt := 184) hx hb dX9_readsOrder_174 (by decide) (fun _ => ?_) (fun c_373 => absurd c_373 (by decide))
            refine lv_aload_n hx hb dX9_readsOrder_184 rfl (lv_at hl_6 2 rfl) ?_
            refine k_get (k := 14) (v := .ref (L 25)) hx hb hts in_X9_readsOrder_X9 hown hK hQ_370 (by decide) rfl rfl (by decide) lk_X9_readsOrder_f38 rfl dX9_readsOrder_185 ?_
            refine lv_iload_n hx hb dX9_readsOrder_188 rfl (lv_at hl_6 1 rfl) ?_
            refine lv_iconst (v := 2) hx hb dX9_readsOrder_189 (by decide) ?_
            refine lv_iadd hx hb dX9_readsOrder_190 ?_
            replace hf := zd_some hf
            obtain ⟨hi_374, hf⟩ := hf
            refine k_iald hx hb hK hQ_370 (by decide) (fun _ => rfl) hi_374 dX9_readsOrder_191 ?_
            replace hf := zd_some hf
            obtain ⟨hi_375, hf⟩ := hf
            refine k_iast hx hb hK hL hA hQ_370 (by decide) (by decide) rfl (fun _ => rfl) hi_375 dX9_readsOrder_192 (fun H_377 locs_377 hO_377 => ?_)
            replace hf := zl_some hf
            obtain ⟨X_376, hX_376, hf⟩ := hf
            have hQ_377 := zo_eq hX_376 hO_377
            clear hO_377 hQ_370
            refine lv_aload_n hx hb dX9_readsOrder_193 rfl (lv_at hl_6 2 rfl) ?_
            refine k_get (k := 14) (v := .ref (L 25)) hx hb hts in_X9_readsOrder_X9 hown hK hQ_377 (by decide) rfl rfl (by decide) lk_X9_readsOrder_f38 rfl dX9_readsOrder_194 ?_
            refine lv_iload_n hx hb dX9_readsOrder_197 rfl (lv_at hl_6 1 rfl) ?_
            refine lv_iconst (v := 3) hx hb dX9_readsOrder_198 (by decide) ?_
            refine lv_iadd hx hb dX9_readsOrder_199 ?_
            refine lv_iload_n hx hb dX9_readsOrder_200 rfl (lv_at hl_6 0 rfl) ?_
            refine lv_bipush (v := 43) hx hb dX9_readsOrder_201 (by decide) ?_
            refine lv_icmp_ne (tgt := 219) hx hb dX9_readsOrder_203 (by decide) (fun _ => ?_) (fun c_378 => absurd c_378 (by decide))
            refine lv_iconst (v := 0) hx hb dX9_readsOrder_219 (by decide) ?_
            replace hf := zd_some hf
            obtain ⟨hi_379, hf⟩ := hf
            refine k_iast hx hb hK hL hA hQ_377 (by decide) (by decide) rfl (fun _ => rfl) hi_379 dX9_readsOrder_220 (fun H_381 locs_381 hO_381 => ?_)
            replace hf := zl_some hf
            obtain ⟨X_380, hX_380, hf⟩ := hf
            have hQ_381 := zo_eq hX_380 hO_381
            clear hO_381 hQ_377
            refine lv_aload_n hx hb dX9_readsOrder_221 rfl (lv_at hl_6 2 rfl) ?_
            refine lv_dup hx hb dX9_readsOrder_222 rfl ?_
            refine k_get (k := 15) (v := .int (X_380 22 5)) hx hb hts in_X9_readsOrder_X9 hown hK hQ_381 (by decide) rfl rfl (by decide) lk_X9_readsOrder_f208 rfl dX9_readsOrder_223 ?_
            refine lv_aload_n hx hb dX9_readsOrder_226 rfl (lv_at hl_6 2 rfl) ?_
            refine k_get (k := 13) (v := .int (X_380 22 4)) hx hb hts in_X9_readsOrder_X9 hown hK hQ_381 (by decide) rfl rfl (by decide) lk_X9_readsOrder_f201 rfl dX9_readsOrder_227 ?_
            refine lv_if_eq (tgt := 237) hx hb dX9_readsOrder_230 (by decide) (fun c_382 => ?_) (fun c_382 => ?_)
            · rw [if_pos c_382] at hf
              refine lv_iconst (v := 0) hx hb dX9_readsOrder_237 (by decide) ?_
              refine lv_iadd hx hb dX9_readsOrder_238 ?_
              refine k_put (ty := .int) (k := 15) (r := 22) (k' := 5) hx hb tyX9 tyX9_ok nmX9 hts in_X9_readsOrder_X9 hown hK  hL hA hQ_381 (by decide) rfl (by omega) (fun Y => rfl) (by simp [xup]) rfl (by decide) lk_X9_readsOrder_f208 rfl (by decide +kernel) rfl rfl (Nat.le_of_ble_eq_true rfl) dX9_readsOrder_239 (fun H_384 locs_384 hO_384 => ?_)
              replace hf := zl_some hf
              obtain ⟨X_383, hX_383, hf⟩ := hf
              have hQ_384 := zo_eq hX_383 hO_384
              clear hO_384 hQ_381
              obtain rfl := Option.some.inj hf
              exact e_v hx hb hr hK hN hQ_384 hlocks dX9_readsOrder_242
            · rw [if_neg c_382] at hf
              refine lv_iconst (v := 1) hx hb dX9_readsOrder_233 (by decide) ?_
              refine lv_goto (tgt := 238) hx hb dX9_readsOrder_234 (by decide) ?_
              refine lv_iadd hx hb dX9_readsOrder_238 ?_
              refine k_put (ty := .int) (k := 15) (r := 22) (k' := 5) hx hb tyX9 tyX9_ok nmX9 hts in_X9_readsOrder_X9 hown hK  hL hA hQ_381 (by decide) rfl (by omega) (fun Y => rfl) (by simp [xup]) rfl (by decide) lk_X9_readsOrder_f208 rfl (by decide +kernel) rfl rfl (Nat.le_of_ble_eq_true rfl) dX9_readsOrder_239 (fun H_386 locs_386 hO_386 => ?_)
              replace hf := zl_some hf
              obtain ⟨X_385, hX_385, hf⟩ := hf
              have hQ_386 := zo_eq hX_385 hO_386
              clear hO_386 hQ_381
              obtain rfl := Option.some.inj hf
              exact e_v hx hb hr hK hN hQ_386 hlocks dX9_readsOrder_242
        · rw [if_neg c_323] at hf
          refine lv_iload_n hx hb dX9_readsOrder_37 rfl (lv_at hl_6 0 rfl) ?_
          refine lv_bipush (v := 114) hx hb dX9_readsOrder_38 (by decide) ?_
          refine lv_icmp_ne (tgt := 47) hx hb dX9_readsOrder_40 (by decide) (fun c_387 => ?_) (fun c_387 => ?_)
          · rw [if_neg c_387] at hf
            refine lv_iconst (v := 0) hx hb dX9_readsOrder_47 (by decide) ?_
            refine k_put (ty := .boolean) (k := 13) (r := 22) (k' := 4) hx hb tyX9 tyX9_ok nmX9 hts in_X9_readsOrder_X9 hown hK  hL hA hO_5 (by decide) rfl (by omega) (fun Y => rfl) (by simp [xup]) rfl (by decide) lk_X9_readsOrder_f201 rfl (by decide +kernel) (bo_n (by decide)) (bo_f (by decide)) (Nat.le_of_ble_eq_true rfl) dX9_readsOrder_48 (fun H_389 locs_389 hO_389 => ?_)
            replace hf := zl_some hf
            obtain ⟨X_388, hX_388, hf⟩ := hf
            have hQ_389 := zo_eq hX_388 hO_389
            clear hO_389 hO_5
            refine lv_aload_n hx hb dX9_readsOrder_51 rfl (lv_at hl_6 2 rfl) ?_
            refine lv_dup hx hb dX9_readsOrder_52 rfl ?_
            refine k_get (k := 12) (v := .int (X_388 22 3)) hx hb hts in_X9_readsOrder_X9 hown hK hQ_389 (by decide) rfl rfl (by decide) lk_X9_readsOrder_f198 rfl dX9_readsOrder_53 ?_
            refine lv_aload_n hx hb dX9_readsOrder_56 rfl (lv_at hl_6 2 rfl) ?_
            refine k_get (k := 13) (v := .int (X_388 22 4)) hx hb hts in_X9_readsOrder_X9 hown hK hQ_389 (by decide) rfl rfl (by decide) lk_X9_readsOrder_f201 rfl dX9_readsOrder_57 ?_
            refine lv_if_eq (tgt := 67) hx hb dX9_readsOrder_60 (by decide) (fun c_390 => ?_) (fun c_390 => ?_)
            · rw [if_pos c_390] at hf
              refine lv_iconst (v := 0) hx hb dX9_readsOrder_67 (by decide) ?_
              refine lv_iadd hx hb dX9_readsOrder_68 ?_
              refine k_put (ty := .int) (k := 12) (r := 22) (k' := 3) hx hb tyX9 tyX9_ok nmX9 hts in_X9_readsOrder_X9 hown hK  hL hA hQ_389 (by decide) rfl (by omega) (fun Y => rfl) (by simp [xup]) rfl (by decide) lk_X9_readsOrder_f198 rfl (by decide +kernel) rfl rfl (Nat.le_of_ble_eq_true rfl) dX9_readsOrder_69 (fun H_392 locs_392 hO_392 => ?_)
              replace hf := zl_some hf
              obtain ⟨X_391, hX_391, hf⟩ := hf
              have hQ_392 := zo_eq hX_391 hO_392
              clear hO_392 hQ_389
              refine lv_aload_n hx hb dX9_readsOrder_72 rfl (lv_at hl_6 2 rfl) ?_
              refine k_get (k := 14) (v := .ref (L 25)) hx hb hts in_X9_readsOrder_X9 hown hK hQ_392 (by decide) rfl rfl (by decide) lk_X9_readsOrder_f38 rfl dX9_readsOrder_73 ?_
              refine lv_iload_n hx hb dX9_readsOrder_76 rfl (lv_at hl_6 1 rfl) ?_
              refine lv_iload_n hx hb dX9_readsOrder_77 rfl (lv_at hl_6 0 rfl) ?_
              replace hf := zd_some hf
              obtain ⟨hi_393, hf⟩ := hf
              refine k_iast hx hb hK hL hA hQ_392 (by decide) (by decide) rfl (fun _ => rfl) hi_393 dX9_readsOrder_78 (fun H_395 locs_395 hO_395 => ?_)
              replace hf := zl_some hf
              obtain ⟨X_394, hX_394, hf⟩ := hf
              have hQ_395 := zo_eq hX_394 hO_395
              clear hO_395 hQ_392
              refine lv_aload_n hx hb dX9_readsOrder_79 rfl (lv_at hl_6 2 rfl) ?_
              refine k_get (k := 14) (v := .ref (L 25)) hx hb hts in_X9_readsOrder_X9 hown hK hQ_395 (by decide) rfl rfl (by decide) lk_X9_readsOrder_f38 rfl dX9_readsOrder_80 ?_
              refine lv_iload_n hx hb dX9_readsOrder_83 rfl (lv_at hl_6 1 rfl) ?_
              refine lv_iconst (v := 1) hx hb dX9_readsOrder_84 (by decide) ?_
              refine lv_iadd hx hb dX9_readsOrder_85 ?_
              refine lv_iload_n hx hb dX9_readsOrder_86 rfl (lv_at hl_6 0 rfl) ?_
              refine lv_bipush (v := 112) hx hb dX9_readsOrder_87 (by decide) ?_
              refine lv_icmp_eq (tgt := 98) hx hb dX9_readsOrder_89 (by decide) (fun c_396 => absurd c_396 c_261) (fun _ => ?_)
              refine lv_iload_n hx hb dX9_readsOrder_92 rfl (lv_at hl_6 0 rfl) ?_
              refine lv_bipush (v := 109) hx hb dX9_readsOrder_93 (by decide) ?_
              refine lv_icmp_ne (tgt := 102) hx hb dX9_readsOrder_95 (by decide) (fun _ => ?_) (fun c_397 => absurd c_397 c_323)
              refine lv_aload_n hx hb dX9_readsOrder_102 rfl (lv_at hl_6 2 rfl) ?_
              replace hf := zi_some hf
              obtain ⟨r_399, X_398, hc_398, hf⟩ := hf
              refine k_ai (va_runV (As := []) (rest := [.int (v_1 + 1), .ref (L 25)]) ⟨hx, hb, hml, hown, hts⟩ (mX9_digit l D L ac hL _  _ _ hc_398) (cwV 0 hts gX9_readsOrder_X9_digit rfl rfl rfl (by decide +kernel) ⟨Nat.le_of_ble_eq_true rfl, Nat.le_of_ble_eq_true rfl⟩) (k_pv (j := 15) hK hN hQ_395 (by decide) rfl rfl _) rfl rfl hl_6.1 rfl (lv_room (Nat.le_of_ble_eq_true rfl)) dX9_readsOrder_103 ⟨Nat.le_of_ble_eq_true rfl, Nat.le_of_ble_eq_true rfl⟩) hA hQ_395 (fun H_400 locs_400 hO_400 => ?_)
              clear hQ_395
              replace hf := zd_some hf
              obtain ⟨hi_401, hf⟩ := hf
              refine k_iast hx hb hK hL hA hO_400 (by decide) (by decide) rfl (fun _ => rfl) hi_401 dX9_readsOrder_106 (fun H_403 locs_403 hO_403 => ?_)
              replace hf := zl_some hf
              obtain ⟨X_402, hX_402, hf⟩ := hf
              have hQ_403 := zo_eq hX_402 hO_403
              clear hO_403 hO_400
              refine lv_aload_n hx hb dX9_readsOrder_107 rfl (lv_at hl_6 2 rfl) ?_
              refine k_get (k := 14) (v := .ref (L 25)) hx hb hts in_X9_readsOrder_X9 hown hK hQ_403 (by decide) rfl rfl (by decide) lk_X9_readsOrder_f38 rfl dX9_readsOrder_108 ?_
              refine lv_iload_n hx hb dX9_readsOrder_111 rfl (lv_at hl_6 1 rfl) ?_
              refine lv_iconst (v := 2) hx hb dX9_readsOrder_112 (by decide) ?_
              refine lv_iadd hx hb dX9_readsOrder_113 ?_
              refine lv_iload_n hx hb dX9_readsOrder_114 rfl (lv_at hl_6 0 rfl) ?_
              refine lv_bipush (v := 43) hx hb dX9_readsOrder_115 (by decide) ?_
              refine lv_icmp_ne (tgt := 140) hx hb dX9_readsOrder_117 (by decide) (fun _ => ?_) (fun c_404 => absurd c_404 c_7)
              refine lv_iconst (v := 0) hx hb dX9_readsOrder_140 (by decide) ?_
              replace hf := zd_some hf
              obtain ⟨hi_405, hf⟩ := hf
              refine k_iast hx hb hK hL hA hQ_403 (by decide) (by decide) rfl (fun _ => rfl) hi_405 dX9_readsOrder_141 (fun H_407 locs_407 hO_407 => ?_)
              replace hf := zl_some hf
              obtain ⟨X_406, hX_406, hf⟩ := hf
              have hQ_407 := zo_eq hX_406 hO_407
              clear hO_407 hQ_403
              refine lv_iload_n hx hb dX9_readsOrder_142 rfl (lv_at hl_6 0 rfl) ?_
              refine lv_bipush (v := 45) hx hb dX9_readsOrder_143 (by decide) ?_
              refine lv_icmp_ne (tgt := 158) hx hb dX9_readsOrder_145 (by decide) (fun _ => ?_) (fun c_408 => absurd c_408 c_177)
              refine lv_aload_n hx hb dX9_readsOrder_158 rfl (lv_at hl_6 2 rfl) ?_
              refine k_get (k := 14) (v := .ref (L 25)) hx hb hts in_X9_readsOrder_X9 hown hK hQ_407 (by decide) rfl rfl (by decide) lk_X9_readsOrder_f38 rfl dX9_readsOrder_159 ?_
              refine lv_iload_n hx hb dX9_readsOrder_162 rfl (lv_at hl_6 1 rfl) ?_
              refine lv_iconst (v := 2) hx hb dX9_readsOrder_163 (by decide) ?_
              refine lv_iadd hx hb dX9_readsOrder_164 ?_
              refine lv_iload_n hx hb dX9_readsOrder_165 rfl (lv_at hl_6 0 rfl) ?_
              refine lv_bipush (v := 45) hx hb dX9_readsOrder_166 (by decide) ?_
              refine lv_icmp_eq (tgt := 177) hx hb dX9_readsOrder_168 (by decide) (fun c_409 => absurd c_409 c_177) (fun _ => ?_)
              refine lv_iload_n hx hb dX9_readsOrder_171 rfl (lv_at hl_6 0 rfl) ?_
              refine lv_bipush (v := 114) hx hb dX9_readsOrder_172 (by decide) ?_
              refine lv_icmp_ne (tgt := 184) hx hb dX9_readsOrder_174 (by decide) (fun _ => ?_) (fun c_410 => absurd c_410 c_387)
              refine lv_aload_n hx hb dX9_readsOrder_184 rfl (lv_at hl_6 2 rfl) ?_
              refine k_get (k := 14) (v := .ref (L 25)) hx hb hts in_X9_readsOrder_X9 hown hK hQ_407 (by decide) rfl rfl (by decide) lk_X9_readsOrder_f38 rfl dX9_readsOrder_185 ?_
              refine lv_iload_n hx hb dX9_readsOrder_188 rfl (lv_at hl_6 1 rfl) ?_
              refine lv_iconst (v := 2) hx hb dX9_readsOrder_189 (by decide) ?_
              refine lv_iadd hx hb dX9_readsOrder_190 ?_
              replace hf := zd_some hf
              obtain ⟨hi_411, hf⟩ := hf
              refine k_iald hx hb hK hQ_407 (by decide) (fun _ => rfl) hi_411 dX9_readsOrder_191 ?_
              replace hf := zd_some hf
              obtain ⟨hi_412, hf⟩ := hf
              refine k_iast hx hb hK hL hA hQ_407 (by decide) (by decide) rfl (fun _ => rfl) hi_412 dX9_readsOrder_192 (fun H_414 locs_414 hO_414 => ?_)
              replace hf := zl_some hf
              obtain ⟨X_413, hX_413, hf⟩ := hf
              have hQ_414 := zo_eq hX_413 hO_414
              clear hO_414 hQ_407
              refine lv_aload_n hx hb dX9_readsOrder_193 rfl (lv_at hl_6 2 rfl) ?_
              refine k_get (k := 14) (v := .ref (L 25)) hx hb hts in_X9_readsOrder_X9 hown hK hQ_414 (by decide) rfl rfl (by decide) lk_X9_readsOrder_f38 rfl dX9_readsOrder_194 ?_
              refine lv_iload_n hx hb dX9_readsOrder_197 rfl (lv_at hl_6 1 rfl) ?_
              refine lv_iconst (v := 3) hx hb dX9_readsOrder_198 (by decide) ?_
              refine lv_iadd hx hb dX9_readsOrder_199 ?_
              refine lv_iload_n hx hb dX9_readsOrder_200 rfl (lv_at hl_6 0 rfl) ?_
              refine lv_bipush (v := 43) hx hb dX9_readsOrder_201 (by decide) ?_
              refine lv_icmp_ne (tgt := 219) hx hb dX9_readsOrder_203 (by decide) (fun _ => ?_) (fun c_415 => absurd c_415 c_7)
              refine lv_iconst (v := 0) hx hb dX9_readsOrder_219 (by decide) ?_
              replace hf := zd_some hf
              obtain ⟨hi_416, hf⟩ := hf
              refine k_iast hx hb hK hL hA hQ_414 (by decide) (by decide) rfl (fun _ => rfl) hi_416 dX9_readsOrder_220 (fun H_418 locs_418 hO_418 => ?_)
              replace hf := zl_some hf
              obtain ⟨X_417, hX_417, hf⟩ := hf
              have hQ_418 := zo_eq hX_417 hO_418
              clear hO_418 hQ_414
              refine lv_aload_n hx hb dX9_readsOrder_221 rfl (lv_at hl_6 2 rfl) ?_
              refine lv_dup hx hb dX9_readsOrder_222 rfl ?_
              refine k_get (k := 15) (v := .int (X_417 22 5)) hx hb hts in_X9_readsOrder_X9 hown hK hQ_418 (by decide) rfl rfl (by decide) lk_X9_readsOrder_f208 rfl dX9_readsOrder_223 ?_
              refine lv_aload_n hx hb dX9_readsOrder_226 rfl (lv_at hl_6 2 rfl) ?_
              refine k_get (k := 13) (v := .int (X_417 22 4)) hx hb hts in_X9_readsOrder_X9 hown hK hQ_418 (by decide) rfl rfl (by decide) lk_X9_readsOrder_f201 rfl dX9_readsOrder_227 ?_
              refine lv_if_eq (tgt := 237) hx hb dX9_readsOrder_230 (by decide) (fun c_419 => ?_) (fun c_419 => ?_)
              · rw [if_pos c_419] at hf
                refine lv_iconst (v := 0) hx hb dX9_readsOrder_237 (by decide) ?_
                refine lv_iadd hx hb dX9_readsOrder_238 ?_
                refine k_put (ty := .int) (k := 15) (r := 22) (k' := 5) hx hb tyX9 tyX9_ok nmX9 hts in_X9_readsOrder_X9 hown hK  hL hA hQ_418 (by decide) rfl (by omega) (fun Y => rfl) (by simp [xup]) rfl (by decide) lk_X9_readsOrder_f208 rfl (by decide +kernel) rfl rfl (Nat.le_of_ble_eq_true rfl) dX9_readsOrder_239 (fun H_421 locs_421 hO_421 => ?_)
                replace hf := zl_some hf
                obtain ⟨X_420, hX_420, hf⟩ := hf
                have hQ_421 := zo_eq hX_420 hO_421
                clear hO_421 hQ_418
                obtain rfl := Option.some.inj hf
                exact e_v hx hb hr hK hN hQ_421 hlocks dX9_readsOrder_242
              · rw [if_neg c_419] at hf
                refine lv_iconst (v := 1) hx hb dX9_readsOrder_233 (by decide) ?_
                refine lv_goto (tgt := 238) hx hb dX9_readsOrder_234 (by decide) ?_
                refine lv_iadd hx hb dX9_readsOrder_238 ?_
                refine k_put (ty := .int) (k := 15) (r := 22) (k' := 5) hx hb tyX9 tyX9_ok nmX9 hts in_X9_readsOrder_X9 hown hK  hL hA hQ_418 (by decide) rfl (by omega) (fun Y => rfl) (by simp [xup]) rfl (by decide) lk_X9_readsOrder_f208 rfl (by decide +kernel) rfl rfl (Nat.le_of_ble_eq_true rfl) dX9_readsOrder_239 (fun H_423 locs_423 hO_423 => ?_)
                replace hf := zl_some hf
                obtain ⟨X_422, hX_422, hf⟩ := hf
                have hQ_423 := zo_eq hX_422 hO_423
                clear hO_423 hQ_418
                obtain rfl := Option.some.inj hf
                exact e_v hx hb hr hK hN hQ_423 hlocks dX9_readsOrder_242
            · rw [if_neg c_390] at hf
              refine lv_iconst (v := 1) hx hb dX9_readsOrder_63 (by decide) ?_
              refine lv_goto (tgt := 68) hx hb dX9_readsOrder_64 (by decide) ?_
              refine lv_iadd hx hb dX9_readsOrder_68 ?_
              refine k_put (ty := .int) (k := 12) (r := 22) (k' := 3) hx hb tyX9 tyX9_ok nmX9 hts in_X9_readsOrder_X9 hown hK  hL hA hQ_389 (by decide) rfl (by omega) (fun Y => rfl) (by simp [xup]) rfl (by decide) lk_X9_readsOrder_f198 rfl (by decide +kernel) rfl rfl (Nat.le_of_ble_eq_true rfl) dX9_readsOrder_69 (fun H_425 locs_425 hO_425 => ?_)
              replace hf := zl_some hf
              obtain ⟨X_424, hX_424, hf⟩ := hf
              have hQ_425 := zo_eq hX_424 hO_425
              clear hO_425 hQ_389
              refine lv_aload_n hx hb dX9_readsOrder_72 rfl (lv_at hl_6 2 rfl) ?_
              refine k_get (k := 14) (v := .ref (L 25)) hx hb hts in_X9_readsOrder_X9 hown hK hQ_425 (by decide) rfl rfl (by decide) lk_X9_readsOrder_f38 rfl dX9_readsOrder_73 ?_
              refine lv_iload_n hx hb dX9_readsOrder_76 rfl (lv_at hl_6 1 rfl) ?_
              refine lv_iload_n hx hb dX9_readsOrder_77 rfl (lv_at hl_6 0 rfl) ?_
              replace hf := zd_some hf
              obtain ⟨hi_426, hf⟩ := hf
              refine k_iast hx hb hK hL hA hQ_425 (by decide) (by decide) rfl (fun _ => rfl) hi_426 dX9_readsOrder_78 (fun H_428 locs_428 hO_428 => ?_)
              replace hf := zl_some hf
              obtain ⟨X_427, hX_427, hf⟩ := hf
              have hQ_428 := zo_eq hX_427 hO_428
              clear hO_428 hQ_425
              refine lv_aload_n hx hb dX9_readsOrder_79 rfl (lv_at hl_6 2 rfl) ?_
              refine k_get (k := 14) (v := .ref (L 25)) hx hb hts in_X9_readsOrder_X9 hown hK hQ_428 (by decide) rfl rfl (by decide) lk_X9_readsOrder_f38 rfl dX9_readsOrder_80 ?_
              refine lv_iload_n hx hb dX9_readsOrder_83 rfl (lv_at hl_6 1 rfl) ?_
              refine lv_iconst (v := 1) hx hb dX9_readsOrder_84 (by decide) ?_
              refine lv_iadd hx hb dX9_readsOrder_85 ?_
              refine lv_iload_n hx hb dX9_readsOrder_86 rfl (lv_at hl_6 0 rfl) ?_
              refine lv_bipush (v := 112) hx hb dX9_readsOrder_87 (by decide) ?_
              refine lv_icmp_eq (tgt := 98) hx hb dX9_readsOrder_89 (by decide) (fun c_429 => absurd c_429 c_261) (fun _ => ?_)
              refine lv_iload_n hx hb dX9_readsOrder_92 rfl (lv_at hl_6 0 rfl) ?_
              refine lv_bipush (v := 109) hx hb dX9_readsOrder_93 (by decide) ?_
              refine lv_icmp_ne (tgt := 102) hx hb dX9_readsOrder_95 (by decide) (fun _ => ?_) (fun c_430 => absurd c_430 c_323)
              refine lv_aload_n hx hb dX9_readsOrder_102 rfl (lv_at hl_6 2 rfl) ?_
              replace hf := zi_some hf
              obtain ⟨r_432, X_431, hc_431, hf⟩ := hf
              refine k_ai (va_runV (As := []) (rest := [.int (v_1 + 1), .ref (L 25)]) ⟨hx, hb, hml, hown, hts⟩ (mX9_digit l D L ac hL _  _ _ hc_431) (cwV 0 hts gX9_readsOrder_X9_digit rfl rfl rfl (by decide +kernel) ⟨Nat.le_of_ble_eq_true rfl, Nat.le_of_ble_eq_true rfl⟩) (k_pv (j := 15) hK hN hQ_428 (by decide) rfl rfl _) rfl rfl hl_6.1 rfl (lv_room (Nat.le_of_ble_eq_true rfl)) dX9_readsOrder_103 ⟨Nat.le_of_ble_eq_true rfl, Nat.le_of_ble_eq_true rfl⟩) hA hQ_428 (fun H_433 locs_433 hO_433 => ?_)
              clear hQ_428
              replace hf := zd_some hf
              obtain ⟨hi_434, hf⟩ := hf
              refine k_iast hx hb hK hL hA hO_433 (by decide) (by decide) rfl (fun _ => rfl) hi_434 dX9_readsOrder_106 (fun H_436 locs_436 hO_436 => ?_)
              replace hf := zl_some hf
              obtain ⟨X_435, hX_435, hf⟩ := hf
              have hQ_436 := zo_eq hX_435 hO_436
              clear hO_436 hO_433
              refine lv_aload_n hx hb dX9_readsOrder_107 rfl (lv_at hl_6 2 rfl) ?_
              refine k_get (k := 14) (v := .ref (L 25)) hx hb hts in_X9_readsOrder_X9 hown hK hQ_436 (by decide) rfl rfl (by decide) lk_X9_readsOrder_f38 rfl dX9_readsOrder_108 ?_
              refine lv_iload_n hx hb dX9_readsOrder_111 rfl (lv_at hl_6 1 rfl) ?_
              refine lv_iconst (v := 2) hx hb dX9_readsOrder_112 (by decide) ?_
              refine lv_iadd hx hb dX9_readsOrder_113 ?_
              refine lv_iload_n hx hb dX9_readsOrder_114 rfl (lv_at hl_6 0 rfl) ?_
              refine lv_bipush (v := 43) hx hb dX9_readsOrder_115 (by decide) ?_
              refine lv_icmp_ne (tgt := 140) hx hb dX9_readsOrder_117 (by decide) (fun _ => ?_) (fun c_437 => absurd c_437 c_7)
              refine lv_iconst (v := 0) hx hb dX9_readsOrder_140 (by decide) ?_
              replace hf := zd_some hf
              obtain ⟨hi_438, hf⟩ := hf
              refine k_iast hx hb hK hL hA hQ_436 (by decide) (by decide) rfl (fun _ => rfl) hi_438 dX9_readsOrder_141 (fun H_440 locs_440 hO_440 => ?_)
              replace hf := zl_some hf
              obtain ⟨X_439, hX_439, hf⟩ := hf
              have hQ_440 := zo_eq hX_439 hO_440
              clear hO_440 hQ_436
              refine lv_iload_n hx hb dX9_readsOrder_142 rfl (lv_at hl_6 0 rfl) ?_
              refine lv_bipush (v := 45) hx hb dX9_readsOrder_143 (by decide) ?_
              refine lv_icmp_ne (tgt := 158) hx hb dX9_readsOrder_145 (by decide) (fun _ => ?_) (fun c_441 => absurd c_441 c_177)
              refine lv_aload_n hx hb dX9_readsOrder_158 rfl (lv_at hl_6 2 rfl) ?_
              refine k_get (k := 14) (v := .ref (L 25)) hx hb hts in_X9_readsOrder_X9 hown hK hQ_440 (by decide) rfl rfl (by decide) lk_X9_readsOrder_f38 rfl dX9_readsOrder_159 ?_
              refine lv_iload_n hx hb dX9_readsOrder_162 rfl (lv_at hl_6 1 rfl) ?_
              refine lv_iconst (v := 2) hx hb dX9_readsOrder_163 (by decide) ?_
              refine lv_iadd hx hb dX9_readsOrder_164 ?_
              refine lv_iload_n hx hb dX9_readsOrder_165 rfl (lv_at hl_6 0 rfl) ?_
              refine lv_bipush (v := 45) hx hb dX9_readsOrder_166 (by decide) ?_
              refine lv_icmp_eq (tgt := 177) hx hb dX9_readsOrder_168 (by decide) (fun c_442 => absurd c_442 c_177) (fun _ => ?_)
              refine lv_iload_n hx hb dX9_readsOrder_171 rfl (lv_at hl_6 0 rfl) ?_
              refine lv_bipush (v := 114) hx hb dX9_readsOrder_172 (by decide) ?_
              refine lv_icmp_ne (tgt := 184) hx hb dX9_readsOrder_174 (by decide) (fun _ => ?_) (fun c_443 => absurd c_443 c_387)
              refine lv_aload_n hx hb dX9_readsOrder_184 rfl (lv_at hl_6 2 rfl) ?_
              refine k_get (k := 14) (v := .ref (L 25)) hx hb hts in_X9_readsOrder_X9 hown hK hQ_440 (by decide) rfl rfl (by decide) lk_X9_readsOrder_f38 rfl dX9_readsOrder_185 ?_
              refine lv_iload_n hx hb dX9_readsOrder_188 rfl (lv_at hl_6 1 rfl) ?_
              refine lv_iconst (v := 2) hx hb dX9_readsOrder_189 (by decide) ?_
              refine lv_iadd hx hb dX9_readsOrder_190 ?_
              replace hf := zd_some hf
              obtain ⟨hi_444, hf⟩ := hf
              refine k_iald hx hb hK hQ_440 (by decide) (fun _ => rfl) hi_444 dX9_readsOrder_191 ?_
              replace hf := zd_some hf
              obtain ⟨hi_445, hf⟩ := hf
              refine k_iast hx hb hK hL hA hQ_440 (by decide) (by decide) rfl (fun _ => rfl) hi_445 dX9_readsOrder_192 (fun H_447 locs_447 hO_447 => ?_)
              replace hf := zl_some hf
              obtain ⟨X_446, hX_446, hf⟩ := hf
              have hQ_447 := zo_eq hX_446 hO_447
              clear hO_447 hQ_440
              refine lv_aload_n hx hb dX9_readsOrder_193 rfl (lv_at hl_6 2 rfl) ?_
              refine k_get (k := 14) (v := .ref (L 25)) hx hb hts in_X9_readsOrder_X9 hown hK hQ_447 (by decide) rfl rfl (by decide) lk_X9_readsOrder_f38 rfl dX9_readsOrder_194 ?_
              refine lv_iload_n hx hb dX9_readsOrder_197 rfl (lv_at hl_6 1 rfl) ?_
              refine lv_iconst (v := 3) hx hb dX9_readsOrder_198 (by decide) ?_
              refine lv_iadd hx hb dX9_readsOrder_199 ?_
              refine lv_iload_n hx hb dX9_readsOrder_200 rfl (lv_at hl_6 0 rfl) ?_
              refine lv_bipush (v := 43) hx hb dX9_readsOrder_201 (by decide) ?_
              refine lv_icmp_ne (tgt := 219) hx hb dX9_readsOrder_203 (by decide) (fun _ => ?_) (fun c_448 => absurd c_448 c_7)
              refine lv_iconst (v := 0) hx hb dX9_readsOrder_219 (by decide) ?_
              replace hf := zd_some hf
              obtain ⟨hi_449, hf⟩ := hf
              refine k_iast hx hb hK hL hA hQ_447 (by decide) (by decide) rfl (fun _ => rfl) hi_449 dX9_readsOrder_220 (fun H_451 locs_451 hO_451 => ?_)
              replace hf := zl_some hf
              obtain ⟨X_450, hX_450, hf⟩ := hf
              have hQ_451 := zo_eq hX_450 hO_451
              clear hO_451 hQ_447
              refine lv_aload_n hx hb dX9_readsOrder_221 rfl (lv_at hl_6 2 rfl) ?_
              refine lv_dup hx hb dX9_readsOrder_222 rfl ?_
              refine k_get (k := 15) (v := .int (X_450 22 5)) hx hb hts in_X9_readsOrder_X9 hown hK hQ_451 (by decide) rfl rfl (by decide) lk_X9_readsOrder_f208 rfl dX9_readsOrder_223 ?_
              refine lv_aload_n hx hb dX9_readsOrder_226 rfl (lv_at hl_6 2 rfl) ?_
              refine k_get (k := 13) (v := .int (X_450 22 4)) hx hb hts in_X9_readsOrder_X9 hown hK hQ_451 (by decide) rfl rfl (by decide) lk_X9_readsOrder_f201 rfl dX9_readsOrder_227 ?_
              refine lv_if_eq (tgt := 237) hx hb dX9_readsOrder_230 (by decide) (fun c_452 => ?_) (fun c_452 => ?_)
              · rw [if_pos c_452] at hf
                refine lv_iconst (v := 0) hx hb dX9_readsOrder_237 (by decide) ?_
                refine lv_iadd hx hb dX9_readsOrder_238 ?_
                refine k_put (ty := .int) (k := 15) (r := 22) (k' := 5) hx hb tyX9 tyX9_ok nmX9 hts in_X9_readsOrder_X9 hown hK  hL hA hQ_451 (by decide) rfl (by omega) (fun Y => rfl) (by simp [xup]) rfl (by decide) lk_X9_readsOrder_f208 rfl (by decide +kernel) rfl rfl (Nat.le_of_ble_eq_true rfl) dX9_readsOrder_239 (fun H_454 locs_454 hO_454 => ?_)
                replace hf := zl_some hf
                obtain ⟨X_453, hX_453, hf⟩ := hf
                have hQ_454 := zo_eq hX_453 hO_454
                clear hO_454 hQ_451
                obtain rfl := Option.some.inj hf
                exact e_v hx hb hr hK hN hQ_454 hlocks dX9_readsOrder_242
              · rw [if_neg c_452] at hf
                refine lv_iconst (v := 1) hx hb dX9_readsOrder_233 (by decide) ?_
                refine lv_goto (tgt := 238) hx hb dX9_readsOrder_234 (by decide) ?_
                refine lv_iadd hx hb dX9_readsOrder_238 ?_
                refine k_put (ty := .int) (k := 15) (r := 22) (k' := 5) hx hb tyX9 tyX9_ok nmX9 hts in_X9_readsOrder_X9 hown hK  hL hA hQ_451 (by decide) rfl (by omega) (fun Y => rfl) (by simp [xup]) rfl (by decide) lk_X9_readsOrder_f208 rfl (by decide +kernel) rfl rfl (Nat.le_of_ble_eq_true rfl) dX9_readsOrder_239 (fun H_456 locs_456 hO_456 => ?_)
                replace hf := zl_some hf
                obtain ⟨X_455, hX_455, hf⟩ := hf
                have hQ_456 := zo_eq hX_455 hO_456
                clear hO_456 hQ_451
                obtain rfl := Option.some.inj hf
                exact e_v hx hb hr hK hN hQ_456 hlocks dX9_readsOrder_242
          · rw [if_pos c_387] at hf
            subst c_387
            refine lv_iconst (v := 1) hx hb dX9_readsOrder_43 (by decide) ?_
            refine lv_goto (tgt := 48) hx hb dX9_readsOrder_44 (by decide) ?_
            refine k_put (ty := .boolean) (k := 13) (r := 22) (k' := 4) hx hb tyX9 tyX9_ok nmX9 hts in_X9_readsOrder_X9 hown hK  hL hA hO_5 (by decide) rfl (by omega) (fun Y => rfl) (by simp [xup]) rfl (by decide) lk_X9_readsOrder_f201 rfl (by decide +kernel) (bo_n (by decide)) (bo_f (by decide)) (Nat.le_of_ble_eq_true rfl) dX9_readsOrder_48 (fun H_458 locs_458 hO_458 => ?_)
            replace hf := zl_some hf
            obtain ⟨X_457, hX_457, hf⟩ := hf
            have hQ_458 := zo_eq hX_457 hO_458
            clear hO_458 hO_5
            refine lv_aload_n hx hb dX9_readsOrder_51 rfl (lv_at hl_6 2 rfl) ?_
            refine lv_dup hx hb dX9_readsOrder_52 rfl ?_
            refine k_get (k := 12) (v := .int (X_457 22 3)) hx hb hts in_X9_readsOrder_X9 hown hK hQ_458 (by decide) rfl rfl (by decide) lk_X9_readsOrder_f198 rfl dX9_readsOrder_53 ?_
            refine lv_aload_n hx hb dX9_readsOrder_56 rfl (lv_at hl_6 2 rfl) ?_
            refine k_get (k := 13) (v := .int (X_457 22 4)) hx hb hts in_X9_readsOrder_X9 hown hK hQ_458 (by decide) rfl rfl (by decide) lk_X9_readsOrder_f201 rfl dX9_readsOrder_57 ?_
            refine lv_if_eq (tgt := 67) hx hb dX9_readsOrder_60 (by decide) (fun c_459 => ?_) (fun c_459 => ?_)
            · rw [if_pos c_459] at hf
              refine lv_iconst (v := 0) hx hb dX9_readsOrder_67 (by decide) ?_
              refine lv_iadd hx hb dX9_readsOrder_68 ?_
              refine k_put (ty := .int) (k := 12) (r := 22) (k' := 3) hx hb tyX9 tyX9_ok nmX9 hts in_X9_readsOrder_X9 hown hK  hL hA hQ_458 (by decide) rfl (by omega) (fun Y => rfl) (by simp [xup]) rfl (by decide) lk_X9_readsOrder_f198 rfl (by decide +kernel) rfl rfl (Nat.le_of_ble_eq_true rfl) dX9_readsOrder_69 (fun H_461 locs_461 hO_461 => ?_)
              replace hf := zl_some hf
              obtain ⟨X_460, hX_460, hf⟩ := hf
              have hQ_461 := zo_eq hX_460 hO_461
              clear hO_461 hQ_458
              refine lv_aload_n hx hb dX9_readsOrder_72 rfl (lv_at hl_6 2 rfl) ?_
              refine k_get (k := 14) (v := .ref (L 25)) hx hb hts in_X9_readsOrder_X9 hown hK hQ_461 (by decide) rfl rfl (by decide) lk_X9_readsOrder_f38 rfl dX9_readsOrder_73 ?_
              refine lv_iload_n hx hb dX9_readsOrder_76 rfl (lv_at hl_6 1 rfl) ?_
              refine lv_iload_n hx hb dX9_readsOrder_77 rfl (lv_at hl_6 0 rfl) ?_
              replace hf := zd_some hf
              obtain ⟨hi_462, hf⟩ := hf
              refine k_iast hx hb hK hL hA hQ_461 (by decide) (by decide) rfl (fun _ => rfl) hi_462 dX9_readsOrder_78 (fun H_464 locs_464 hO_464 => ?_)
              replace hf := zl_some hf
              obtain ⟨X_463, hX_463, hf⟩ := hf
              have hQ_464 := zo_eq hX_463 hO_464
              clear hO_464 hQ_461
              refine lv_aload_n hx hb dX9_readsOrder_79 rfl (lv_at hl_6 2 rfl) ?_
              refine k_get (k := 14) (v := .ref (L 25)) hx hb hts in_X9_readsOrder_X9 hown hK hQ_464 (by decide) rfl rfl (by decide) lk_X9_readsOrder_f38 rfl dX9_readsOrder_80 ?_
              refine lv_iload_n hx hb dX9_readsOrder_83 rfl (lv_at hl_6 1 rfl) ?_
              refine lv_iconst (v := 1) hx hb dX9_readsOrder_84 (by decide) ?_
              refine lv_iadd hx hb dX9_readsOrder_85 ?_
              refine lv_iload_n hx hb dX9_readsOrder_86 rfl (lv_at hl_6 0 rfl) ?_
              refine lv_bipush (v := 112) hx hb dX9_readsOrder_87 (by decide) ?_
              refine lv_icmp_eq (tgt := 98) hx hb dX9_readsOrder_89 (by decide) (fun c_465 => absurd c_465 (by decide)) (fun _ => ?_)
              refine lv_iload_n hx hb dX9_readsOrder_92 rfl (lv_at hl_6 0 rfl) ?_
              refine lv_bipush (v := 109) hx hb dX9_readsOrder_93 (by decide) ?_
              refine lv_icmp_ne (tgt := 102) hx hb dX9_readsOrder_95 (by decide) (fun _ => ?_) (fun c_466 => absurd c_466 (by decide))
              refine lv_aload_n hx hb dX9_readsOrder_102 rfl (lv_at hl_6 2 rfl) ?_
              replace hf := zi_some hf
              obtain ⟨r_468, X_467, hc_467, hf⟩ := hf
              refine k_ai (va_runV (As := []) (rest := [.int (v_1 + 1), .ref (L 25)]) ⟨hx, hb, hml, hown, hts⟩ (mX9_digit l D L ac hL _  _ _ hc_467) (cwV 0 hts gX9_readsOrder_X9_digit rfl rfl rfl (by decide +kernel) ⟨Nat.le_of_ble_eq_true rfl, Nat.le_of_ble_eq_true rfl⟩) (k_pv (j := 15) hK hN hQ_464 (by decide) rfl rfl _) rfl rfl hl_6.1 rfl (lv_room (Nat.le_of_ble_eq_true rfl)) dX9_readsOrder_103 ⟨Nat.le_of_ble_eq_true rfl, Nat.le_of_ble_eq_true rfl⟩) hA hQ_464 (fun H_469 locs_469 hO_469 => ?_)
              clear hQ_464
              replace hf := zd_some hf
              obtain ⟨hi_470, hf⟩ := hf
              refine k_iast hx hb hK hL hA hO_469 (by decide) (by decide) rfl (fun _ => rfl) hi_470 dX9_readsOrder_106 (fun H_472 locs_472 hO_472 => ?_)
              replace hf := zl_some hf
              obtain ⟨X_471, hX_471, hf⟩ := hf
              have hQ_472 := zo_eq hX_471 hO_472
              clear hO_472 hO_469
              refine lv_aload_n hx hb dX9_readsOrder_107 rfl (lv_at hl_6 2 rfl) ?_
              refine k_get (k := 14) (v := .ref (L 25)) hx hb hts in_X9_readsOrder_X9 hown hK hQ_472 (by decide) rfl rfl (by decide) lk_X9_readsOrder_f38 rfl dX9_readsOrder_108 ?_
              refine lv_iload_n hx hb dX9_readsOrder_111 rfl (lv_at hl_6 1 rfl) ?_
              refine lv_iconst (v := 2) hx hb dX9_readsOrder_112 (by decide) ?_
              refine lv_iadd hx hb dX9_readsOrder_113 ?_
              refine lv_iload_n hx hb dX9_readsOrder_114 rfl (lv_at hl_6 0 rfl) ?_
              refine lv_bipush (v := 43) hx hb dX9_readsOrder_115 (by decide) ?_
              refine lv_icmp_ne (tgt := 140) hx hb dX9_readsOrder_117 (by decide) (fun _ => ?_) (fun c_473 => absurd c_473 (by decide))
              refine lv_iconst (v := 0) hx hb dX9_readsOrder_140 (by decide) ?_
              replace hf := zd_some hf
              obtain ⟨hi_474, hf⟩ := hf
              refine k_iast hx hb hK hL hA hQ_472 (by decide) (by decide) rfl (fun _ => rfl) hi_474 dX9_readsOrder_141 (fun H_476 locs_476 hO_476 => ?_)
              replace hf := zl_some hf
              obtain ⟨X_475, hX_475, hf⟩ := hf
              have hQ_476 := zo_eq hX_475 hO_476
              clear hO_476 hQ_472
              refine lv_iload_n hx hb dX9_readsOrder_142 rfl (lv_at hl_6 0 rfl) ?_
              refine lv_bipush (v := 45) hx hb dX9_readsOrder_143 (by decide) ?_
              refine lv_icmp_ne (tgt := 158) hx hb dX9_readsOrder_145 (by decide) (fun _ => ?_) (fun c_477 => absurd c_477 (by decide))
              refine lv_aload_n hx hb dX9_readsOrder_158 rfl (lv_at hl_6 2 rfl) ?_
              refine k_get (k := 14) (v := .ref (L 25)) hx hb hts in_X9_readsOrder_X9 hown hK hQ_476 (by decide) rfl rfl (by decide) lk_X9_readsOrder_f38 rfl dX9_readsOrder_159 ?_
              refine lv_iload_n hx hb dX9_readsOrder_162 rfl (lv_at hl_6 1 rfl) ?_
              refine lv_iconst (v := 2) hx hb dX9_readsOrder_163 (by decide) ?_
              refine lv_iadd hx hb dX9_readsOrder_164 ?_
              refine lv_iload_n hx hb dX9_readsOrder_165 rfl (lv_at hl_6 0 rfl) ?_
              refine lv_bipush (v := 45) hx hb dX9_readsOrder_166 (by decide) ?_
              refine lv_icmp_eq (tgt := 177) hx hb dX9_readsOrder_168 (by decide) (fun c_478 => absurd c_478 (by decide)) (fun _ => ?_)
              refine lv_iload_n hx hb dX9_readsOrder_171 rfl (lv_at hl_6 0 rfl) ?_
              refine lv_bipush (v := 114) hx hb dX9_readsOrder_172 (by decide) ?_
              refine lv_icmp_ne (tgt := 184) hx hb dX9_readsOrder_174 (by decide) (fun c_479 => absurd (by decide) c_479) (fun _ => ?_)
              refine lv_aload_n hx hb dX9_readsOrder_177 rfl (lv_at hl_6 2 rfl) ?_
              replace hf := zi_some hf
              obtain ⟨r_481, X_480, hc_480, hf⟩ := hf
              refine k_ai (va_runV (As := []) (rest := [.int (v_1 + 2), .ref (L 25)]) ⟨hx, hb, hml, hown, hts⟩ (mX9_digit l D L ac hL _  _ _ hc_480) (cwV 0 hts gX9_readsOrder_X9_digit rfl rfl rfl (by decide +kernel) ⟨Nat.le_of_ble_eq_true rfl, Nat.le_of_ble_eq_true rfl⟩) (k_pv (j := 15) hK hN hQ_476 (by decide) rfl rfl _) rfl rfl hl_6.1 rfl (lv_room (Nat.le_of_ble_eq_true rfl)) dX9_readsOrder_178 ⟨Nat.le_of_ble_eq_true rfl, Nat.le_of_ble_eq_true rfl⟩) hA hQ_476 (fun H_482 locs_482 hO_482 => ?_)
              clear hQ_476
              refine lv_goto (tgt := 192) hx hb dX9_readsOrder_181 (by decide) ?_
              replace hf := zd_some hf
              obtain ⟨hi_483, hf⟩ := hf
              refine k_iast hx hb hK hL hA hO_482 (by decide) (by decide) rfl (fun _ => rfl) hi_483 dX9_readsOrder_192 (fun H_485 locs_485 hO_485 => ?_)
              replace hf := zl_some hf
              obtain ⟨X_484, hX_484, hf⟩ := hf
              have hQ_485 := zo_eq hX_484 hO_485
              clear hO_485 hO_482
              refine lv_aload_n hx hb dX9_readsOrder_193 rfl (lv_at hl_6 2 rfl) ?_
              refine k_get (k := 14) (v := .ref (L 25)) hx hb hts in_X9_readsOrder_X9 hown hK hQ_485 (by decide) rfl rfl (by decide) lk_X9_readsOrder_f38 rfl dX9_readsOrder_194 ?_
              refine lv_iload_n hx hb dX9_readsOrder_197 rfl (lv_at hl_6 1 rfl) ?_
              refine lv_iconst (v := 3) hx hb dX9_readsOrder_198 (by decide) ?_
              refine lv_iadd hx hb dX9_readsOrder_199 ?_
              refine lv_iload_n hx hb dX9_readsOrder_200 rfl (lv_at hl_6 0 rfl) ?_
              refine lv_bipush (v := 43) hx hb dX9_readsOrder_201 (by decide) ?_
              refine lv_icmp_ne (tgt := 219) hx hb dX9_readsOrder_203 (by decide) (fun _ => ?_) (fun c_486 => absurd c_486 (by decide))
              refine lv_iconst (v := 0) hx hb dX9_readsOrder_219 (by decide) ?_
              replace hf := zd_some hf
              obtain ⟨hi_487, hf⟩ := hf
              refine k_iast hx hb hK hL hA hQ_485 (by decide) (by decide) rfl (fun _ => rfl) hi_487 dX9_readsOrder_220 (fun H_489 locs_489 hO_489 => ?_)
              replace hf := zl_some hf
              obtain ⟨X_488, hX_488, hf⟩ := hf
              have hQ_489 := zo_eq hX_488 hO_489
              clear hO_489 hQ_485
              refine lv_aload_n hx hb dX9_readsOrder_221 rfl (lv_at hl_6 2 rfl) ?_
              refine lv_dup hx hb dX9_readsOrder_222 rfl ?_
              refine k_get (k := 15) (v := .int (X_488 22 5)) hx hb hts in_X9_readsOrder_X9 hown hK hQ_489 (by decide) rfl rfl (by decide) lk_X9_readsOrder_f208 rfl dX9_readsOrder_223 ?_
              refine lv_aload_n hx hb dX9_readsOrder_226 rfl (lv_at hl_6 2 rfl) ?_
              refine k_get (k := 13) (v := .int (X_488 22 4)) hx hb hts in_X9_readsOrder_X9 hown hK hQ_489 (by decide) rfl rfl (by decide) lk_X9_readsOrder_f201 rfl dX9_readsOrder_227 ?_
              refine lv_if_eq (tgt := 237) hx hb dX9_readsOrder_230 (by decide) (fun c_490 => ?_) (fun c_490 => ?_)
              · rw [if_pos c_490] at hf
                refine lv_iconst (v := 0) hx hb dX9_readsOrder_237 (by decide) ?_
                refine lv_iadd hx hb dX9_readsOrder_238 ?_
                refine k_put (ty := .int) (k := 15) (r := 22) (k' := 5) hx hb tyX9 tyX9_ok nmX9 hts in_X9_readsOrder_X9 hown hK  hL hA hQ_489 (by decide) rfl (by omega) (fun Y => rfl) (by simp [xup]) rfl (by decide) lk_X9_readsOrder_f208 rfl (by decide +kernel) rfl rfl (Nat.le_of_ble_eq_true rfl) dX9_readsOrder_239 (fun H_492 locs_492 hO_492 => ?_)
                replace hf := zl_some hf
                obtain ⟨X_491, hX_491, hf⟩ := hf
                have hQ_492 := zo_eq hX_491 hO_492
                clear hO_492 hQ_489
                obtain rfl := Option.some.inj hf
                exact e_v hx hb hr hK hN hQ_492 hlocks dX9_readsOrder_242
              · rw [if_neg c_490] at hf
                refine lv_iconst (v := 1) hx hb dX9_readsOrder_233 (by decide) ?_
                refine lv_goto (tgt := 238) hx hb dX9_readsOrder_234 (by decide) ?_
                refine lv_iadd hx hb dX9_readsOrder_238 ?_
                refine k_put (ty := .int) (k := 15) (r := 22) (k' := 5) hx hb tyX9 tyX9_ok nmX9 hts in_X9_readsOrder_X9 hown hK  hL hA hQ_489 (by decide) rfl (by omega) (fun Y => rfl) (by simp [xup]) rfl (by decide) lk_X9_readsOrder_f208 rfl (by decide +kernel) rfl rfl (Nat.le_of_ble_eq_true rfl) dX9_readsOrder_239 (fun H_494 locs_494 hO_494 => ?_)
                replace hf := zl_some hf
                obtain ⟨X_493, hX_493, hf⟩ := hf
                have hQ_494 := zo_eq hX_493 hO_494
                clear hO_494 hQ_489
                obtain rfl := Option.some.inj hf
                exact e_v hx hb hr hK hN hQ_494 hlocks dX9_readsOrder_242
            · rw [if_neg c_459] at hf
              refine lv_iconst (v := 1) hx hb dX9_readsOrder_63 (by decide) ?_
              refine lv_goto (tgt := 68) hx hb dX9_readsOrder_64 (by decide) ?_
              refine lv_iadd hx hb dX9_readsOrder_68 ?_
              refine k_put (ty := .int) (k := 12) (r := 22) (k' := 3) hx hb tyX9 tyX9_ok nmX9 hts in_X9_readsOrder_X9 hown hK  hL hA hQ_458 (by decide) rfl (by omega) (fun Y => rfl) (by simp [xup]) rfl (by decide) lk_X9_readsOrder_f198 rfl (by decide +kernel) rfl rfl (Nat.le_of_ble_eq_true rfl) dX9_readsOrder_69 (fun H_496 locs_496 hO_496 => ?_)
              replace hf := zl_some hf
              obtain ⟨X_495, hX_495, hf⟩ := hf
              have hQ_496 := zo_eq hX_495 hO_496
              clear hO_496 hQ_458
              refine lv_aload_n hx hb dX9_readsOrder_72 rfl (lv_at hl_6 2 rfl) ?_
              refine k_get (k := 14) (v := .ref (L 25)) hx hb hts in_X9_readsOrder_X9 hown hK hQ_496 (by decide) rfl rfl (by decide) lk_X9_readsOrder_f38 rfl dX9_readsOrder_73 ?_
              refine lv_iload_n hx hb dX9_readsOrder_76 rfl (lv_at hl_6 1 rfl) ?_
              refine lv_iload_n hx hb dX9_readsOrder_77 rfl (lv_at hl_6 0 rfl) ?_
              replace hf := zd_some hf
              obtain ⟨hi_497, hf⟩ := hf
              refine k_iast hx hb hK hL hA hQ_496 (by decide) (by decide) rfl (fun _ => rfl) hi_497 dX9_readsOrder_78 (fun H_499 locs_499 hO_499 => ?_)
              replace hf := zl_some hf
              obtain ⟨X_498, hX_498, hf⟩ := hf
              have hQ_499 := zo_eq hX_498 hO_499
              clear hO_499 hQ_496
              refine lv_aload_n hx hb dX9_readsOrder_79 rfl (lv_at hl_6 2 rfl) ?_
              refine k_get (k := 14) (v := .ref (L 25)) hx hb hts in_X9_readsOrder_X9 hown hK hQ_499 (by decide) rfl rfl (by decide) lk_X9_readsOrder_f38 rfl dX9_readsOrder_80 ?_
              refine lv_iload_n hx hb dX9_readsOrder_83 rfl (lv_at hl_6 1 rfl) ?_
              refine lv_iconst (v := 1) hx hb dX9_readsOrder_84 (by decide) ?_
              refine lv_iadd hx hb dX9_readsOrder_85 ?_
              refine lv_iload_n hx hb dX9_readsOrder_86 rfl (lv_at hl_6 0 rfl) ?_
              refine lv_bipush (v := 112) hx hb dX9_readsOrder_87 (by decide) ?_
              refine lv_icmp_eq (tgt := 98) hx hb dX9_readsOrder_89 (by decide) (fun c_500 => absurd c_500 (by decide)) (fun _ => ?_)
              refine lv_iload_n hx hb dX9_readsOrder_92 rfl (lv_at hl_6 0 rfl) ?_
              refine lv_bipush (v := 109) hx hb dX9_readsOrder_93 (by decide) ?_
              refine lv_icmp_ne (tgt := 102) hx hb dX9_readsOrder_95 (by decide) (fun _ => ?_) (fun c_501 => absurd c_501 (by decide))
              refine lv_aload_n hx hb dX9_readsOrder_102 rfl (lv_at hl_6 2 rfl) ?_
              replace hf := zi_some hf
              obtain ⟨r_503, X_502, hc_502, hf⟩ := hf
              refine k_ai (va_runV (As := []) (rest := [.int (v_1 + 1), .ref (L 25)]) ⟨hx, hb, hml, hown, hts⟩ (mX9_digit l D L ac hL _  _ _ hc_502) (cwV 0 hts gX9_readsOrder_X9_digit rfl rfl rfl (by decide +kernel) ⟨Nat.le_of_ble_eq_true rfl, Nat.le_of_ble_eq_true rfl⟩) (k_pv (j := 15) hK hN hQ_499 (by decide) rfl rfl _) rfl rfl hl_6.1 rfl (lv_room (Nat.le_of_ble_eq_true rfl)) dX9_readsOrder_103 ⟨Nat.le_of_ble_eq_true rfl, Nat.le_of_ble_eq_true rfl⟩) hA hQ_499 (fun H_504 locs_504 hO_504 => ?_)
              clear hQ_499
              replace hf := zd_some hf
              obtain ⟨hi_505, hf⟩ := hf
              refine k_iast hx hb hK hL hA hO_504 (by decide) (by decide) rfl (fun _ => rfl) hi_505 dX9_readsOrder_106 (fun H_507 locs_507 hO_507 => ?_)
              replace hf := zl_some hf
              obtain ⟨X_506, hX_506, hf⟩ := hf
              have hQ_507 := zo_eq hX_506 hO_507
              clear hO_507 hO_504
              refine lv_aload_n hx hb dX9_readsOrder_107 rfl (lv_at hl_6 2 rfl) ?_
              refine k_get (k := 14) (v := .ref (L 25)) hx hb hts in_X9_readsOrder_X9 hown hK hQ_507 (by decide) rfl rfl (by decide) lk_X9_readsOrder_f38 rfl dX9_readsOrder_108 ?_
              refine lv_iload_n hx hb dX9_readsOrder_111 rfl (lv_at hl_6 1 rfl) ?_
              refine lv_iconst (v := 2) hx hb dX9_readsOrder_112 (by decide) ?_
              refine lv_iadd hx hb dX9_readsOrder_113 ?_
              refine lv_iload_n hx hb dX9_readsOrder_114 rfl (lv_at hl_6 0 rfl) ?_
              refine lv_bipush (v := 43) hx hb dX9_readsOrder_115 (by decide) ?_
              refine lv_icmp_ne (tgt := 140) hx hb dX9_readsOrder_117 (by decide) (fun _ => ?_) (fun c_508 => absurd c_508 (by decide))
              refine lv_iconst (v := 0) hx hb dX9_readsOrder_140 (by decide) ?_
              replace hf := zd_some hf
              obtain ⟨hi_509, hf⟩ := hf
              refine k_iast hx hb hK hL hA hQ_507 (by decide) (by decide) rfl (fun _ => rfl) hi_509 dX9_readsOrder_141 (fun H_511 locs_511 hO_511 => ?_)
              replace hf := zl_some hf
              obtain ⟨X_510, hX_510, hf⟩ := hf
              have hQ_511 := zo_eq hX_510 hO_511
              clear hO_511 hQ_507
              refine lv_iload_n hx hb dX9_readsOrder_142 rfl (lv_at hl_6 0 rfl) ?_
              refine lv_bipush (v := 45) hx hb dX9_readsOrder_143 (by decide) ?_
              refine lv_icmp_ne (tgt := 158) hx hb dX9_readsOrder_145 (by decide) (fun _ => ?_) (fun c_512 => absurd c_512 (by decide))
              refine lv_aload_n hx hb dX9_readsOrder_158 rfl (lv_at hl_6 2 rfl) ?_
              refine k_get (k := 14) (v := .ref (L 25)) hx hb hts in_X9_readsOrder_X9 hown hK hQ_511 (by decide) rfl rfl (by decide) lk_X9_readsOrder_f38 rfl dX9_readsOrder_159 ?_
              refine lv_iload_n hx hb dX9_readsOrder_162 rfl (lv_at hl_6 1 rfl) ?_
              refine lv_iconst (v := 2) hx hb dX9_readsOrder_163 (by decide) ?_
              refine lv_iadd hx hb dX9_readsOrder_164 ?_
              refine lv_iload_n hx hb dX9_readsOrder_165 rfl (lv_at hl_6 0 rfl) ?_
              refine lv_bipush (v := 45) hx hb dX9_readsOrder_166 (by decide) ?_
              refine lv_icmp_eq (tgt := 177) hx hb dX9_readsOrder_168 (by decide) (fun c_513 => absurd c_513 (by decide)) (fun _ => ?_)
              refine lv_iload_n hx hb dX9_readsOrder_171 rfl (lv_at hl_6 0 rfl) ?_
              refine lv_bipush (v := 114) hx hb dX9_readsOrder_172 (by decide) ?_
              refine lv_icmp_ne (tgt := 184) hx hb dX9_readsOrder_174 (by decide) (fun c_514 => absurd (by decide) c_514) (fun _ => ?_)
              refine lv_aload_n hx hb dX9_readsOrder_177 rfl (lv_at hl_6 2 rfl) ?_
              replace hf := zi_some hf
              obtain ⟨r_516, X_515, hc_515, hf⟩ := hf
              refine k_ai (va_runV (As := []) (rest := [.int (v_1 + 2), .ref (L 25)]) ⟨hx, hb, hml, hown, hts⟩ (mX9_digit l D L ac hL _  _ _ hc_515) (cwV 0 hts gX9_readsOrder_X9_digit rfl rfl rfl (by decide +kernel) ⟨Nat.le_of_ble_eq_true rfl, Nat.le_of_ble_eq_true rfl⟩) (k_pv (j := 15) hK hN hQ_511 (by decide) rfl rfl _) rfl rfl hl_6.1 rfl (lv_room (Nat.le_of_ble_eq_true rfl)) dX9_readsOrder_178 ⟨Nat.le_of_ble_eq_true rfl, Nat.le_of_ble_eq_true rfl⟩) hA hQ_511 (fun H_517 locs_517 hO_517 => ?_)
              clear hQ_511
              refine lv_goto (tgt := 192) hx hb dX9_readsOrder_181 (by decide) ?_
              replace hf := zd_some hf
              obtain ⟨hi_518, hf⟩ := hf
              refine k_iast hx hb hK hL hA hO_517 (by decide) (by decide) rfl (fun _ => rfl) hi_518 dX9_readsOrder_192 (fun H_520 locs_520 hO_520 => ?_)
              replace hf := zl_some hf
              obtain ⟨X_519, hX_519, hf⟩ := hf
              have hQ_520 := zo_eq hX_519 hO_520
              clear hO_520 hO_517
              refine lv_aload_n hx hb dX9_readsOrder_193 rfl (lv_at hl_6 2 rfl) ?_
              refine k_get (k := 14) (v := .ref (L 25)) hx hb hts in_X9_readsOrder_X9 hown hK hQ_520 (by decide) rfl rfl (by decide) lk_X9_readsOrder_f38 rfl dX9_readsOrder_194 ?_
              refine lv_iload_n hx hb dX9_readsOrder_197 rfl (lv_at hl_6 1 rfl) ?_
              refine lv_iconst (v := 3) hx hb dX9_readsOrder_198 (by decide) ?_
              refine lv_iadd hx hb dX9_readsOrder_199 ?_
              refine lv_iload_n hx hb dX9_readsOrder_200 rfl (lv_at hl_6 0 rfl) ?_
              refine lv_bipush (v := 43) hx hb dX9_readsOrder_201 (by decide) ?_
              refine lv_icmp_ne (tgt := 219) hx hb dX9_readsOrder_203 (by decide) (fun _ => ?_) (fun c_521 => absurd c_521 (by decide))
              refine lv_iconst (v := 0) hx hb dX9_readsOrder_219 (by decide) ?_
              replace hf := zd_some hf
              obtain ⟨hi_522, hf⟩ := hf
              refine k_iast hx hb hK hL hA hQ_520 (by decide) (by decide) rfl (fun _ => rfl) hi_522 dX9_readsOrder_220 (fun H_524 locs_524 hO_524 => ?_)
              replace hf := zl_some hf
              obtain ⟨X_523, hX_523, hf⟩ := hf
              have hQ_524 := zo_eq hX_523 hO_524
              clear hO_524 hQ_520
              refine lv_aload_n hx hb dX9_readsOrder_221 rfl (lv_at hl_6 2 rfl) ?_
              refine lv_dup hx hb dX9_readsOrder_222 rfl ?_
              refine k_get (k := 15) (v := .int (X_523 22 5)) hx hb hts in_X9_readsOrder_X9 hown hK hQ_524 (by decide) rfl rfl (by decide) lk_X9_readsOrder_f208 rfl dX9_readsOrder_223 ?_
              refine lv_aload_n hx hb dX9_readsOrder_226 rfl (lv_at hl_6 2 rfl) ?_
              refine k_get (k := 13) (v := .int (X_523 22 4)) hx hb hts in_X9_readsOrder_X9 hown hK hQ_524 (by decide) rfl rfl (by decide) lk_X9_readsOrder_f201 rfl dX9_readsOrder_227 ?_
              refine lv_if_eq (tgt := 237) hx hb dX9_readsOrder_230 (by decide) (fun c_525 => ?_) (fun c_525 => ?_)
              · rw [if_pos c_525] at hf
                refine lv_iconst (v := 0) hx hb dX9_readsOrder_237 (by decide) ?_
                refine lv_iadd hx hb dX9_readsOrder_238 ?_
                refine k_put (ty := .int) (k := 15) (r := 22) (k' := 5) hx hb tyX9 tyX9_ok nmX9 hts in_X9_readsOrder_X9 hown hK  hL hA hQ_524 (by decide) rfl (by omega) (fun Y => rfl) (by simp [xup]) rfl (by decide) lk_X9_readsOrder_f208 rfl (by decide +kernel) rfl rfl (Nat.le_of_ble_eq_true rfl) dX9_readsOrder_239 (fun H_527 locs_527 hO_527 => ?_)
                replace hf := zl_some hf
                obtain ⟨X_526, hX_526, hf⟩ := hf
                have hQ_527 := zo_eq hX_526 hO_527
                clear hO_527 hQ_524
                obtain rfl := Option.some.inj hf
                exact e_v hx hb hr hK hN hQ_527 hlocks dX9_readsOrder_242
              · rw [if_neg c_525] at hf
                refine lv_iconst (v := 1) hx hb dX9_readsOrder_233 (by decide) ?_
                refine lv_goto (tgt := 238) hx hb dX9_readsOrder_234 (by decide) ?_
                refine lv_iadd hx hb dX9_readsOrder_238 ?_
                refine k_put (ty := .int) (k := 15) (r := 22) (k' := 5) hx hb tyX9 tyX9_ok nmX9 hts in_X9_readsOrder_X9 hown hK  hL hA hQ_524 (by decide) rfl (by omega) (fun Y => rfl) (by simp [xup]) rfl (by decide) lk_X9_readsOrder_f208 rfl (by decide +kernel) rfl rfl (Nat.le_of_ble_eq_true rfl) dX9_readsOrder_239 (fun H_529 locs_529 hO_529 => ?_)
                replace hf := zl_some hf
                obtain ⟨X_528, hX_528, hf⟩ := hf
                have hQ_529 := zo_eq hX_528 hO_529
                clear hO_529 hQ_524
                obtain rfl := Option.some.inj hf
                exact e_v hx hb hr hK hN hQ_529 hlocks dX9_readsOrder_242
