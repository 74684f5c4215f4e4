/-! ===== a call of both, for each number ===== -/
section LWC
variable {p : Program} {l : Launch} {e : Env} {s : State} {m : MethodId} {below : List Frame} {meth : Method} {c : Code} {D : va_G} {ad : Nat → Nat} {ac : Nat → ClassId} {A : Nat → Prop} {b L k : Nat} {xs : Nat → Int32} {S : St} {Z : State → Prop} {pc : Nat} {Lx : List (Option Value)} {st : List Value}
set_option maxHeartbeats 4000000 in
set_option maxRecDepth 100000 in
theorem lc_0 (C : LCx p s m b c D ad ac A) (hs : SX ad A b L xs s) (hk : k + 6 ≤ L) (hI : INV S) (kk : ∀ S2, INV S2 → LU p l e s m b below meth c Z D ad ac A 1155 (L0 k) [] S2) : LU p l e s m b below meth c Z D ad ac A 172 (L0 k) [] S := by
  refine mr_aload_n (i := 1) (x := 0) C dL_law_172 rfl rfl ?_
  refine mr_arg C hs 1 hk (by decide) rfl dL_law_173 dL_law_174 dL_law_175 dL_law_176 dL_law_177 ?_
  refine mr_arg C hs 2 hk (by decide) rfl dL_law_178 dL_law_179 dL_law_180 dL_law_181 dL_law_182 ?_
  refine mr_arg C hs 3 hk (by decide) rfl dL_law_183 dL_law_184 dL_law_185 dL_law_186 dL_law_187 ?_
  refine mr_arg C hs 4 hk (by decide) rfl dL_law_188 dL_law_189 dL_law_190 dL_law_191 dL_law_192 ?_
  refine mr_callVI C mdX5_hill dL_law_193 clX5_hill (gw_t 169 (by decide +kernel) rfl) (Nat.le_of_ble_eq_true rfl) rfl rfl arX5_hill (as := [.int (xs (k + 1)), .int (xs (k + 2)), .int (xs (k + 3)), .int (xs (k + 4))]) rfl (Nat.le_of_ble_eq_true rfl) (Nat.le_of_ble_eq_true rfl) (Nat.le_of_ble_eq_true rfl) fitL (ok_hill (xs (k + 1)) (xs (k + 2)) (xs (k + 3)) (xs (k + 4)) S hI) (fun x S1 h => ?_)
  refine mr_aload_n (i := 2) (x := 34) C dL_law_196 rfl rfl ?_
  refine mr_arg C hs 1 hk (by decide) rfl dL_law_197 dL_law_198 dL_law_199 dL_law_200 dL_law_201 ?_
  refine mr_arg C hs 2 hk (by decide) rfl dL_law_202 dL_law_203 dL_law_204 dL_law_205 dL_law_206 ?_
  refine mr_arg C hs 3 hk (by decide) rfl dL_law_207 dL_law_208 dL_law_209 dL_law_210 dL_law_211 ?_
  refine mr_arg C hs 4 hk (by decide) rfl dL_law_212 dL_law_213 dL_law_214 dL_law_215 dL_law_216 ?_
  refine mr_callVI C mdX6_hill dL_law_217 clX6_hill (gw_t 657 (by decide +kernel) rfl) (Nat.le_of_ble_eq_true rfl) rfl rfl arX6_hill (as := [.int (xs (k + 1)), .int (xs (k + 2)), .int (xs (k + 3)), .int (xs (k + 4))]) rfl (Nat.le_of_ble_eq_true rfl) (Nat.le_of_ble_eq_true rfl) (Nat.le_of_ble_eq_true rfl) fitL h (fun y S2 h => ?_)
  exact mr_icmp_eq C dL_law_220 (tgt := 1155) (by decide) (fun _ => kk S2 h.2) (fun q => absurd h.1 q)
set_option maxHeartbeats 4000000 in
set_option maxRecDepth 100000 in
theorem lc_1 (C : LCx p s m b c D ad ac A) (hs : SX ad A b L xs s) (hk : k + 6 ≤ L) (hI : INV S) (kk : ∀ S2, INV S2 → LU p l e s m b below meth c Z D ad ac A 1155 (L0 k) [] S2) : LU p l e s m b below meth c Z D ad ac A 225 (L0 k) [] S := by
  refine mr_aload_n (i := 1) (x := 0) C dL_law_225 rfl rfl ?_
  refine mr_arg C hs 1 hk (by decide) rfl dL_law_226 dL_law_227 dL_law_228 dL_law_229 dL_law_230 ?_
  refine mr_callVI C mdX5_sign dL_law_231 clX5_sign (gw_t 220 (by decide +kernel) rfl) (Nat.le_of_ble_eq_true rfl) rfl rfl arX5_sign (as := [.int (xs (k + 1))]) rfl (Nat.le_of_ble_eq_true rfl) (Nat.le_of_ble_eq_true rfl) (Nat.le_of_ble_eq_true rfl) fitL (ok_sign (xs (k + 1)) S hI) (fun x S1 h => ?_)
  refine mr_aload_n (i := 2) (x := 34) C dL_law_234 rfl rfl ?_
  refine mr_arg C hs 1 hk (by decide) rfl dL_law_235 dL_law_236 dL_law_237 dL_law_238 dL_law_239 ?_
  refine mr_callVI C mdX6_sign dL_law_240 clX6_sign (gw_t 707 (by decide +kernel) rfl) (Nat.le_of_ble_eq_true rfl) rfl rfl arX6_sign (as := [.int (xs (k + 1))]) rfl (Nat.le_of_ble_eq_true rfl) (Nat.le_of_ble_eq_true rfl) (Nat.le_of_ble_eq_true rfl) fitL h (fun y S2 h => ?_)
  exact mr_icmp_eq C dL_law_243 (tgt := 1155) (by decide) (fun _ => kk S2 h.2) (fun q => absurd h.1 q)
set_option maxHeartbeats 4000000 in
set_option maxRecDepth 100000 in
theorem lc_2 (C : LCx p s m b c D ad ac A) (hs : SX ad A b L xs s) (hk : k + 6 ≤ L) (hI : INV S) (kk : ∀ S2, INV S2 → LU p l e s m b below meth c Z D ad ac A 1155 (L0 k) [] S2) : LU p l e s m b below meth c Z D ad ac A 248 (L0 k) [] S := by
  refine mr_aload_n (i := 1) (x := 0) C dL_law_248 rfl rfl ?_
  refine mr_arg C hs 1 hk (by decide) rfl dL_law_249 dL_law_250 dL_law_251 dL_law_252 dL_law_253 ?_
  refine mr_arg C hs 2 hk (by decide) rfl dL_law_254 dL_law_255 dL_law_256 dL_law_257 dL_law_258 ?_
  refine mr_callVI C mdX5_set dL_law_259 clX5_set (gw_t 229 (by decide +kernel) rfl) (Nat.le_of_ble_eq_true rfl) rfl rfl arX5_set (as := [.int (xs (k + 1)), .int (xs (k + 2))]) rfl (Nat.le_of_ble_eq_true rfl) (Nat.le_of_ble_eq_true rfl) (Nat.le_of_ble_eq_true rfl) fitL (ok_set (xs (k + 1)) (xs (k + 2)) S hI) (fun x S1 h => ?_)
  refine mr_aload_n (i := 2) (x := 34) C dL_law_262 rfl rfl ?_
  refine mr_arg C hs 1 hk (by decide) rfl dL_law_263 dL_law_264 dL_law_265 dL_law_266 dL_law_267 ?_
  refine mr_arg C hs 2 hk (by decide) rfl dL_law_268 dL_law_269 dL_law_270 dL_law_271 dL_law_272 ?_
  refine mr_callVI C mdX6_set dL_law_273 clX6_set (gw_t 715 (by decide +kernel) rfl) (Nat.le_of_ble_eq_true rfl) rfl rfl arX6_set (as := [.int (xs (k + 1)), .int (xs (k + 2))]) rfl (Nat.le_of_ble_eq_true rfl) (Nat.le_of_ble_eq_true rfl) (Nat.le_of_ble_eq_true rfl) fitL h (fun y S2 h => ?_)
  exact mr_icmp_eq C dL_law_276 (tgt := 1155) (by decide) (fun _ => kk S2 h.2) (fun q => absurd h.1 q)
set_option maxHeartbeats 4000000 in
set_option maxRecDepth 100000 in
theorem lc_3 (C : LCx p s m b c D ad ac A) (hs : SX ad A b L xs s) (hk : k + 6 ≤ L) (hI : INV S) (kk : ∀ S2, INV S2 → LU p l e s m b below meth c Z D ad ac A 1155 (L0 k) [] S2) : LU p l e s m b below meth c Z D ad ac A 281 (L0 k) [] S := by
  refine mr_aload_n (i := 1) (x := 0) C dL_law_281 rfl rfl ?_
  refine mr_arg C hs 1 hk (by decide) rfl dL_law_282 dL_law_283 dL_law_284 dL_law_285 dL_law_286 ?_
  refine mr_callVI C mdX5_party dL_law_287 clX5_party (gw_t 233 (by decide +kernel) rfl) (Nat.le_of_ble_eq_true rfl) rfl rfl arX5_party (as := [.int (xs (k + 1))]) rfl (Nat.le_of_ble_eq_true rfl) (Nat.le_of_ble_eq_true rfl) (Nat.le_of_ble_eq_true rfl) fitL (ok_party (xs (k + 1)) S hI) (fun x S1 h => ?_)
  refine mr_aload_n (i := 2) (x := 34) C dL_law_290 rfl rfl ?_
  refine mr_arg C hs 1 hk (by decide) rfl dL_law_291 dL_law_292 dL_law_293 dL_law_294 dL_law_295 ?_
  refine mr_callVI C mdX6_party dL_law_296 clX6_party (gw_t 720 (by decide +kernel) rfl) (Nat.le_of_ble_eq_true rfl) rfl rfl arX6_party (as := [.int (xs (k + 1))]) rfl (Nat.le_of_ble_eq_true rfl) (Nat.le_of_ble_eq_true rfl) (Nat.le_of_ble_eq_true rfl) fitL h (fun y S2 h => ?_)
  exact mr_icmp_eq C dL_law_299 (tgt := 1155) (by decide) (fun _ => kk S2 h.2) (fun q => absurd h.1 q)
set_option maxHeartbeats 4000000 in
set_option maxRecDepth 100000 in
theorem lc_4 (C : LCx p s m b c D ad ac A) (hs : SX ad A b L xs s) (hk : k + 6 ≤ L) (hI : INV S) (kk : ∀ S2, INV S2 → LU p l e s m b below meth c Z D ad ac A 1155 (L0 k) [] S2) : LU p l e s m b below meth c Z D ad ac A 304 (L0 k) [] S := by
  refine mr_aload_n (i := 1) (x := 0) C dL_law_304 rfl rfl ?_
  refine mr_arg C hs 1 hk (by decide) rfl dL_law_305 dL_law_306 dL_law_307 dL_law_308 dL_law_309 ?_
  refine mr_b01 C dL_law_310 dL_law_313 dL_law_314 dL_law_317 ?_
  refine mr_callVI C mdX5_wet dL_law_318 clX5_wet (gw_t 241 (by decide +kernel) rfl) (Nat.le_of_ble_eq_true rfl) rfl rfl arX5_wet (as := [.int ((if xs (k + 1) = 0 then 0 else 1))]) rfl (Nat.le_of_ble_eq_true rfl) (Nat.le_of_ble_eq_true rfl) (Nat.le_of_ble_eq_true rfl) fitL (ok_wet ((if xs (k + 1) = 0 then 0 else 1)) (isB_01 _) S hI) (fun x S1 h => ?_)
  refine mr_aload_n (i := 2) (x := 34) C dL_law_321 rfl rfl ?_
  refine mr_arg C hs 1 hk (by decide) rfl dL_law_322 dL_law_323 dL_law_324 dL_law_325 dL_law_326 ?_
  refine mr_b01 C dL_law_327 dL_law_330 dL_law_331 dL_law_334 ?_
  refine mr_callVI C mdX6_wet dL_law_335 clX6_wet (gw_t 728 (by decide +kernel) rfl) (Nat.le_of_ble_eq_true rfl) rfl rfl arX6_wet (as := [.int ((if xs (k + 1) = 0 then 0 else 1))]) rfl (Nat.le_of_ble_eq_true rfl) (Nat.le_of_ble_eq_true rfl) (Nat.le_of_ble_eq_true rfl) fitL h (fun y S2 h => ?_)
  exact mr_icmp_eq C dL_law_338 (tgt := 1155) (by decide) (fun _ => kk S2 h.2) (fun q => absurd h.1 q)
set_option maxHeartbeats 4000000 in
set_option maxRecDepth 100000 in
theorem lc_5 (C : LCx p s m b c D ad ac A) (hs : SX ad A b L xs s) (hk : k + 6 ≤ L) (hI : INV S) (kk : ∀ S2, INV S2 → LU p l e s m b below meth c Z D ad ac A 1155 (L0 k) [] S2) : LU p l e s m b below meth c Z D ad ac A 343 (L0 k) [] S := by
  refine mr_aload_n (i := 1) (x := 0) C dL_law_343 rfl rfl ?_
  refine mr_arg C hs 1 hk (by decide) rfl dL_law_344 dL_law_345 dL_law_346 dL_law_347 dL_law_348 ?_
  refine mr_arg C hs 2 hk (by decide) rfl dL_law_349 dL_law_350 dL_law_351 dL_law_352 dL_law_353 ?_
  refine mr_callVI C mdX5_vote dL_law_354 clX5_vote (gw_t 249 (by decide +kernel) rfl) (Nat.le_of_ble_eq_true rfl) rfl rfl arX5_vote (as := [.int (xs (k + 1)), .int (xs (k + 2))]) rfl (Nat.le_of_ble_eq_true rfl) (Nat.le_of_ble_eq_true rfl) (Nat.le_of_ble_eq_true rfl) fitL (ok_vote (xs (k + 1)) (xs (k + 2)) S hI) (fun x S1 h => ?_)
  refine mr_aload_n (i := 2) (x := 34) C dL_law_357 rfl rfl ?_
  refine mr_arg C hs 1 hk (by decide) rfl dL_law_358 dL_law_359 dL_law_360 dL_law_361 dL_law_362 ?_
  refine mr_arg C hs 2 hk (by decide) rfl dL_law_363 dL_law_364 dL_law_365 dL_law_366 dL_law_367 ?_
  refine mr_callVI C mdX6_vote dL_law_368 clX6_vote (gw_t 732 (by decide +kernel) rfl) (Nat.le_of_ble_eq_true rfl) rfl rfl arX6_vote (as := [.int (xs (k + 1)), .int (xs (k + 2))]) rfl (Nat.le_of_ble_eq_true rfl) (Nat.le_of_ble_eq_true rfl) (Nat.le_of_ble_eq_true rfl) fitL h (fun y S2 h => ?_)
  exact mr_icmp_eq C dL_law_371 (tgt := 1155) (by decide) (fun _ => kk S2 h.2) (fun q => absurd h.1 q)
set_option maxHeartbeats 4000000 in
set_option maxRecDepth 100000 in
theorem lc_6 (C : LCx p s m b c D ad ac A) (hs : SX ad A b L xs s) (hk : k + 6 ≤ L) (hI : INV S) (kk : ∀ S2, INV S2 → LU p l e s m b below meth c Z D ad ac A 1155 (L0 k) [] S2) : LU p l e s m b below meth c Z D ad ac A 376 (L0 k) [] S := by
  refine mr_aload_n (i := 1) (x := 0) C dL_law_376 rfl rfl ?_
  refine mr_arg C hs 1 hk (by decide) rfl dL_law_377 dL_law_378 dL_law_379 dL_law_380 dL_law_381 ?_
  refine mr_arg C hs 2 hk (by decide) rfl dL_law_382 dL_law_383 dL_law_384 dL_law_385 dL_law_386 ?_
  refine mr_callVI C mdX5_ofVote dL_law_387 clX5_ofVote (gw_t 260 (by decide +kernel) rfl) (Nat.le_of_ble_eq_true rfl) rfl rfl arX5_ofVote (as := [.int (xs (k + 1)), .int (xs (k + 2))]) rfl (Nat.le_of_ble_eq_true rfl) (Nat.le_of_ble_eq_true rfl) (Nat.le_of_ble_eq_true rfl) fitL (ok_ofVote (xs (k + 1)) (xs (k + 2)) S hI) (fun x S1 h => ?_)
  refine mr_aload_n (i := 2) (x := 34) C dL_law_390 rfl rfl ?_
  refine mr_arg C hs 1 hk (by decide) rfl dL_law_391 dL_law_392 dL_law_393 dL_law_394 dL_law_395 ?_
  refine mr_arg C hs 2 hk (by decide) rfl dL_law_396 dL_law_397 dL_law_398 dL_law_399 dL_law_400 ?_
  refine mr_callVI C mdX6_ofVote dL_law_401 clX6_ofVote (gw_t 736 (by decide +kernel) rfl) (Nat.le_of_ble_eq_true rfl) rfl rfl arX6_ofVote (as := [.int (xs (k + 1)), .int (xs (k + 2))]) rfl (Nat.le_of_ble_eq_true rfl) (Nat.le_of_ble_eq_true rfl) (Nat.le_of_ble_eq_true rfl) fitL h (fun y S2 h => ?_)
  exact mr_icmp_eq C dL_law_404 (tgt := 1155) (by decide) (fun _ => kk S2 h.2) (fun q => absurd h.1 q)
set_option maxHeartbeats 4000000 in
set_option maxRecDepth 100000 in
theorem lc_7 (C : LCx p s m b c D ad ac A) (hs : SX ad A b L xs s) (hk : k + 6 ≤ L) (hI : INV S) (kk : ∀ S2, INV S2 → LU p l e s m b below meth c Z D ad ac A 1155 (L0 k) [] S2) : LU p l e s m b below meth c Z D ad ac A 409 (L0 k) [] S := by
  refine mr_aload_n (i := 1) (x := 0) C dL_law_409 rfl rfl ?_
  refine mr_arg C hs 1 hk (by decide) rfl dL_law_410 dL_law_411 dL_law_412 dL_law_413 dL_law_414 ?_
  refine mr_callVI C mdX5_back dL_law_415 clX5_back (gw_t 276 (by decide +kernel) rfl) (Nat.le_of_ble_eq_true rfl) rfl rfl arX5_back (as := [.int (xs (k + 1))]) rfl (Nat.le_of_ble_eq_true rfl) (Nat.le_of_ble_eq_true rfl) (Nat.le_of_ble_eq_true rfl) fitL (ok_back (xs (k + 1)) S hI) (fun x S1 h => ?_)
  refine mr_aload_n (i := 2) (x := 34) C dL_law_418 rfl rfl ?_
  refine mr_arg C hs 1 hk (by decide) rfl dL_law_419 dL_law_420 dL_law_421 dL_law_422 dL_law_423 ?_
  refine mr_callVI C mdX6_back dL_law_424 clX6_back (gw_t 752 (by decide +kernel) rfl) (Nat.le_of_ble_eq_true rfl) rfl rfl arX6_back (as := [.int (xs (k + 1))]) rfl (Nat.le_of_ble_eq_true rfl) (Nat.le_of_ble_eq_true rfl) (Nat.le_of_ble_eq_true rfl) fitL h (fun y S2 h => ?_)
  exact mr_icmp_eq C dL_law_427 (tgt := 1155) (by decide) (fun _ => kk S2 h.2) (fun q => absurd h.1 q)
set_option maxHeartbeats 4000000 in
set_option maxRecDepth 100000 in
theorem lc_8 (C : LCx p s m b c D ad ac A) (hs : SX ad A b L xs s) (hk : k + 6 ≤ L) (hI : INV S) (kk : ∀ S2, INV S2 → LU p l e s m b below meth c Z D ad ac A 1155 (L0 k) [] S2) : LU p l e s m b below meth c Z D ad ac A 432 (L0 k) [] S := by
  refine mr_aload_n (i := 1) (x := 0) C dL_law_432 rfl rfl ?_
  refine mr_arg C hs 1 hk (by decide) rfl dL_law_433 dL_law_434 dL_law_435 dL_law_436 dL_law_437 ?_
  refine mr_arg C hs 2 hk (by decide) rfl dL_law_438 dL_law_439 dL_law_440 dL_law_441 dL_law_442 ?_
  refine mr_arg C hs 3 hk (by decide) rfl dL_law_443 dL_law_444 dL_law_445 dL_law_446 dL_law_447 ?_
  refine mr_arg C hs 4 hk (by decide) rfl dL_law_448 dL_law_449 dL_law_450 dL_law_451 dL_law_452 ?_
  refine mr_callVI C mdX5_roll dL_law_453 clX5_roll (gw_t 280 (by decide +kernel) rfl) (Nat.le_of_ble_eq_true rfl) rfl rfl arX5_roll (as := [.int (xs (k + 1)), .int (xs (k + 2)), .int (xs (k + 3)), .int (xs (k + 4))]) rfl (Nat.le_of_ble_eq_true rfl) (Nat.le_of_ble_eq_true rfl) (Nat.le_of_ble_eq_true rfl) fitL (ok_roll (xs (k + 1)) (xs (k + 2)) (xs (k + 3)) (xs (k + 4)) S hI) (fun x S1 h => ?_)
  refine mr_aload_n (i := 2) (x := 34) C dL_law_456 rfl rfl ?_
  refine mr_arg C hs 1 hk (by decide) rfl dL_law_457 dL_law_458 dL_law_459 dL_law_460 dL_law_461 ?_
  refine mr_arg C hs 2 hk (by decide) rfl dL_law_462 dL_law_463 dL_law_464 dL_law_465 dL_law_466 ?_
  refine mr_arg C hs 3 hk (by decide) rfl dL_law_467 dL_law_468 dL_law_469 dL_law_470 dL_law_471 ?_
  refine mr_arg C hs 4 hk (by decide) rfl dL_law_472 dL_law_473 dL_law_474 dL_law_475 dL_law_476 ?_
  refine mr_callVI C mdX6_roll dL_law_477 clX6_roll (gw_t 756 (by decide +kernel) rfl) (Nat.le_of_ble_eq_true rfl) rfl rfl arX6_roll (as := [.int (xs (k + 1)), .int (xs (k + 2)), .int (xs (k + 3)), .int (xs (k + 4))]) rfl (Nat.le_of_ble_eq_true rfl) (Nat.le_of_ble_eq_true rfl) (Nat.le_of_ble_eq_true rfl) fitL h (fun y S2 h => ?_)
  exact mr_icmp_eq C dL_law_480 (tgt := 1155) (by decide) (fun _ => kk S2 h.2) (fun q => absurd h.1 q)
set_option maxHeartbeats 4000000 in
set_option maxRecDepth 100000 in
theorem lc_9 (C : LCx p s m b c D ad ac A) (hs : SX ad A b L xs s) (hk : k + 6 ≤ L) (hI : INV S) (kk : ∀ S2, INV S2 → LU p l e s m b below meth c Z D ad ac A 1155 (L0 k) [] S2) : LU p l e s m b below meth c Z D ad ac A 485 (L0 k) [] S := by
  refine mr_aload_n (i := 1) (x := 0) C dL_law_485 rfl rfl ?_
  refine mr_arg C hs 1 hk (by decide) rfl dL_law_486 dL_law_487 dL_law_488 dL_law_489 dL_law_490 ?_
  refine mr_arg C hs 2 hk (by decide) rfl dL_law_491 dL_law_492 dL_law_493 dL_law_494 dL_law_495 ?_
  refine mr_arg C hs 3 hk (by decide) rfl dL_law_496 dL_law_497 dL_law_498 dL_law_499 dL_law_500 ?_
  refine mr_callVJ C mdX5_chance dL_law_501 clX5_chance (gw_t 304 (by decide +kernel) rfl) (Nat.le_of_ble_eq_true rfl) rfl rfl arX5_chance (as := [.int (xs (k + 1)), .int (xs (k + 2)), .int (xs (k + 3))]) rfl (Nat.le_of_ble_eq_true rfl) (Nat.le_of_ble_eq_true rfl) (Nat.le_of_ble_eq_true rfl) fitL (ok_chance (xs (k + 1)) (xs (k + 2)) (xs (k + 3)) S hI) (fun x S1 h => ?_)
  refine mr_aload_n (i := 2) (x := 34) C dL_law_504 rfl rfl ?_
  refine mr_arg C hs 1 hk (by decide) rfl dL_law_505 dL_law_506 dL_law_507 dL_law_508 dL_law_509 ?_
  refine mr_arg C hs 2 hk (by decide) rfl dL_law_510 dL_law_511 dL_law_512 dL_law_513 dL_law_514 ?_
  refine mr_arg C hs 3 hk (by decide) rfl dL_law_515 dL_law_516 dL_law_517 dL_law_518 dL_law_519 ?_
  refine mr_callVJ C mdX6_chance dL_law_520 clX6_chance (gw_t 773 (by decide +kernel) rfl) (Nat.le_of_ble_eq_true rfl) rfl rfl arX6_chance (as := [.int (xs (k + 1)), .int (xs (k + 2)), .int (xs (k + 3))]) rfl (Nat.le_of_ble_eq_true rfl) (Nat.le_of_ble_eq_true rfl) (Nat.le_of_ble_eq_true rfl) fitL h (fun y S2 h => ?_)
  exact mr_lcmp_eq C dL_law_523 dL_law_524 (tgt := 1155) (by decide) (fun _ => kk S2 h.2) (fun q => absurd h.1 q)
set_option maxHeartbeats 4000000 in
set_option maxRecDepth 100000 in
theorem lc_10 (C : LCx p s m b c D ad ac A) (hs : SX ad A b L xs s) (hk : k + 6 ≤ L) (hI : INV S) (kk : ∀ S2, INV S2 → LU p l e s m b below meth c Z D ad ac A 1155 (L0 k) [] S2) : LU p l e s m b below meth c Z D ad ac A 529 (L0 k) [] S := by
  refine mr_aload_n (i := 1) (x := 0) C dL_law_529 rfl rfl ?_
  refine mr_arg C hs 1 hk (by decide) rfl dL_law_530 dL_law_531 dL_law_532 dL_law_533 dL_law_534 ?_
  refine mr_arg C hs 2 hk (by decide) rfl dL_law_535 dL_law_536 dL_law_537 dL_law_538 dL_law_539 ?_
  refine mr_callVJ C mdX5_expects dL_law_540 clX5_expects (gw_t 339 (by decide +kernel) rfl) (Nat.le_of_ble_eq_true rfl) rfl rfl arX5_expects (as := [.int (xs (k + 1)), .int (xs (k + 2))]) rfl (Nat.le_of_ble_eq_true rfl) (Nat.le_of_ble_eq_true rfl) (Nat.le_of_ble_eq_true rfl) fitL (ok_expects (xs (k + 1)) (xs (k + 2)) S hI) (fun x S1 h => ?_)
  refine mr_aload_n (i := 2) (x := 34) C dL_law_543 rfl rfl ?_
  refine mr_arg C hs 1 hk (by decide) rfl dL_law_544 dL_law_545 dL_law_546 dL_law_547 dL_law_548 ?_
  refine mr_arg C hs 2 hk (by decide) rfl dL_law_549 dL_law_550 dL_law_551 dL_law_552 dL_law_553 ?_
  refine mr_callVJ C mdX6_expects dL_law_554 clX6_expects (gw_t 793 (by decide +kernel) rfl) (Nat.le_of_ble_eq_true rfl) rfl rfl arX6_expects (as := [.int (xs (k + 1)), .int (xs (k + 2))]) rfl (Nat.le_of_ble_eq_true rfl) (Nat.le_of_ble_eq_true rfl) (Nat.le_of_ble_eq_true rfl) fitL h (fun y S2 h => ?_)
  exact mr_lcmp_eq C dL_law_557 dL_law_558 (tgt := 1155) (by decide) (fun _ => kk S2 h.2) (fun q => absurd h.1 q)
set_option maxHeartbeats 4000000 in
set_option maxRecDepth 100000 in
theorem lc_11 (C : LCx p s m b c D ad ac A) (hs : SX ad A b L xs s) (hk : k + 6 ≤ L) (hI : INV S) (kk : ∀ S2, INV S2 → LU p l e s m b below meth c Z D ad ac A 1155 (L0 k) [] S2) : LU p l e s m b below meth c Z D ad ac A 563 (L0 k) [] S := by
  refine mr_aload_n (i := 1) (x := 0) C dL_law_563 rfl rfl ?_
  refine mr_arg C hs 1 hk (by decide) rfl dL_law_564 dL_law_565 dL_law_566 dL_law_567 dL_law_568 ?_
  refine mr_arg C hs 2 hk (by decide) rfl dL_law_569 dL_law_570 dL_law_571 dL_law_572 dL_law_573 ?_
  refine mr_callVI C mdX5_start dL_law_574 clX5_start (gw_t 362 (by decide +kernel) rfl) (Nat.le_of_ble_eq_true rfl) rfl rfl arX5_start (as := [.int (xs (k + 1)), .int (xs (k + 2))]) rfl (Nat.le_of_ble_eq_true rfl) (Nat.le_of_ble_eq_true rfl) (Nat.le_of_ble_eq_true rfl) fitL (ok_start (xs (k + 1)) (xs (k + 2)) S hI) (fun x S1 h => ?_)
  refine mr_aload_n (i := 2) (x := 34) C dL_law_577 rfl rfl ?_
  refine mr_arg C hs 1 hk (by decide) rfl dL_law_578 dL_law_579 dL_law_580 dL_law_581 dL_law_582 ?_
  refine mr_arg C hs 2 hk (by decide) rfl dL_law_583 dL_law_584 dL_law_585 dL_law_586 dL_law_587 ?_
  refine mr_callVI C mdX6_start dL_law_588 clX6_start (gw_t 808 (by decide +kernel) rfl) (Nat.le_of_ble_eq_true rfl) rfl rfl arX6_start (as := [.int (xs (k + 1)), .int (xs (k + 2))]) rfl (Nat.le_of_ble_eq_true rfl) (Nat.le_of_ble_eq_true rfl) (Nat.le_of_ble_eq_true rfl) fitL h (fun y S2 h => ?_)
  exact mr_icmp_eq C dL_law_591 (tgt := 1155) (by decide) (fun _ => kk S2 h.2) (fun q => absurd h.1 q)
set_option maxHeartbeats 4000000 in
set_option maxRecDepth 100000 in
theorem lc_12 (C : LCx p s m b c D ad ac A) (hs : SX ad A b L xs s) (hk : k + 6 ≤ L) (hI : INV S) (kk : ∀ S2, INV S2 → LU p l e s m b below meth c Z D ad ac A 1155 (L0 k) [] S2) : LU p l e s m b below meth c Z D ad ac A 596 (L0 k) [] S := by
  refine mr_aload_n (i := 1) (x := 0) C dL_law_596 rfl rfl ?_
  refine mr_arg C hs 1 hk (by decide) rfl dL_law_597 dL_law_598 dL_law_599 dL_law_600 dL_law_601 ?_
  refine mr_callVI C mdX5_move dL_law_602 clX5_move (gw_t 370 (by decide +kernel) rfl) (Nat.le_of_ble_eq_true rfl) rfl rfl arX5_move (as := [.int (xs (k + 1))]) rfl (Nat.le_of_ble_eq_true rfl) (Nat.le_of_ble_eq_true rfl) (Nat.le_of_ble_eq_true rfl) fitL (ok_move (xs (k + 1)) S hI) (fun x S1 h => ?_)
  refine mr_aload_n (i := 2) (x := 34) C dL_law_605 rfl rfl ?_
  refine mr_arg C hs 1 hk (by decide) rfl dL_law_606 dL_law_607 dL_law_608 dL_law_609 dL_law_610 ?_
  refine mr_callVI C mdX6_move dL_law_611 clX6_move (gw_t 813 (by decide +kernel) rfl) (Nat.le_of_ble_eq_true rfl) rfl rfl arX6_move (as := [.int (xs (k + 1))]) rfl (Nat.le_of_ble_eq_true rfl) (Nat.le_of_ble_eq_true rfl) (Nat.le_of_ble_eq_true rfl) fitL h (fun y S2 h => ?_)
  exact mr_icmp_eq C dL_law_614 (tgt := 1155) (by decide) (fun _ => kk S2 h.2) (fun q => absurd h.1 q)
set_option maxHeartbeats 4000000 in
set_option maxRecDepth 100000 in
theorem lc_13 (C : LCx p s m b c D ad ac A) (hs : SX ad A b L xs s) (hk : k + 6 ≤ L) (hI : INV S) (kk : ∀ S2, INV S2 → LU p l e s m b below meth c Z D ad ac A 1155 (L0 k) [] S2) : LU p l e s m b below meth c Z D ad ac A 619 (L0 k) [] S := by
  refine mr_aload_n (i := 1) (x := 0) C dL_law_619 rfl rfl ?_
  refine mr_arg C hs 1 hk (by decide) rfl dL_law_620 dL_law_621 dL_law_622 dL_law_623 dL_law_624 ?_
  refine mr_arg C hs 2 hk (by decide) rfl dL_law_625 dL_law_626 dL_law_627 dL_law_628 dL_law_629 ?_
  refine mr_callVI C mdX5_answer dL_law_630 clX5_answer (gw_t 386 (by decide +kernel) rfl) (Nat.le_of_ble_eq_true rfl) rfl rfl arX5_answer (as := [.int (xs (k + 1)), .int (xs (k + 2))]) rfl (Nat.le_of_ble_eq_true rfl) (Nat.le_of_ble_eq_true rfl) (Nat.le_of_ble_eq_true rfl) fitL (ok_answer (xs (k + 1)) (xs (k + 2)) S hI) (fun x S1 h => ?_)
  refine mr_aload_n (i := 2) (x := 34) C dL_law_633 rfl rfl ?_
  refine mr_arg C hs 1 hk (by decide) rfl dL_law_634 dL_law_635 dL_law_636 dL_law_637 dL_law_638 ?_
  refine mr_arg C hs 2 hk (by decide) rfl dL_law_639 dL_law_640 dL_law_641 dL_law_642 dL_law_643 ?_
  refine mr_callVI C mdX6_answer dL_law_644 clX6_answer (gw_t 821 (by decide +kernel) rfl) (Nat.le_of_ble_eq_true rfl) rfl rfl arX6_answer (as := [.int (xs (k + 1)), .int (xs (k + 2))]) rfl (Nat.le_of_ble_eq_true rfl) (Nat.le_of_ble_eq_true rfl) (Nat.le_of_ble_eq_true rfl) fitL h (fun y S2 h => ?_)
  exact mr_icmp_eq C dL_law_647 (tgt := 1155) (by decide) (fun _ => kk S2 h.2) (fun q => absurd h.1 q)
set_option maxHeartbeats 4000000 in
set_option maxRecDepth 100000 in
theorem lc_14 (C : LCx p s m b c D ad ac A) (hs : SX ad A b L xs s) (hk : k + 6 ≤ L) (hI : INV S) (kk : ∀ S2, INV S2 → LU p l e s m b below meth c Z D ad ac A 1155 (L0 k) [] S2) : LU p l e s m b below meth c Z D ad ac A 652 (L0 k) [] S := by
  refine mr_aload_n (i := 1) (x := 0) C dL_law_652 rfl rfl ?_
  refine mr_arg C hs 1 hk (by decide) rfl dL_law_653 dL_law_654 dL_law_655 dL_law_656 dL_law_657 ?_
  refine mr_callVI C mdX5_likeliest dL_law_658 clX5_likeliest (gw_t 390 (by decide +kernel) rfl) (Nat.le_of_ble_eq_true rfl) rfl rfl arX5_likeliest (as := [.int (xs (k + 1))]) rfl (Nat.le_of_ble_eq_true rfl) (Nat.le_of_ble_eq_true rfl) (Nat.le_of_ble_eq_true rfl) fitL (ok_likeliest (xs (k + 1)) S hI) (fun x S1 h => ?_)
  refine mr_aload_n (i := 2) (x := 34) C dL_law_661 rfl rfl ?_
  refine mr_arg C hs 1 hk (by decide) rfl dL_law_662 dL_law_663 dL_law_664 dL_law_665 dL_law_666 ?_
  refine mr_callVI C mdX6_likeliest dL_law_667 clX6_likeliest (gw_t 825 (by decide +kernel) rfl) (Nat.le_of_ble_eq_true rfl) rfl rfl arX6_likeliest (as := [.int (xs (k + 1))]) rfl (Nat.le_of_ble_eq_true rfl) (Nat.le_of_ble_eq_true rfl) (Nat.le_of_ble_eq_true rfl) fitL h (fun y S2 h => ?_)
  exact mr_icmp_eq C dL_law_670 (tgt := 1155) (by decide) (fun _ => kk S2 h.2) (fun q => absurd h.1 q)
set_option maxHeartbeats 4000000 in
set_option maxRecDepth 100000 in
theorem lc_15 (C : LCx p s m b c D ad ac A) (hs : SX ad A b L xs s) (hk : k + 6 ≤ L) (hI : INV S) (kk : ∀ S2, INV S2 → LU p l e s m b below meth c Z D ad ac A 1155 (L0 k) [] S2) : LU p l e s m b below meth c Z D ad ac A 675 (L0 k) [] S := by
  refine mr_aload_n (i := 1) (x := 0) C dL_law_675 rfl rfl ?_
  refine mr_arg C hs 1 hk (by decide) rfl dL_law_676 dL_law_677 dL_law_678 dL_law_679 dL_law_680 ?_
  refine mr_callVI C mdX5_tally dL_law_681 clX5_tally (gw_t 400 (by decide +kernel) rfl) (Nat.le_of_ble_eq_true rfl) rfl rfl arX5_tally (as := [.int (xs (k + 1))]) rfl (Nat.le_of_ble_eq_true rfl) (Nat.le_of_ble_eq_true rfl) (Nat.le_of_ble_eq_true rfl) fitL (ok_tally (xs (k + 1)) S hI) (fun x S1 h => ?_)
  refine mr_aload_n (i := 2) (x := 34) C dL_law_684 rfl rfl ?_
  refine mr_arg C hs 1 hk (by decide) rfl dL_law_685 dL_law_686 dL_law_687 dL_law_688 dL_law_689 ?_
  refine mr_callVI C mdX6_tally dL_law_690 clX6_tally (gw_t 833 (by decide +kernel) rfl) (Nat.le_of_ble_eq_true rfl) rfl rfl arX6_tally (as := [.int (xs (k + 1))]) rfl (Nat.le_of_ble_eq_true rfl) (Nat.le_of_ble_eq_true rfl) (Nat.le_of_ble_eq_true rfl) fitL h (fun y S2 h => ?_)
  exact mr_icmp_eq C dL_law_693 (tgt := 1155) (by decide) (fun _ => kk S2 h.2) (fun q => absurd h.1 q)
set_option maxHeartbeats 4000000 in
set_option maxRecDepth 100000 in
theorem lc_16 (C : LCx p s m b c D ad ac A) (hs : SX ad A b L xs s) (hk : k + 6 ≤ L) (hI : INV S) (kk : ∀ S2, INV S2 → LU p l e s m b below meth c Z D ad ac A 1155 (L0 k) [] S2) : LU p l e s m b below meth c Z D ad ac A 698 (L0 k) [] S := by
  refine mr_aload_n (i := 1) (x := 0) C dL_law_698 rfl rfl ?_
  refine mr_arg C hs 1 hk (by decide) rfl dL_law_699 dL_law_700 dL_law_701 dL_law_702 dL_law_703 ?_
  refine mr_callVI C mdX5_winner dL_law_704 clX5_winner (gw_t 417 (by decide +kernel) rfl) (Nat.le_of_ble_eq_true rfl) rfl rfl arX5_winner (as := [.int (xs (k + 1))]) rfl (Nat.le_of_ble_eq_true rfl) (Nat.le_of_ble_eq_true rfl) (Nat.le_of_ble_eq_true rfl) fitL (ok_winner (xs (k + 1)) S hI) (fun x S1 h => ?_)
  refine mr_aload_n (i := 2) (x := 34) C dL_law_707 rfl rfl ?_
  refine mr_arg C hs 1 hk (by decide) rfl dL_law_708 dL_law_709 dL_law_710 dL_law_711 dL_law_712 ?_
  refine mr_callVI C mdX6_winner dL_law_713 clX6_winner (gw_t 841 (by decide +kernel) rfl) (Nat.le_of_ble_eq_true rfl) rfl rfl arX6_winner (as := [.int (xs (k + 1))]) rfl (Nat.le_of_ble_eq_true rfl) (Nat.le_of_ble_eq_true rfl) (Nat.le_of_ble_eq_true rfl) fitL h (fun y S2 h => ?_)
  exact mr_icmp_eq C dL_law_716 (tgt := 1155) (by decide) (fun _ => kk S2 h.2) (fun q => absurd h.1 q)
set_option maxHeartbeats 4000000 in
set_option maxRecDepth 100000 in
theorem lc_17 (C : LCx p s m b c D ad ac A) (hs : SX ad A b L xs s) (hk : k + 6 ≤ L) (hI : INV S) (kk : ∀ S2, INV S2 → LU p l e s m b below meth c Z D ad ac A 1155 (L0 k) [] S2) : LU p l e s m b below meth c Z D ad ac A 721 (L0 k) [] S := by
  refine mr_aload_n (i := 1) (x := 0) C dL_law_721 rfl rfl ?_
  refine mr_arg C hs 1 hk (by decide) rfl dL_law_722 dL_law_723 dL_law_724 dL_law_725 dL_law_726 ?_
  refine mr_callVJ C mdX5_dams dL_law_727 clX5_dams (gw_t 433 (by decide +kernel) rfl) (Nat.le_of_ble_eq_true rfl) rfl rfl arX5_dams (as := [.int (xs (k + 1))]) rfl (Nat.le_of_ble_eq_true rfl) (Nat.le_of_ble_eq_true rfl) (Nat.le_of_ble_eq_true rfl) fitL (ok_dams (xs (k + 1)) S hI) (fun x S1 h => ?_)
  refine mr_aload_n (i := 2) (x := 34) C dL_law_730 rfl rfl ?_
  refine mr_arg C hs 1 hk (by decide) rfl dL_law_731 dL_law_732 dL_law_733 dL_law_734 dL_law_735 ?_
  refine mr_callVJ C mdX6_dams dL_law_736 clX6_dams (gw_t 849 (by decide +kernel) rfl) (Nat.le_of_ble_eq_true rfl) rfl rfl arX6_dams (as := [.int (xs (k + 1))]) rfl (Nat.le_of_ble_eq_true rfl) (Nat.le_of_ble_eq_true rfl) (Nat.le_of_ble_eq_true rfl) fitL h (fun y S2 h => ?_)
  exact mr_lcmp_eq C dL_law_739 dL_law_740 (tgt := 1155) (by decide) (fun _ => kk S2 h.2) (fun q => absurd h.1 q)
set_option maxHeartbeats 4000000 in
set_option maxRecDepth 100000 in
theorem lc_18 (C : LCx p s m b c D ad ac A) (hs : SX ad A b L xs s) (hk : k + 6 ≤ L) (hI : INV S) (kk : ∀ S2, INV S2 → LU p l e s m b below meth c Z D ad ac A 1155 (L0 k) [] S2) : LU p l e s m b below meth c Z D ad ac A 745 (L0 k) [] S := by
  refine mr_aload_n (i := 1) (x := 0) C dL_law_745 rfl rfl ?_
  refine mr_arg C hs 1 hk (by decide) rfl dL_law_746 dL_law_747 dL_law_748 dL_law_749 dL_law_750 ?_
  refine mr_arg C hs 2 hk (by decide) rfl dL_law_751 dL_law_752 dL_law_753 dL_law_754 dL_law_755 ?_
  refine mr_arg C hs 3 hk (by decide) rfl dL_law_756 dL_law_757 dL_law_758 dL_law_759 dL_law_760 ?_
  refine mr_arg C hs 4 hk (by decide) rfl dL_law_761 dL_law_762 dL_law_763 dL_law_764 dL_law_765 ?_
  refine mr_callVI C mdX5_ways dL_law_766 clX5_ways (gw_t 441 (by decide +kernel) rfl) (Nat.le_of_ble_eq_true rfl) rfl rfl arX5_ways (as := [.int (xs (k + 1)), .int (xs (k + 2)), .int (xs (k + 3)), .int (xs (k + 4))]) rfl (Nat.le_of_ble_eq_true rfl) (Nat.le_of_ble_eq_true rfl) (Nat.le_of_ble_eq_true rfl) fitL (ok_ways (xs (k + 1)) (xs (k + 2)) (xs (k + 3)) (xs (k + 4)) S hI) (fun x S1 h => ?_)
  refine mr_aload_n (i := 2) (x := 34) C dL_law_769 rfl rfl ?_
  refine mr_arg C hs 1 hk (by decide) rfl dL_law_770 dL_law_771 dL_law_772 dL_law_773 dL_law_774 ?_
  refine mr_arg C hs 2 hk (by decide) rfl dL_law_775 dL_law_776 dL_law_777 dL_law_778 dL_law_779 ?_
  refine mr_arg C hs 3 hk (by decide) rfl dL_law_780 dL_law_781 dL_law_782 dL_law_783 dL_law_784 ?_
  refine mr_arg C hs 4 hk (by decide) rfl dL_law_785 dL_law_786 dL_law_787 dL_law_788 dL_law_789 ?_
  refine mr_callVI C mdX6_ways dL_law_790 clX6_ways (gw_t 861 (by decide +kernel) rfl) (Nat.le_of_ble_eq_true rfl) rfl rfl arX6_ways (as := [.int (xs (k + 1)), .int (xs (k + 2)), .int (xs (k + 3)), .int (xs (k + 4))]) rfl (Nat.le_of_ble_eq_true rfl) (Nat.le_of_ble_eq_true rfl) (Nat.le_of_ble_eq_true rfl) fitL h (fun y S2 h => ?_)
  exact mr_icmp_eq C dL_law_793 (tgt := 1155) (by decide) (fun _ => kk S2 h.2) (fun q => absurd h.1 q)
set_option maxHeartbeats 4000000 in
set_option maxRecDepth 100000 in
theorem lc_19 (C : LCx p s m b c D ad ac A) (hs : SX ad A b L xs s) (hk : k + 6 ≤ L) (hI : INV S) (kk : ∀ S2, INV S2 → LU p l e s m b below meth c Z D ad ac A 1155 (L0 k) [] S2) : LU p l e s m b below meth c Z D ad ac A 798 (L0 k) [] S := by
  refine mr_aload_n (i := 1) (x := 0) C dL_law_798 rfl rfl ?_
  refine mr_callVI C mdX5_fair dL_law_799 clX5_fair (gw_t 476 (by decide +kernel) rfl) (Nat.le_of_ble_eq_true rfl) rfl rfl arX5_fair (as := []) rfl (Nat.le_of_ble_eq_true rfl) (Nat.le_of_ble_eq_true rfl) (Nat.le_of_ble_eq_true rfl) fitL (ok_fair S hI) (fun x S1 h => ?_)
  refine mr_aload_n (i := 2) (x := 34) C dL_law_802 rfl rfl ?_
  refine mr_callVI C mdX6_fair dL_law_803 clX6_fair (gw_t 879 (by decide +kernel) rfl) (Nat.le_of_ble_eq_true rfl) rfl rfl arX6_fair (as := []) rfl (Nat.le_of_ble_eq_true rfl) (Nat.le_of_ble_eq_true rfl) (Nat.le_of_ble_eq_true rfl) fitL h (fun y S2 h => ?_)
  exact mr_icmp_eq C dL_law_806 (tgt := 1155) (by decide) (fun _ => kk S2 h.2) (fun q => absurd h.1 q)
set_option maxHeartbeats 4000000 in
set_option maxRecDepth 100000 in
theorem lc_20 (C : LCx p s m b c D ad ac A) (hs : SX ad A b L xs s) (hk : k + 6 ≤ L) (hI : INV S) (kk : ∀ S2, INV S2 → LU p l e s m b below meth c Z D ad ac A 1155 (L0 k) [] S2) : LU p l e s m b below meth c Z D ad ac A 811 (L0 k) [] S := by
  refine mr_aload_n (i := 1) (x := 0) C dL_law_811 rfl rfl ?_
  refine mr_arg C hs 1 hk (by decide) rfl dL_law_812 dL_law_813 dL_law_814 dL_law_815 dL_law_816 ?_
  refine mr_arg C hs 2 hk (by decide) rfl dL_law_817 dL_law_818 dL_law_819 dL_law_820 dL_law_821 ?_
  refine mr_arg C hs 3 hk (by decide) rfl dL_law_822 dL_law_823 dL_law_824 dL_law_825 dL_law_826 ?_
  refine mr_callVI C mdX5_sheet dL_law_827 clX5_sheet (gw_t 492 (by decide +kernel) rfl) (Nat.le_of_ble_eq_true rfl) rfl rfl arX5_sheet (as := [.int (xs (k + 1)), .int (xs (k + 2)), .int (xs (k + 3))]) rfl (Nat.le_of_ble_eq_true rfl) (Nat.le_of_ble_eq_true rfl) (Nat.le_of_ble_eq_true rfl) fitL (ok_sheet (xs (k + 1)) (xs (k + 2)) (xs (k + 3)) S hI) (fun x S1 h => ?_)
  refine mr_aload_n (i := 2) (x := 34) C dL_law_830 rfl rfl ?_
  refine mr_arg C hs 1 hk (by decide) rfl dL_law_831 dL_law_832 dL_law_833 dL_law_834 dL_law_835 ?_
  refine mr_arg C hs 2 hk (by decide) rfl dL_law_836 dL_law_837 dL_law_838 dL_law_839 dL_law_840 ?_
  refine mr_arg C hs 3 hk (by decide) rfl dL_law_841 dL_law_842 dL_law_843 dL_law_844 dL_law_845 ?_
  refine mr_callVI C mdX6_sheet dL_law_846 clX6_sheet (gw_t 883 (by decide +kernel) rfl) (Nat.le_of_ble_eq_true rfl) rfl rfl arX6_sheet (as := [.int (xs (k + 1)), .int (xs (k + 2)), .int (xs (k + 3))]) rfl (Nat.le_of_ble_eq_true rfl) (Nat.le_of_ble_eq_true rfl) (Nat.le_of_ble_eq_true rfl) fitL h (fun y S2 h => ?_)
  exact mr_icmp_eq C dL_law_849 (tgt := 1155) (by decide) (fun _ => kk S2 h.2) (fun q => absurd h.1 q)
set_option maxHeartbeats 4000000 in
set_option maxRecDepth 100000 in
theorem lc_21 (C : LCx p s m b c D ad ac A) (hs : SX ad A b L xs s) (hk : k + 6 ≤ L) (hI : INV S) (kk : ∀ S2, INV S2 → LU p l e s m b below meth c Z D ad ac A 1155 (L0 k) [] S2) : LU p l e s m b below meth c Z D ad ac A 854 (L0 k) [] S := by
  refine mr_aload_n (i := 1) (x := 0) C dL_law_854 rfl rfl ?_
  refine mr_arg C hs 1 hk (by decide) rfl dL_law_855 dL_law_856 dL_law_857 dL_law_858 dL_law_859 ?_
  refine mr_callVI C mdX5_lose dL_law_860 clX5_lose (gw_t 501 (by decide +kernel) rfl) (Nat.le_of_ble_eq_true rfl) rfl rfl arX5_lose (as := [.int (xs (k + 1))]) rfl (Nat.le_of_ble_eq_true rfl) (Nat.le_of_ble_eq_true rfl) (Nat.le_of_ble_eq_true rfl) fitL (ok_lose (xs (k + 1)) S hI) (fun x S1 h => ?_)
  refine mr_aload_n (i := 2) (x := 34) C dL_law_863 rfl rfl ?_
  refine mr_arg C hs 1 hk (by decide) rfl dL_law_864 dL_law_865 dL_law_866 dL_law_867 dL_law_868 ?_
  refine mr_callVI C mdX6_lose dL_law_869 clX6_lose (gw_t 887 (by decide +kernel) rfl) (Nat.le_of_ble_eq_true rfl) rfl rfl arX6_lose (as := [.int (xs (k + 1))]) rfl (Nat.le_of_ble_eq_true rfl) (Nat.le_of_ble_eq_true rfl) (Nat.le_of_ble_eq_true rfl) fitL h (fun y S2 h => ?_)
  exact mr_icmp_eq C dL_law_872 (tgt := 1155) (by decide) (fun _ => kk S2 h.2) (fun q => absurd h.1 q)
set_option maxHeartbeats 4000000 in
set_option maxRecDepth 100000 in
theorem lc_22 (C : LCx p s m b c D ad ac A) (hs : SX ad A b L xs s) (hk : k + 6 ≤ L) (hI : INV S) (kk : ∀ S2, INV S2 → LU p l e s m b below meth c Z D ad ac A 1155 (L0 k) [] S2) : LU p l e s m b below meth c Z D ad ac A 877 (L0 k) [] S := by
  refine mr_aload_n (i := 1) (x := 0) C dL_law_877 rfl rfl ?_
  refine mr_arg C hs 1 hk (by decide) rfl dL_law_878 dL_law_879 dL_law_880 dL_law_881 dL_law_882 ?_
  refine mr_arg C hs 2 hk (by decide) rfl dL_law_883 dL_law_884 dL_law_885 dL_law_886 dL_law_887 ?_
  refine mr_arg C hs 3 hk (by decide) rfl dL_law_888 dL_law_889 dL_law_890 dL_law_891 dL_law_892 ?_
  refine mr_callVI C mdX5_put dL_law_893 clX5_put (gw_t 505 (by decide +kernel) rfl) (Nat.le_of_ble_eq_true rfl) rfl rfl arX5_put (as := [.int (xs (k + 1)), .int (xs (k + 2)), .int (xs (k + 3))]) rfl (Nat.le_of_ble_eq_true rfl) (Nat.le_of_ble_eq_true rfl) (Nat.le_of_ble_eq_true rfl) fitL (ok_put (xs (k + 1)) (xs (k + 2)) (xs (k + 3)) S hI) (fun x S1 h => ?_)
  refine mr_aload_n (i := 2) (x := 34) C dL_law_896 rfl rfl ?_
  refine mr_arg C hs 1 hk (by decide) rfl dL_law_897 dL_law_898 dL_law_899 dL_law_900 dL_law_901 ?_
  refine mr_arg C hs 2 hk (by decide) rfl dL_law_902 dL_law_903 dL_law_904 dL_law_905 dL_law_906 ?_
  refine mr_arg C hs 3 hk (by decide) rfl dL_law_907 dL_law_908 dL_law_909 dL_law_910 dL_law_911 ?_
  refine mr_callVI C mdX6_put dL_law_912 clX6_put (gw_t 891 (by decide +kernel) rfl) (Nat.le_of_ble_eq_true rfl) rfl rfl arX6_put (as := [.int (xs (k + 1)), .int (xs (k + 2)), .int (xs (k + 3))]) rfl (Nat.le_of_ble_eq_true rfl) (Nat.le_of_ble_eq_true rfl) (Nat.le_of_ble_eq_true rfl) fitL h (fun y S2 h => ?_)
  exact mr_icmp_eq C dL_law_915 (tgt := 1155) (by decide) (fun _ => kk S2 h.2) (fun q => absurd h.1 q)
set_option maxHeartbeats 4000000 in
set_option maxRecDepth 100000 in
theorem lc_23 (C : LCx p s m b c D ad ac A) (hs : SX ad A b L xs s) (hk : k + 6 ≤ L) (hI : INV S) (kk : ∀ S2, INV S2 → LU p l e s m b below meth c Z D ad ac A 1155 (L0 k) [] S2) : LU p l e s m b below meth c Z D ad ac A 920 (L0 k) [] S := by
  refine mr_aload_n (i := 1) (x := 0) C dL_law_920 rfl rfl ?_
  refine mr_arg C hs 1 hk (by decide) rfl dL_law_921 dL_law_922 dL_law_923 dL_law_924 dL_law_925 ?_
  refine mr_arg C hs 2 hk (by decide) rfl dL_law_926 dL_law_927 dL_law_928 dL_law_929 dL_law_930 ?_
  refine mr_arg C hs 3 hk (by decide) rfl dL_law_931 dL_law_932 dL_law_933 dL_law_934 dL_law_935 ?_
  refine mr_callVJ C mdX5_cell dL_law_936 clX5_cell (gw_t 517 (by decide +kernel) rfl) (Nat.le_of_ble_eq_true rfl) rfl rfl arX5_cell (as := [.int (xs (k + 1)), .int (xs (k + 2)), .int (xs (k + 3))]) rfl (Nat.le_of_ble_eq_true rfl) (Nat.le_of_ble_eq_true rfl) (Nat.le_of_ble_eq_true rfl) fitL (ok_cell (xs (k + 1)) (xs (k + 2)) (xs (k + 3)) S hI) (fun x S1 h => ?_)
  refine mr_aload_n (i := 2) (x := 34) C dL_law_939 rfl rfl ?_
  refine mr_arg C hs 1 hk (by decide) rfl dL_law_940 dL_law_941 dL_law_942 dL_law_943 dL_law_944 ?_
  refine mr_arg C hs 2 hk (by decide) rfl dL_law_945 dL_law_946 dL_law_947 dL_law_948 dL_law_949 ?_
  refine mr_arg C hs 3 hk (by decide) rfl dL_law_950 dL_law_951 dL_law_952 dL_law_953 dL_law_954 ?_
  refine mr_callVJ C mdX6_cell dL_law_955 clX6_cell (gw_t 899 (by decide +kernel) rfl) (Nat.le_of_ble_eq_true rfl) rfl rfl arX6_cell (as := [.int (xs (k + 1)), .int (xs (k + 2)), .int (xs (k + 3))]) rfl (Nat.le_of_ble_eq_true rfl) (Nat.le_of_ble_eq_true rfl) (Nat.le_of_ble_eq_true rfl) fitL h (fun y S2 h => ?_)
  exact mr_lcmp_eq C dL_law_958 dL_law_959 (tgt := 1155) (by decide) (fun _ => kk S2 h.2) (fun q => absurd h.1 q)
set_option maxHeartbeats 4000000 in
set_option maxRecDepth 100000 in
theorem lc_24 (C : LCx p s m b c D ad ac A) (hs : SX ad A b L xs s) (hk : k + 6 ≤ L) (hI : INV S) (kk : ∀ S2, INV S2 → LU p l e s m b below meth c Z D ad ac A 1155 (L0 k) [] S2) : LU p l e s m b below meth c Z D ad ac A 964 (L0 k) [] S := by
  refine mr_aload_n (i := 1) (x := 0) C dL_law_964 rfl rfl ?_
  refine mr_arg C hs 1 hk (by decide) rfl dL_law_965 dL_law_966 dL_law_967 dL_law_968 dL_law_969 ?_
  refine mr_arg C hs 2 hk (by decide) rfl dL_law_970 dL_law_971 dL_law_972 dL_law_973 dL_law_974 ?_
  refine mr_arg C hs 3 hk (by decide) rfl dL_law_975 dL_law_976 dL_law_977 dL_law_978 dL_law_979 ?_
  refine mr_arg C hs 4 hk (by decide) rfl dL_law_980 dL_law_981 dL_law_982 dL_law_983 dL_law_984 ?_
  refine mr_arg C hs 5 hk (by decide) rfl dL_law_985 dL_law_986 dL_law_987 dL_law_988 dL_law_989 ?_
  refine mr_callVI C mdX5_copy dL_law_990 clX5_copy (gw_t 521 (by decide +kernel) rfl) (Nat.le_of_ble_eq_true rfl) rfl rfl arX5_copy (as := [.int (xs (k + 1)), .int (xs (k + 2)), .int (xs (k + 3)), .int (xs (k + 4)), .int (xs (k + 5))]) rfl (Nat.le_of_ble_eq_true rfl) (Nat.le_of_ble_eq_true rfl) (Nat.le_of_ble_eq_true rfl) fitL (ok_copy (xs (k + 1)) (xs (k + 2)) (xs (k + 3)) (xs (k + 4)) (xs (k + 5)) S hI) (fun x S1 h => ?_)
  refine mr_aload_n (i := 2) (x := 34) C dL_law_993 rfl rfl ?_
  refine mr_arg C hs 1 hk (by decide) rfl dL_law_994 dL_law_995 dL_law_996 dL_law_997 dL_law_998 ?_
  refine mr_arg C hs 2 hk (by decide) rfl dL_law_999 dL_law_1000 dL_law_1001 dL_law_1002 dL_law_1003 ?_
  refine mr_arg C hs 3 hk (by decide) rfl dL_law_1004 dL_law_1005 dL_law_1006 dL_law_1007 dL_law_1008 ?_
  refine mr_arg C hs 4 hk (by decide) rfl dL_law_1009 dL_law_1010 dL_law_1011 dL_law_1012 dL_law_1013 ?_
  refine mr_arg C hs 5 hk (by decide) rfl dL_law_1014 dL_law_1015 dL_law_1016 dL_law_1017 dL_law_1018 ?_
  refine mr_callVI C mdX6_copy dL_law_1019 clX6_copy (gw_t 907 (by decide +kernel) rfl) (Nat.le_of_ble_eq_true rfl) rfl rfl arX6_copy (as := [.int (xs (k + 1)), .int (xs (k + 2)), .int (xs (k + 3)), .int (xs (k + 4)), .int (xs (k + 5))]) rfl (Nat.le_of_ble_eq_true rfl) (Nat.le_of_ble_eq_true rfl) (Nat.le_of_ble_eq_true rfl) fitL h (fun y S2 h => ?_)
  exact mr_icmp_eq C dL_law_1022 (tgt := 1155) (by decide) (fun _ => kk S2 h.2) (fun q => absurd h.1 q)
set_option maxHeartbeats 4000000 in
set_option maxRecDepth 100000 in
theorem lc_25 (C : LCx p s m b c D ad ac A) (hs : SX ad A b L xs s) (hk : k + 6 ≤ L) (hI : INV S) (kk : ∀ S2, INV S2 → LU p l e s m b below meth c Z D ad ac A 1155 (L0 k) [] S2) : LU p l e s m b below meth c Z D ad ac A 1027 (L0 k) [] S := by
  refine mr_aload_n (i := 1) (x := 0) C dL_law_1027 rfl rfl ?_
  refine mr_arg C hs 1 hk (by decide) rfl dL_law_1028 dL_law_1029 dL_law_1030 dL_law_1031 dL_law_1032 ?_
  refine mr_callVI C mdX5_tell dL_law_1033 clX5_tell (gw_t 528 (by decide +kernel) rfl) (Nat.le_of_ble_eq_true rfl) rfl rfl arX5_tell (as := [.int (xs (k + 1))]) rfl (Nat.le_of_ble_eq_true rfl) (Nat.le_of_ble_eq_true rfl) (Nat.le_of_ble_eq_true rfl) fitL (ok_tell (xs (k + 1)) S hI) (fun x S1 h => ?_)
  refine mr_aload_n (i := 2) (x := 34) C dL_law_1036 rfl rfl ?_
  refine mr_arg C hs 1 hk (by decide) rfl dL_law_1037 dL_law_1038 dL_law_1039 dL_law_1040 dL_law_1041 ?_
  refine mr_callVI C mdX6_tell dL_law_1042 clX6_tell (gw_t 911 (by decide +kernel) rfl) (Nat.le_of_ble_eq_true rfl) rfl rfl arX6_tell (as := [.int (xs (k + 1))]) rfl (Nat.le_of_ble_eq_true rfl) (Nat.le_of_ble_eq_true rfl) (Nat.le_of_ble_eq_true rfl) fitL h (fun y S2 h => ?_)
  exact mr_icmp_eq C dL_law_1045 (tgt := 1155) (by decide) (fun _ => kk S2 h.2) (fun q => absurd h.1 q)
set_option maxHeartbeats 4000000 in
set_option maxRecDepth 100000 in
theorem lc_26 (C : LCx p s m b c D ad ac A) (hs : SX ad A b L xs s) (hk : k + 6 ≤ L) (hI : INV S) (kk : ∀ S2, INV S2 → LU p l e s m b below meth c Z D ad ac A 1155 (L0 k) [] S2) : LU p l e s m b below meth c Z D ad ac A 1050 (L0 k) [] S := by
  refine mr_aload_n (i := 1) (x := 0) C dL_law_1050 rfl rfl ?_
  refine mr_arg C hs 1 hk (by decide) rfl dL_law_1051 dL_law_1052 dL_law_1053 dL_law_1054 dL_law_1055 ?_
  refine mr_callVI C mdX5_weigh dL_law_1056 clX5_weigh (gw_t 548 (by decide +kernel) rfl) (Nat.le_of_ble_eq_true rfl) rfl rfl arX5_weigh (as := [.int (xs (k + 1))]) rfl (Nat.le_of_ble_eq_true rfl) (Nat.le_of_ble_eq_true rfl) (Nat.le_of_ble_eq_true rfl) fitL (ok_weigh (xs (k + 1)) S hI) (fun x S1 h => ?_)
  refine mr_aload_n (i := 2) (x := 34) C dL_law_1059 rfl rfl ?_
  refine mr_arg C hs 1 hk (by decide) rfl dL_law_1060 dL_law_1061 dL_law_1062 dL_law_1063 dL_law_1064 ?_
  refine mr_callVI C mdX6_weigh dL_law_1065 clX6_weigh (gw_t 919 (by decide +kernel) rfl) (Nat.le_of_ble_eq_true rfl) rfl rfl arX6_weigh (as := [.int (xs (k + 1))]) rfl (Nat.le_of_ble_eq_true rfl) (Nat.le_of_ble_eq_true rfl) (Nat.le_of_ble_eq_true rfl) fitL h (fun y S2 h => ?_)
  exact mr_icmp_eq C dL_law_1068 (tgt := 1155) (by decide) (fun _ => kk S2 h.2) (fun q => absurd h.1 q)
set_option maxHeartbeats 4000000 in
set_option maxRecDepth 100000 in
theorem lc_27 (C : LCx p s m b c D ad ac A) (hs : SX ad A b L xs s) (hk : k + 6 ≤ L) (hI : INV S) (kk : ∀ S2, INV S2 → LU p l e s m b below meth c Z D ad ac A 1155 (L0 k) [] S2) : LU p l e s m b below meth c Z D ad ac A 1073 (L0 k) [] S := by
  refine mr_aload_n (i := 1) (x := 0) C dL_law_1073 rfl rfl ?_
  refine mr_arg C hs 1 hk (by decide) rfl dL_law_1074 dL_law_1075 dL_law_1076 dL_law_1077 dL_law_1078 ?_
  refine mr_arg C hs 2 hk (by decide) rfl dL_law_1079 dL_law_1080 dL_law_1081 dL_law_1082 dL_law_1083 ?_
  refine mr_callVI C mdX5_as dL_law_1084 clX5_as (gw_t 552 (by decide +kernel) rfl) (Nat.le_of_ble_eq_true rfl) rfl rfl arX5_as (as := [.int (xs (k + 1)), .int (xs (k + 2))]) rfl (Nat.le_of_ble_eq_true rfl) (Nat.le_of_ble_eq_true rfl) (Nat.le_of_ble_eq_true rfl) fitL (ok_as (xs (k + 1)) (xs (k + 2)) S hI) (fun x S1 h => ?_)
  refine mr_aload_n (i := 2) (x := 34) C dL_law_1087 rfl rfl ?_
  refine mr_arg C hs 1 hk (by decide) rfl dL_law_1088 dL_law_1089 dL_law_1090 dL_law_1091 dL_law_1092 ?_
  refine mr_arg C hs 2 hk (by decide) rfl dL_law_1093 dL_law_1094 dL_law_1095 dL_law_1096 dL_law_1097 ?_
  refine mr_callVI C mdX6_as dL_law_1098 clX6_as (gw_t 923 (by decide +kernel) rfl) (Nat.le_of_ble_eq_true rfl) rfl rfl arX6_as (as := [.int (xs (k + 1)), .int (xs (k + 2))]) rfl (Nat.le_of_ble_eq_true rfl) (Nat.le_of_ble_eq_true rfl) (Nat.le_of_ble_eq_true rfl) fitL h (fun y S2 h => ?_)
  exact mr_icmp_eq C dL_law_1101 (tgt := 1155) (by decide) (fun _ => kk S2 h.2) (fun q => absurd h.1 q)
set_option maxHeartbeats 4000000 in
set_option maxRecDepth 100000 in
theorem lc_28 (C : LCx p s m b c D ad ac A) (hs : SX ad A b L xs s) (hk : k + 6 ≤ L) (hI : INV S) (kk : ∀ S2, INV S2 → LU p l e s m b below meth c Z D ad ac A 1155 (L0 k) [] S2) : LU p l e s m b below meth c Z D ad ac A 1106 (L0 k) [] S := by
  refine mr_aload_n (i := 1) (x := 0) C dL_law_1106 rfl rfl ?_
  refine mr_callVI C mdX5_trace dL_law_1107 clX5_trace (gw_t 556 (by decide +kernel) rfl) (Nat.le_of_ble_eq_true rfl) rfl rfl arX5_trace (as := []) rfl (Nat.le_of_ble_eq_true rfl) (Nat.le_of_ble_eq_true rfl) (Nat.le_of_ble_eq_true rfl) fitL (ok_trace S hI) (fun x S1 h => ?_)
  refine mr_aload_n (i := 2) (x := 34) C dL_law_1110 rfl rfl ?_
  refine mr_callVI C mdX6_trace dL_law_1111 clX6_trace (gw_t 927 (by decide +kernel) rfl) (Nat.le_of_ble_eq_true rfl) rfl rfl arX6_trace (as := []) rfl (Nat.le_of_ble_eq_true rfl) (Nat.le_of_ble_eq_true rfl) (Nat.le_of_ble_eq_true rfl) fitL h (fun y S2 h => ?_)
  exact mr_icmp_eq C dL_law_1114 (tgt := 1155) (by decide) (fun _ => kk S2 h.2) (fun q => absurd h.1 q)
set_option maxHeartbeats 4000000 in
set_option maxRecDepth 100000 in
theorem lc_29 (C : LCx p s m b c D ad ac A) (hs : SX ad A b L xs s) (hk : k + 6 ≤ L) (hI : INV S) (kk : ∀ S2, INV S2 → LU p l e s m b below meth c Z D ad ac A 1155 (L0 k) [] S2) : LU p l e s m b below meth c Z D ad ac A 1119 (L0 k) [] S := by
  refine mr_aload_n (i := 1) (x := 0) C dL_law_1119 rfl rfl ?_
  refine mr_callVI C mdX5_fault dL_law_1120 clX5_fault (gw_t 560 (by decide +kernel) rfl) (Nat.le_of_ble_eq_true rfl) rfl rfl arX5_fault (as := []) rfl (Nat.le_of_ble_eq_true rfl) (Nat.le_of_ble_eq_true rfl) (Nat.le_of_ble_eq_true rfl) fitL (ok_fault S hI) (fun x S1 h => ?_)
  refine mr_aload_n (i := 2) (x := 34) C dL_law_1123 rfl rfl ?_
  refine mr_callVI C mdX6_fault dL_law_1124 clX6_fault (gw_t 931 (by decide +kernel) rfl) (Nat.le_of_ble_eq_true rfl) rfl rfl arX6_fault (as := []) rfl (Nat.le_of_ble_eq_true rfl) (Nat.le_of_ble_eq_true rfl) (Nat.le_of_ble_eq_true rfl) fitL h (fun y S2 h => ?_)
  exact mr_icmp_eq C dL_law_1127 (tgt := 1155) (by decide) (fun _ => kk S2 h.2) (fun q => absurd h.1 q)
set_option maxHeartbeats 4000000 in
set_option maxRecDepth 100000 in
theorem lc_30 (C : LCx p s m b c D ad ac A) (hs : SX ad A b L xs s) (hk : k + 6 ≤ L) (hI : INV S) (kk : ∀ S2, INV S2 → LU p l e s m b below meth c Z D ad ac A 1155 (L0 k) [] S2) : LU p l e s m b below meth c Z D ad ac A 1132 (L0 k) [] S := by
  refine mr_aload_n (i := 1) (x := 0) C dL_law_1132 rfl rfl ?_
  refine mr_arg C hs 1 hk (by decide) rfl dL_law_1133 dL_law_1134 dL_law_1135 dL_law_1136 dL_law_1137 ?_
  refine mr_callVI C mdX5_many dL_law_1138 clX5_many (gw_t 564 (by decide +kernel) rfl) (Nat.le_of_ble_eq_true rfl) rfl rfl arX5_many (as := [.int (xs (k + 1))]) rfl (Nat.le_of_ble_eq_true rfl) (Nat.le_of_ble_eq_true rfl) (Nat.le_of_ble_eq_true rfl) fitL (ok_many (xs (k + 1)) S hI) (fun x S1 h => ?_)
  refine mr_aload_n (i := 2) (x := 34) C dL_law_1141 rfl rfl ?_
  refine mr_arg C hs 1 hk (by decide) rfl dL_law_1142 dL_law_1143 dL_law_1144 dL_law_1145 dL_law_1146 ?_
  refine mr_callVI C mdX6_many dL_law_1147 clX6_many (gw_t 935 (by decide +kernel) rfl) (Nat.le_of_ble_eq_true rfl) rfl rfl arX6_many (as := [.int (xs (k + 1))]) rfl (Nat.le_of_ble_eq_true rfl) (Nat.le_of_ble_eq_true rfl) (Nat.le_of_ble_eq_true rfl) fitL h (fun y S2 h => ?_)
  exact mr_icmp_eq C dL_law_1150 (tgt := 1155) (by decide) (fun _ => kk S2 h.2) (fun q => absurd h.1 q)
set_option maxHeartbeats 4000000 in
set_option maxRecDepth 100000 in
theorem lc_all (C : LCx p s m b c D ad ac A) (hs : SX ad A b L xs s) (hk : k + 6 ≤ L) (hI : INV S) (kk : ∀ S2, INV S2 → LU p l e s m b below meth c Z D ad ac A 1155 (L0 k) [] S2) (x : Int32) : LU p l e s m b below meth c Z D ad ac A 33 (L0 k) [.int (x &&& 31)] S := by
  obtain ⟨j, hj, e⟩ := ix_31 x
  refine mr_topI e ?_
  rcases (by omega : j = 0 ∨ j = 1 ∨ j = 2 ∨ j = 3 ∨ j = 4 ∨ j = 5 ∨ j = 6 ∨ j = 7 ∨ j = 8 ∨ j = 9 ∨ j = 10 ∨ j = 11 ∨ j = 12 ∨ j = 13 ∨ j = 14 ∨ j = 15 ∨ j = 16 ∨ j = 17 ∨ j = 18 ∨ j = 19 ∨ j = 20 ∨ j = 21 ∨ j = 22 ∨ j = 23 ∨ j = 24 ∨ j = 25 ∨ j = 26 ∨ j = 27 ∨ j = 28 ∨ j = 29 ∨ j = 30 ∨ j = 31) with rfl | rfl | rfl | rfl | rfl | rfl | rfl | rfl | rfl | rfl | rfl | rfl | rfl | rfl | rfl | rfl | rfl | rfl | rfl | rfl | rfl | rfl | rfl | rfl | rfl | rfl | rfl | rfl | rfl | rfl | rfl | rfl
  · exact mr_tsIn C dL_law_33 (nI 0) rfl (by decide) (by decide) (off := 139) (by decide +kernel) (tgt := 172) (by decide) (lc_0 C hs hk hI kk)
  · exact mr_tsIn C dL_law_33 (nI 1) rfl (by decide) (by decide) (off := 192) (by decide +kernel) (tgt := 225) (by decide) (lc_1 C hs hk hI kk)
  · exact mr_tsIn C dL_law_33 (nI 2) rfl (by decide) (by decide) (off := 215) (by decide +kernel) (tgt := 248) (by decide) (lc_2 C hs hk hI kk)
  · exact mr_tsIn C dL_law_33 (nI 3) rfl (by decide) (by decide) (off := 248) (by decide +kernel) (tgt := 281) (by decide) (lc_3 C hs hk hI kk)
  · exact mr_tsIn C dL_law_33 (nI 4) rfl (by decide) (by decide) (off := 271) (by decide +kernel) (tgt := 304) (by decide) (lc_4 C hs hk hI kk)
  · exact mr_tsIn C dL_law_33 (nI 5) rfl (by decide) (by decide) (off := 310) (by decide +kernel) (tgt := 343) (by decide) (lc_5 C hs hk hI kk)
  · exact mr_tsIn C dL_law_33 (nI 6) rfl (by decide) (by decide) (off := 343) (by decide +kernel) (tgt := 376) (by decide) (lc_6 C hs hk hI kk)
  · exact mr_tsIn C dL_law_33 (nI 7) rfl (by decide) (by decide) (off := 376) (by decide +kernel) (tgt := 409) (by decide) (lc_7 C hs hk hI kk)
  · exact mr_tsIn C dL_law_33 (nI 8) rfl (by decide) (by decide) (off := 399) (by decide +kernel) (tgt := 432) (by decide) (lc_8 C hs hk hI kk)
  · exact mr_tsIn C dL_law_33 (nI 9) rfl (by decide) (by decide) (off := 452) (by decide +kernel) (tgt := 485) (by decide) (lc_9 C hs hk hI kk)
  · exact mr_tsIn C dL_law_33 (nI 10) rfl (by decide) (by decide) (off := 496) (by decide +kernel) (tgt := 529) (by decide) (lc_10 C hs hk hI kk)
  · exact mr_tsIn C dL_law_33 (nI 11) rfl (by decide) (by decide) (off := 530) (by decide +kernel) (tgt := 563) (by decide) (lc_11 C hs hk hI kk)
  · exact mr_tsIn C dL_law_33 (nI 12) rfl (by decide) (by decide) (off := 563) (by decide +kernel) (tgt := 596) (by decide) (lc_12 C hs hk hI kk)
  · exact mr_tsIn C dL_law_33 (nI 13) rfl (by decide) (by decide) (off := 586) (by decide +kernel) (tgt := 619) (by decide) (lc_13 C hs hk hI kk)
  · exact mr_tsIn C dL_law_33 (nI 14) rfl (by decide) (by decide) (off := 619) (by decide +kernel) (tgt := 652) (by decide) (lc_14 C hs hk hI kk)
  · exact mr_tsIn C dL_law_33 (nI 15) rfl (by decide) (by decide) (off := 642) (by decide +kernel) (tgt := 675) (by decide) (lc_15 C hs hk hI kk)
  · exact mr_tsIn C dL_law_33 (nI 16) rfl (by decide) (by decide) (off := 665) (by decide +kernel) (tgt := 698) (by decide) (lc_16 C hs hk hI kk)
  · exact mr_tsIn C dL_law_33 (nI 17) rfl (by decide) (by decide) (off := 688) (by decide +kernel) (tgt := 721) (by decide) (lc_17 C hs hk hI kk)
  · exact mr_tsIn C dL_law_33 (nI 18) rfl (by decide) (by decide) (off := 712) (by decide +kernel) (tgt := 745) (by decide) (lc_18 C hs hk hI kk)
  · exact mr_tsIn C dL_law_33 (nI 19) rfl (by decide) (by decide) (off := 765) (by decide +kernel) (tgt := 798) (by decide) (lc_19 C hs hk hI kk)
  · exact mr_tsIn C dL_law_33 (nI 20) rfl (by decide) (by decide) (off := 778) (by decide +kernel) (tgt := 811) (by decide) (lc_20 C hs hk hI kk)
  · exact mr_tsIn C dL_law_33 (nI 21) rfl (by decide) (by decide) (off := 821) (by decide +kernel) (tgt := 854) (by decide) (lc_21 C hs hk hI kk)
  · exact mr_tsIn C dL_law_33 (nI 22) rfl (by decide) (by decide) (off := 844) (by decide +kernel) (tgt := 877) (by decide) (lc_22 C hs hk hI kk)
  · exact mr_tsIn C dL_law_33 (nI 23) rfl (by decide) (by decide) (off := 887) (by decide +kernel) (tgt := 920) (by decide) (lc_23 C hs hk hI kk)
  · exact mr_tsIn C dL_law_33 (nI 24) rfl (by decide) (by decide) (off := 931) (by decide +kernel) (tgt := 964) (by decide) (lc_24 C hs hk hI kk)
  · exact mr_tsIn C dL_law_33 (nI 25) rfl (by decide) (by decide) (off := 994) (by decide +kernel) (tgt := 1027) (by decide) (lc_25 C hs hk hI kk)
  · exact mr_tsIn C dL_law_33 (nI 26) rfl (by decide) (by decide) (off := 1017) (by decide +kernel) (tgt := 1050) (by decide) (lc_26 C hs hk hI kk)
  · exact mr_tsIn C dL_law_33 (nI 27) rfl (by decide) (by decide) (off := 1040) (by decide +kernel) (tgt := 1073) (by decide) (lc_27 C hs hk hI kk)
  · exact mr_tsIn C dL_law_33 (nI 28) rfl (by decide) (by decide) (off := 1073) (by decide +kernel) (tgt := 1106) (by decide) (lc_28 C hs hk hI kk)
  · exact mr_tsIn C dL_law_33 (nI 29) rfl (by decide) (by decide) (off := 1086) (by decide +kernel) (tgt := 1119) (by decide) (lc_29 C hs hk hI kk)
  · exact mr_tsIn C dL_law_33 (nI 30) rfl (by decide) (by decide) (off := 1099) (by decide +kernel) (tgt := 1132) (by decide) (lc_30 C hs hk hI kk)
  · exact mr_tsOut C dL_law_33 (Or.inr (by decide)) (tgt := 1155) (by decide) (kk S hI)
theorem lw_sub6 {L : Nat} (h : ¬ 6 ≤ L) : (nI L - 6).toInt < 0 := by
  rcases (by omega : L = 0 ∨ L = 1 ∨ L = 2 ∨ L = 3 ∨ L = 4 ∨ L = 5) with rfl | rfl | rfl | rfl | rfl | rfl <;> decide
set_option maxHeartbeats 4000000 in
set_option maxRecDepth 100000 in
/-- the law's loop, from its head -/
theorem lw_loop (C : LCx p s m b c D ad ac A) (hs : SX ad A b L xs s) (hend : ∀ S2 k2, INV S2 → LU p l e s m b below meth c Z D ad ac A 1161 (L0 k2) [] S2) : ∀ (n k : Nat) (S : St), L + 1 ≤ k + n → k ≤ L → INV S → LU p l e s m b below meth c Z D ad ac A 18 (L0 k) [] S := by
  have hL := hs.2.2.2.2
  intro n
  induction n with
  | zero => intro k S h1 h2; exact absurd h1 (by omega)
  | succ n ih =>
    intro k S h1 h2 hI
    refine mr_iload_n (i := 3) (x := nI k) C dL_law_18 rfl rfl ?_
    refine mr_aload_n (i := 0) (x := 51) C dL_law_19 rfl rfl ?_
    refine mr_slen C hs dL_law_20 ?_
    refine mr_bipush (v := 6) C dL_law_21 (by decide) ?_
    refine mr_isub C dL_law_23 ?_
    have tk := nI_toInt (n := k) (by omega)
    refine mr_icmp_gt C dL_law_24 (tgt := 1161) (by decide) (fun _ => hend S k hI) (fun q => ?_)
    have hk : k + 6 ≤ L := by
      rw [fa_lt, tk] at q
      by_cases h6 : 6 ≤ L
      · rw [show (6 : Int32) = nI 6 from rfl, pk_sub h6, nI_toInt (by omega)] at q
        omega
      · have := lw_sub6 h6
        omega
    refine mr_aload_n (i := 0) (x := 51) C dL_law_27 rfl rfl ?_
    refine mr_iload_n (i := 3) (x := nI k) C dL_law_28 rfl rfl ?_
    refine mr_sld C hs (by omega) dL_law_29 ?_
    refine mr_bipush (v := 31) C dL_law_30 (by decide) ?_
    refine mr_iand C dL_law_32 ?_
    refine lc_all C hs hk hI (fun S2 hI2 => ?_) _
    refine mr_iinc (i := 3) (x := nI k) (v := nI (k + 6)) (L1 := L0 (k + 6)) C dL_law_1155 rfl (nI_add k 6) (by decide) rfl ?_
    refine mr_goto C dL_law_1158 (tgt := 18) (by decide) ?_
    exact ih (k + 6) S2 (by omega) (by omega) hI2
end LWC
