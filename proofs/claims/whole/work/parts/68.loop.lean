-- THE LAW'S LOOP
theorem scV_R (xs : Nat → Int32) (k : Int) : zR (scV xs k) := iI_R _
theorem nz_01 (z : Int) : (if z = 0 then (0 : Int) else 1) = 0 ∨ (if z = 0 then (0 : Int) else 1) = 1 := by split <;> decide
section LOOP
variable {p : Program} {l : Launch} {e : Env} {s : State} {m : MethodId} {below : List Frame} {meth : Method} {c : Code} {b L : Nat} {xs : Nat → Int32} {D : va_G} {ρ : Nat → Nat} {ca : Nat → ClassId} {i : Int} {g : ZH}
theorem lw_ground (C : lCtx p s m meth c b L xs D ρ ca) (hi : 0 ≤ i) (hL : i + 4 ≤ L) (hI : Inv g) (go : ∀ g2, Inv g2 → LW p l e s m below meth c b D ρ ca 760 i [] g2) : LW p l e s m below meth c b D ρ ca 136 i [] g := by
  refine LW.ax C dL_law_136 ?_
  refine LW.sc C dL_law_137 dL_law_138 dL_law_139 dL_law_140 dL_law_141 (by omega) (by omega) ?_
  refine LW.sc C dL_law_142 dL_law_143 dL_law_144 dL_law_145 dL_law_146 (by omega) (by omega) ?_
  obtain ⟨V, hop⟩ := op_ground hI (scV_R _ _) (scV_R _ _)
  refine LW.callV (as := [_, _]) C dL_law_147 cv_L_13 ⟨_, rfl⟩ rfl (by decide) (Nat.le_of_ble_eq_true rfl) rfl hop (fun v g1 ⟨q1, hop2⟩ => ?_)
  subst q1
  refine LW.am C dL_law_150 ?_
  refine LW.sc C dL_law_151 dL_law_152 dL_law_153 dL_law_154 dL_law_155 (by omega) (by omega) ?_
  refine LW.sc C dL_law_156 dL_law_157 dL_law_158 dL_law_159 dL_law_160 (by omega) (by omega) ?_
  refine LW.callV (as := [_, _]) C dL_law_161 cv_L_17 ⟨_, rfl⟩ rfl (by decide) (Nat.le_of_ble_eq_true rfl) rfl hop2 (fun r g2 ⟨q2, hI2⟩ => ?_)
  subst q2
  exact LW.eq (tgt := 760) C dL_law_164 (by decide) (go g2 hI2)
theorem lw_river (C : lCtx p s m meth c b L xs D ρ ca) (hi : 0 ≤ i) (hL : i + 4 ≤ L) (hI : Inv g) (go : ∀ g2, Inv g2 → LW p l e s m below meth c b D ρ ca 760 i [] g2) : LW p l e s m below meth c b D ρ ca 169 i [] g := by
  refine LW.ax C dL_law_169 ?_
  refine LW.sc C dL_law_170 dL_law_171 dL_law_172 dL_law_173 dL_law_174 (by omega) (by omega) ?_
  refine LW.sc C dL_law_175 dL_law_176 dL_law_177 dL_law_178 dL_law_179 (by omega) (by omega) ?_
  refine LW.sc C dL_law_180 dL_law_181 dL_law_182 dL_law_183 dL_law_184 (by omega) (by omega) ?_
  refine LW.nz C (scV_R _ _) dL_law_185 dL_law_188 dL_law_189 dL_law_192 ?_
  obtain ⟨V, hop⟩ := op_river hI (scV_R _ _) (scV_R _ _) (nz_01 _)
  refine LW.callV (as := [_, _, _]) C dL_law_193 cv_L_18 ⟨_, rfl⟩ rfl (by decide) (Nat.le_of_ble_eq_true rfl) rfl hop (fun v g1 ⟨q1, hop2⟩ => ?_)
  subst q1
  refine LW.am C dL_law_196 ?_
  refine LW.sc C dL_law_197 dL_law_198 dL_law_199 dL_law_200 dL_law_201 (by omega) (by omega) ?_
  refine LW.sc C dL_law_202 dL_law_203 dL_law_204 dL_law_205 dL_law_206 (by omega) (by omega) ?_
  refine LW.sc C dL_law_207 dL_law_208 dL_law_209 dL_law_210 dL_law_211 (by omega) (by omega) ?_
  refine LW.nz C (scV_R _ _) dL_law_212 dL_law_215 dL_law_216 dL_law_219 ?_
  refine LW.callV (as := [_, _, _]) C dL_law_220 cv_L_22 ⟨_, rfl⟩ rfl (by decide) (Nat.le_of_ble_eq_true rfl) rfl hop2 (fun r g2 ⟨q2, hI2⟩ => ?_)
  subst q2
  exact LW.eq (tgt := 760) C dL_law_223 (by decide) (go g2 hI2)
theorem lw_fort (C : lCtx p s m meth c b L xs D ρ ca) (hi : 0 ≤ i) (hL : i + 4 ≤ L) (hI : Inv g) (go : ∀ g2, Inv g2 → LW p l e s m below meth c b D ρ ca 760 i [] g2) : LW p l e s m below meth c b D ρ ca 228 i [] g := by
  refine LW.ax C dL_law_228 ?_
  refine LW.sc C dL_law_229 dL_law_230 dL_law_231 dL_law_232 dL_law_233 (by omega) (by omega) ?_
  refine LW.sc C dL_law_234 dL_law_235 dL_law_236 dL_law_237 dL_law_238 (by omega) (by omega) ?_
  obtain ⟨V, hop⟩ := op_fort hI (scV_R _ _) (scV_R _ _)
  refine LW.callV (as := [_, _]) C dL_law_239 cv_L_23 ⟨_, rfl⟩ rfl (by decide) (Nat.le_of_ble_eq_true rfl) rfl hop (fun v g1 ⟨q1, hop2⟩ => ?_)
  subst q1
  refine LW.am C dL_law_242 ?_
  refine LW.sc C dL_law_243 dL_law_244 dL_law_245 dL_law_246 dL_law_247 (by omega) (by omega) ?_
  refine LW.sc C dL_law_248 dL_law_249 dL_law_250 dL_law_251 dL_law_252 (by omega) (by omega) ?_
  refine LW.callV (as := [_, _]) C dL_law_253 cv_L_26 ⟨_, rfl⟩ rfl (by decide) (Nat.le_of_ble_eq_true rfl) rfl hop2 (fun r g2 ⟨q2, hI2⟩ => ?_)
  subst q2
  exact LW.eq (tgt := 760) C dL_law_256 (by decide) (go g2 hI2)
theorem lw_base (C : lCtx p s m meth c b L xs D ρ ca) (hi : 0 ≤ i) (hL : i + 4 ≤ L) (hI : Inv g) (go : ∀ g2, Inv g2 → LW p l e s m below meth c b D ρ ca 760 i [] g2) : LW p l e s m below meth c b D ρ ca 261 i [] g := by
  refine LW.ax C dL_law_261 ?_
  refine LW.sc C dL_law_262 dL_law_263 dL_law_264 dL_law_265 dL_law_266 (by omega) (by omega) ?_
  refine LW.sc C dL_law_267 dL_law_268 dL_law_269 dL_law_270 dL_law_271 (by omega) (by omega) ?_
  obtain ⟨V, hop⟩ := op_base hI (scV_R _ _) (scV_R _ _)
  refine LW.callV (as := [_, _]) C dL_law_272 cv_L_27 ⟨_, rfl⟩ rfl (by decide) (Nat.le_of_ble_eq_true rfl) rfl hop (fun v g1 ⟨q1, hop2⟩ => ?_)
  subst q1
  refine LW.am C dL_law_275 ?_
  refine LW.sc C dL_law_276 dL_law_277 dL_law_278 dL_law_279 dL_law_280 (by omega) (by omega) ?_
  refine LW.sc C dL_law_281 dL_law_282 dL_law_283 dL_law_284 dL_law_285 (by omega) (by omega) ?_
  refine LW.callV (as := [_, _]) C dL_law_286 cv_L_30 ⟨_, rfl⟩ rfl (by decide) (Nat.le_of_ble_eq_true rfl) rfl hop2 (fun r g2 ⟨q2, hI2⟩ => ?_)
  subst q2
  exact LW.eq (tgt := 760) C dL_law_289 (by decide) (go g2 hI2)
theorem lw_place (C : lCtx p s m meth c b L xs D ρ ca) (hi : 0 ≤ i) (hL : i + 4 ≤ L) (hI : Inv g) (go : ∀ g2, Inv g2 → LW p l e s m below meth c b D ρ ca 760 i [] g2) : LW p l e s m below meth c b D ρ ca 294 i [] g := by
  refine LW.ax C dL_law_294 ?_
  refine LW.sc C dL_law_295 dL_law_296 dL_law_297 dL_law_298 dL_law_299 (by omega) (by omega) ?_
  refine LW.sc C dL_law_300 dL_law_301 dL_law_302 dL_law_303 dL_law_304 (by omega) (by omega) ?_
  refine LW.sc C dL_law_305 dL_law_306 dL_law_307 dL_law_308 dL_law_309 (by omega) (by omega) ?_
  obtain ⟨V, hop⟩ := op_place hI (scV_R _ _) (scV_R _ _) (scV_R _ _)
  refine LW.callV (as := [_, _, _]) C dL_law_310 cv_L_31 ⟨_, rfl⟩ rfl (by decide) (Nat.le_of_ble_eq_true rfl) rfl hop (fun v g1 ⟨q1, hop2⟩ => ?_)
  subst q1
  refine LW.am C dL_law_313 ?_
  refine LW.sc C dL_law_314 dL_law_315 dL_law_316 dL_law_317 dL_law_318 (by omega) (by omega) ?_
  refine LW.sc C dL_law_319 dL_law_320 dL_law_321 dL_law_322 dL_law_323 (by omega) (by omega) ?_
  refine LW.sc C dL_law_324 dL_law_325 dL_law_326 dL_law_327 dL_law_328 (by omega) (by omega) ?_
  refine LW.callV (as := [_, _, _]) C dL_law_329 cv_L_35 ⟨_, rfl⟩ rfl (by decide) (Nat.le_of_ble_eq_true rfl) rfl hop2 (fun r g2 ⟨q2, hI2⟩ => ?_)
  subst q2
  exact LW.eq (tgt := 760) C dL_law_332 (by decide) (go g2 hI2)
theorem lw_move (C : lCtx p s m meth c b L xs D ρ ca) (hi : 0 ≤ i) (hL : i + 4 ≤ L) (hI : Inv g) (go : ∀ g2, Inv g2 → LW p l e s m below meth c b D ρ ca 760 i [] g2) : LW p l e s m below meth c b D ρ ca 337 i [] g := by
  refine LW.ax C dL_law_337 ?_
  refine LW.sc C dL_law_338 dL_law_339 dL_law_340 dL_law_341 dL_law_342 (by omega) (by omega) ?_
  refine LW.sc C dL_law_343 dL_law_344 dL_law_345 dL_law_346 dL_law_347 (by omega) (by omega) ?_
  obtain ⟨V, hop⟩ := op_move hI (scV_R _ _) (scV_R _ _)
  refine LW.callV (as := [_, _]) C dL_law_348 cv_L_36 ⟨_, rfl⟩ rfl (by decide) (Nat.le_of_ble_eq_true rfl) rfl hop (fun v g1 ⟨q1, hop2⟩ => ?_)
  subst q1
  refine LW.am C dL_law_351 ?_
  refine LW.sc C dL_law_352 dL_law_353 dL_law_354 dL_law_355 dL_law_356 (by omega) (by omega) ?_
  refine LW.sc C dL_law_357 dL_law_358 dL_law_359 dL_law_360 dL_law_361 (by omega) (by omega) ?_
  refine LW.callV (as := [_, _]) C dL_law_362 cv_L_39 ⟨_, rfl⟩ rfl (by decide) (Nat.le_of_ble_eq_true rfl) rfl hop2 (fun r g2 ⟨q2, hI2⟩ => ?_)
  subst q2
  exact LW.eq (tgt := 760) C dL_law_365 (by decide) (go g2 hI2)
theorem lw_attack (C : lCtx p s m meth c b L xs D ρ ca) (hi : 0 ≤ i) (hL : i + 4 ≤ L) (hI : Inv g) (go : ∀ g2, Inv g2 → LW p l e s m below meth c b D ρ ca 760 i [] g2) : LW p l e s m below meth c b D ρ ca 370 i [] g := by
  refine LW.ax C dL_law_370 ?_
  refine LW.sc C dL_law_371 dL_law_372 dL_law_373 dL_law_374 dL_law_375 (by omega) (by omega) ?_
  refine LW.sc C dL_law_376 dL_law_377 dL_law_378 dL_law_379 dL_law_380 (by omega) (by omega) ?_
  obtain ⟨V, hop⟩ := op_attack hI (scV_R _ _) (scV_R _ _)
  refine LW.callV (as := [_, _]) C dL_law_381 cv_L_40 ⟨_, rfl⟩ rfl (by decide) (Nat.le_of_ble_eq_true rfl) rfl hop (fun v g1 ⟨q1, hop2⟩ => ?_)
  subst q1
  refine LW.am C dL_law_384 ?_
  refine LW.sc C dL_law_385 dL_law_386 dL_law_387 dL_law_388 dL_law_389 (by omega) (by omega) ?_
  refine LW.sc C dL_law_390 dL_law_391 dL_law_392 dL_law_393 dL_law_394 (by omega) (by omega) ?_
  refine LW.callV (as := [_, _]) C dL_law_395 cv_L_43 ⟨_, rfl⟩ rfl (by decide) (Nat.le_of_ble_eq_true rfl) rfl hop2 (fun r g2 ⟨q2, hI2⟩ => ?_)
  subst q2
  exact LW.eq (tgt := 760) C dL_law_398 (by decide) (go g2 hI2)
theorem lw_endTurn (C : lCtx p s m meth c b L xs D ρ ca) (hi : 0 ≤ i) (hL : i + 4 ≤ L) (hI : Inv g) (go : ∀ g2, Inv g2 → LW p l e s m below meth c b D ρ ca 760 i [] g2) : LW p l e s m below meth c b D ρ ca 403 i [] g := by
  refine LW.ax C dL_law_403 ?_
  obtain ⟨V, hop⟩ := op_endTurn hI 
  refine LW.callV (as := []) C dL_law_404 cv_L_44 ⟨_, rfl⟩ rfl (by decide) (Nat.le_of_ble_eq_true rfl) rfl hop (fun v g1 ⟨q1, hop2⟩ => ?_)
  subst q1
  refine LW.am C dL_law_407 ?_
  refine LW.callV (as := []) C dL_law_408 cv_L_48 ⟨_, rfl⟩ rfl (by decide) (Nat.le_of_ble_eq_true rfl) rfl hop2 (fun r g2 ⟨q2, hI2⟩ => ?_)
  subst q2
  exact LW.eq (tgt := 760) C dL_law_411 (by decide) (go g2 hI2)
theorem lw_perform (C : lCtx p s m meth c b L xs D ρ ca) (hi : 0 ≤ i) (hL : i + 4 ≤ L) (hI : Inv g) (go : ∀ g2, Inv g2 → LW p l e s m below meth c b D ρ ca 760 i [] g2) : LW p l e s m below meth c b D ρ ca 416 i [] g := by
  refine LW.ax C dL_law_416 ?_
  obtain ⟨V, hop⟩ := op_perform hI 
  refine LW.callV (as := []) C dL_law_417 cv_L_49 ⟨_, rfl⟩ rfl (by decide) (Nat.le_of_ble_eq_true rfl) rfl hop (fun v g1 ⟨q1, hop2⟩ => ?_)
  subst q1
  refine LW.am C dL_law_420 ?_
  refine LW.callV (as := []) C dL_law_421 cv_L_52 ⟨_, rfl⟩ rfl (by decide) (Nat.le_of_ble_eq_true rfl) rfl hop2 (fun r g2 ⟨q2, hI2⟩ => ?_)
  subst q2
  exact LW.eq (tgt := 760) C dL_law_424 (by decide) (go g2 hI2)
theorem lw_type (C : lCtx p s m meth c b L xs D ρ ca) (hi : 0 ≤ i) (hL : i + 4 ≤ L) (hI : Inv g) (go : ∀ g2, Inv g2 → LW p l e s m below meth c b D ρ ca 760 i [] g2) : LW p l e s m below meth c b D ρ ca 429 i [] g := by
  refine LW.ax C dL_law_429 ?_
  refine LW.sc C dL_law_430 dL_law_431 dL_law_432 dL_law_433 dL_law_434 (by omega) (by omega) ?_
  refine LW.i2c C dL_law_435 ?_
  obtain ⟨V, hop⟩ := op_type hI (chF_R _)
  refine LW.callV (as := [_]) C dL_law_436 cv_L_53 ⟨_, rfl⟩ rfl (by decide) (Nat.le_of_ble_eq_true rfl) rfl hop (fun v g1 ⟨q1, hop2⟩ => ?_)
  subst q1
  refine LW.am C dL_law_439 ?_
  refine LW.sc C dL_law_440 dL_law_441 dL_law_442 dL_law_443 dL_law_444 (by omega) (by omega) ?_
  refine LW.i2c C dL_law_445 ?_
  refine LW.callV (as := [_]) C dL_law_446 cv_L_57 ⟨_, rfl⟩ rfl (by decide) (Nat.le_of_ble_eq_true rfl) rfl hop2 (fun r g2 ⟨q2, hI2⟩ => ?_)
  subst q2
  exact LW.eq (tgt := 760) C dL_law_449 (by decide) (go g2 hI2)
theorem lw_clearText (C : lCtx p s m meth c b L xs D ρ ca) (hi : 0 ≤ i) (hL : i + 4 ≤ L) (hI : Inv g) (go : ∀ g2, Inv g2 → LW p l e s m below meth c b D ρ ca 760 i [] g2) : LW p l e s m below meth c b D ρ ca 454 i [] g := by
  refine LW.ax C dL_law_454 ?_
  obtain ⟨V, hop⟩ := op_clearText hI 
  refine LW.callV (as := []) C dL_law_455 cv_L_58 ⟨_, rfl⟩ rfl (by decide) (Nat.le_of_ble_eq_true rfl) rfl hop (fun v g1 ⟨q1, hop2⟩ => ?_)
  subst q1
  refine LW.am C dL_law_458 ?_
  refine LW.callV (as := []) C dL_law_459 cv_L_61 ⟨_, rfl⟩ rfl (by decide) (Nat.le_of_ble_eq_true rfl) rfl hop2 (fun r g2 ⟨q2, hI2⟩ => ?_)
  subst q2
  exact LW.eq (tgt := 760) C dL_law_462 (by decide) (go g2 hI2)
theorem lw_undo (C : lCtx p s m meth c b L xs D ρ ca) (hi : 0 ≤ i) (hL : i + 4 ≤ L) (hI : Inv g) (go : ∀ g2, Inv g2 → LW p l e s m below meth c b D ρ ca 760 i [] g2) : LW p l e s m below meth c b D ρ ca 467 i [] g := by
  refine LW.ax C dL_law_467 ?_
  obtain ⟨V, hop⟩ := op_undo hI 
  refine LW.callV (as := []) C dL_law_468 cv_L_62 ⟨_, rfl⟩ rfl (by decide) (Nat.le_of_ble_eq_true rfl) rfl hop (fun v g1 ⟨q1, hop2⟩ => ?_)
  subst q1
  refine LW.am C dL_law_471 ?_
  refine LW.callV (as := []) C dL_law_472 cv_L_65 ⟨_, rfl⟩ rfl (by decide) (Nat.le_of_ble_eq_true rfl) rfl hop2 (fun r g2 ⟨q2, hI2⟩ => ?_)
  subst q2
  exact LW.eq (tgt := 760) C dL_law_475 (by decide) (go g2 hI2)
theorem lw_keep (C : lCtx p s m meth c b L xs D ρ ca) (hi : 0 ≤ i) (hL : i + 4 ≤ L) (hI : Inv g) (go : ∀ g2, Inv g2 → LW p l e s m below meth c b D ρ ca 760 i [] g2) : LW p l e s m below meth c b D ρ ca 480 i [] g := by
  refine LW.ax C dL_law_480 ?_
  obtain ⟨V, hop⟩ := op_keep hI 
  refine LW.callV (as := []) C dL_law_481 cv_L_66 ⟨_, rfl⟩ rfl (by decide) (Nat.le_of_ble_eq_true rfl) rfl hop (fun v g1 ⟨q1, hop2⟩ => ?_)
  subst q1
  refine LW.am C dL_law_484 ?_
  refine LW.callV (as := []) C dL_law_485 cv_L_69 ⟨_, rfl⟩ rfl (by decide) (Nat.le_of_ble_eq_true rfl) rfl hop2 (fun r g2 ⟨q2, hI2⟩ => ?_)
  subst q2
  exact LW.eq (tgt := 760) C dL_law_488 (by decide) (go g2 hI2)
theorem lw_restore (C : lCtx p s m meth c b L xs D ρ ca) (hi : 0 ≤ i) (hL : i + 4 ≤ L) (hI : Inv g) (go : ∀ g2, Inv g2 → LW p l e s m below meth c b D ρ ca 760 i [] g2) : LW p l e s m below meth c b D ρ ca 493 i [] g := by
  refine LW.ax C dL_law_493 ?_
  obtain ⟨V, hop⟩ := op_restore hI 
  refine LW.callV (as := []) C dL_law_494 cv_L_70 ⟨_, rfl⟩ rfl (by decide) (Nat.le_of_ble_eq_true rfl) rfl hop (fun v g1 ⟨q1, hop2⟩ => ?_)
  subst q1
  refine LW.am C dL_law_497 ?_
  refine LW.callV (as := []) C dL_law_498 cv_L_73 ⟨_, rfl⟩ rfl (by decide) (Nat.le_of_ble_eq_true rfl) rfl hop2 (fun r g2 ⟨q2, hI2⟩ => ?_)
  subst q2
  exact LW.eq (tgt := 760) C dL_law_501 (by decide) (go g2 hI2)
theorem lw_hex (C : lCtx p s m meth c b L xs D ρ ca) (hi : 0 ≤ i) (hL : i + 4 ≤ L) (hI : Inv g) (go : ∀ g2, Inv g2 → LW p l e s m below meth c b D ρ ca 760 i [] g2) : LW p l e s m below meth c b D ρ ca 506 i [] g := by
  refine LW.ax C dL_law_506 ?_
  refine LW.sc C dL_law_507 dL_law_508 dL_law_509 dL_law_510 dL_law_511 (by omega) (by omega) ?_
  refine LW.sc C dL_law_512 dL_law_513 dL_law_514 dL_law_515 dL_law_516 (by omega) (by omega) ?_
  obtain ⟨V, hop⟩ := op_hex hI (scV_R _ _) (scV_R _ _)
  refine LW.callV (as := [_, _]) C dL_law_517 cv_L_74 ⟨_, rfl⟩ rfl (by decide) (Nat.le_of_ble_eq_true rfl) rfl hop (fun v g1 ⟨q1, hop2⟩ => ?_)
  subst q1
  refine LW.am C dL_law_520 ?_
  refine LW.sc C dL_law_521 dL_law_522 dL_law_523 dL_law_524 dL_law_525 (by omega) (by omega) ?_
  refine LW.sc C dL_law_526 dL_law_527 dL_law_528 dL_law_529 dL_law_530 (by omega) (by omega) ?_
  refine LW.callV (as := [_, _]) C dL_law_531 cv_L_77 ⟨_, rfl⟩ rfl (by decide) (Nat.le_of_ble_eq_true rfl) rfl hop2 (fun r g2 ⟨q2, hI2⟩ => ?_)
  subst q2
  exact LW.eq (tgt := 760) C dL_law_534 (by decide) (go g2 hI2)
theorem lw_beside (C : lCtx p s m meth c b L xs D ρ ca) (hi : 0 ≤ i) (hL : i + 4 ≤ L) (hI : Inv g) (go : ∀ g2, Inv g2 → LW p l e s m below meth c b D ρ ca 760 i [] g2) : LW p l e s m below meth c b D ρ ca 539 i [] g := by
  refine LW.ax C dL_law_539 ?_
  refine LW.sc C dL_law_540 dL_law_541 dL_law_542 dL_law_543 dL_law_544 (by omega) (by omega) ?_
  refine LW.sc C dL_law_545 dL_law_546 dL_law_547 dL_law_548 dL_law_549 (by omega) (by omega) ?_
  obtain ⟨V, hop⟩ := op_beside hI (scV_R _ _) (scV_R _ _)
  refine LW.callV (as := [_, _]) C dL_law_550 cv_L_78 ⟨_, rfl⟩ rfl (by decide) (Nat.le_of_ble_eq_true rfl) rfl hop (fun v g1 ⟨q1, hop2⟩ => ?_)
  subst q1
  refine LW.am C dL_law_553 ?_
  refine LW.sc C dL_law_554 dL_law_555 dL_law_556 dL_law_557 dL_law_558 (by omega) (by omega) ?_
  refine LW.sc C dL_law_559 dL_law_560 dL_law_561 dL_law_562 dL_law_563 (by omega) (by omega) ?_
  refine LW.callV (as := [_, _]) C dL_law_564 cv_L_81 ⟨_, rfl⟩ rfl (by decide) (Nat.le_of_ble_eq_true rfl) rfl hop2 (fun r g2 ⟨q2, hI2⟩ => ?_)
  subst q2
  exact LW.eq (tgt := 760) C dL_law_567 (by decide) (go g2 hI2)
theorem lw_distance (C : lCtx p s m meth c b L xs D ρ ca) (hi : 0 ≤ i) (hL : i + 4 ≤ L) (hI : Inv g) (go : ∀ g2, Inv g2 → LW p l e s m below meth c b D ρ ca 760 i [] g2) : LW p l e s m below meth c b D ρ ca 572 i [] g := by
  refine LW.ax C dL_law_572 ?_
  refine LW.sc C dL_law_573 dL_law_574 dL_law_575 dL_law_576 dL_law_577 (by omega) (by omega) ?_
  refine LW.sc C dL_law_578 dL_law_579 dL_law_580 dL_law_581 dL_law_582 (by omega) (by omega) ?_
  obtain ⟨V, hop⟩ := op_distance hI (scV_R _ _) (scV_R _ _)
  refine LW.callV (as := [_, _]) C dL_law_583 cv_L_82 ⟨_, rfl⟩ rfl (by decide) (Nat.le_of_ble_eq_true rfl) rfl hop (fun v g1 ⟨q1, hop2⟩ => ?_)
  subst q1
  refine LW.am C dL_law_586 ?_
  refine LW.sc C dL_law_587 dL_law_588 dL_law_589 dL_law_590 dL_law_591 (by omega) (by omega) ?_
  refine LW.sc C dL_law_592 dL_law_593 dL_law_594 dL_law_595 dL_law_596 (by omega) (by omega) ?_
  refine LW.callV (as := [_, _]) C dL_law_597 cv_L_85 ⟨_, rfl⟩ rfl (by decide) (Nat.le_of_ble_eq_true rfl) rfl hop2 (fun r g2 ⟨q2, hI2⟩ => ?_)
  subst q2
  exact LW.eq (tgt := 760) C dL_law_600 (by decide) (go g2 hI2)
theorem lw_unit (C : lCtx p s m meth c b L xs D ρ ca) (hi : 0 ≤ i) (hL : i + 4 ≤ L) (hI : Inv g) (go : ∀ g2, Inv g2 → LW p l e s m below meth c b D ρ ca 760 i [] g2) : LW p l e s m below meth c b D ρ ca 605 i [] g := by
  refine LW.ax C dL_law_605 ?_
  refine LW.sc C dL_law_606 dL_law_607 dL_law_608 dL_law_609 dL_law_610 (by omega) (by omega) ?_
  refine LW.sc C dL_law_611 dL_law_612 dL_law_613 dL_law_614 dL_law_615 (by omega) (by omega) ?_
  obtain ⟨V, hop⟩ := op_unit hI (scV_R _ _) (scV_R _ _)
  refine LW.callV (as := [_, _]) C dL_law_616 cv_L_86 ⟨_, rfl⟩ rfl (by decide) (Nat.le_of_ble_eq_true rfl) rfl hop (fun v g1 ⟨q1, hop2⟩ => ?_)
  subst q1
  refine LW.am C dL_law_619 ?_
  refine LW.sc C dL_law_620 dL_law_621 dL_law_622 dL_law_623 dL_law_624 (by omega) (by omega) ?_
  refine LW.sc C dL_law_625 dL_law_626 dL_law_627 dL_law_628 dL_law_629 (by omega) (by omega) ?_
  refine LW.callV (as := [_, _]) C dL_law_630 cv_L_89 ⟨_, rfl⟩ rfl (by decide) (Nat.le_of_ble_eq_true rfl) rfl hop2 (fun r g2 ⟨q2, hI2⟩ => ?_)
  subst q2
  exact LW.eq (tgt := 760) C dL_law_633 (by decide) (go g2 hI2)
theorem lw_cost (C : lCtx p s m meth c b L xs D ρ ca) (hi : 0 ≤ i) (hL : i + 4 ≤ L) (hI : Inv g) (go : ∀ g2, Inv g2 → LW p l e s m below meth c b D ρ ca 760 i [] g2) : LW p l e s m below meth c b D ρ ca 638 i [] g := by
  refine LW.ax C dL_law_638 ?_
  refine LW.sc C dL_law_639 dL_law_640 dL_law_641 dL_law_642 dL_law_643 (by omega) (by omega) ?_
  refine LW.sc C dL_law_644 dL_law_645 dL_law_646 dL_law_647 dL_law_648 (by omega) (by omega) ?_
  obtain ⟨V, hop⟩ := op_cost hI (scV_R _ _) (scV_R _ _)
  refine LW.callV (as := [_, _]) C dL_law_649 cv_L_90 ⟨_, rfl⟩ rfl (by decide) (Nat.le_of_ble_eq_true rfl) rfl hop (fun v g1 ⟨q1, hop2⟩ => ?_)
  subst q1
  refine LW.am C dL_law_652 ?_
  refine LW.sc C dL_law_653 dL_law_654 dL_law_655 dL_law_656 dL_law_657 (by omega) (by omega) ?_
  refine LW.sc C dL_law_658 dL_law_659 dL_law_660 dL_law_661 dL_law_662 (by omega) (by omega) ?_
  refine LW.callV (as := [_, _]) C dL_law_663 cv_L_93 ⟨_, rfl⟩ rfl (by decide) (Nat.le_of_ble_eq_true rfl) rfl hop2 (fun r g2 ⟨q2, hI2⟩ => ?_)
  subst q2
  exact LW.eq (tgt := 760) C dL_law_666 (by decide) (go g2 hI2)
theorem lw_would (C : lCtx p s m meth c b L xs D ρ ca) (hi : 0 ≤ i) (hL : i + 4 ≤ L) (hI : Inv g) (go : ∀ g2, Inv g2 → LW p l e s m below meth c b D ρ ca 760 i [] g2) : LW p l e s m below meth c b D ρ ca 671 i [] g := by
  refine LW.ax C dL_law_671 ?_
  refine LW.sc C dL_law_672 dL_law_673 dL_law_674 dL_law_675 dL_law_676 (by omega) (by omega) ?_
  refine LW.sc C dL_law_677 dL_law_678 dL_law_679 dL_law_680 dL_law_681 (by omega) (by omega) ?_
  refine LW.sc C dL_law_682 dL_law_683 dL_law_684 dL_law_685 dL_law_686 (by omega) (by omega) ?_
  obtain ⟨V, hop⟩ := op_would hI (scV_R _ _) (scV_R _ _) (scV_R _ _)
  refine LW.callV (as := [_, _, _]) C dL_law_687 cv_L_94 ⟨_, rfl⟩ rfl (by decide) (Nat.le_of_ble_eq_true rfl) rfl hop (fun v g1 ⟨q1, hop2⟩ => ?_)
  subst q1
  refine LW.am C dL_law_690 ?_
  refine LW.sc C dL_law_691 dL_law_692 dL_law_693 dL_law_694 dL_law_695 (by omega) (by omega) ?_
  refine LW.sc C dL_law_696 dL_law_697 dL_law_698 dL_law_699 dL_law_700 (by omega) (by omega) ?_
  refine LW.sc C dL_law_701 dL_law_702 dL_law_703 dL_law_704 dL_law_705 (by omega) (by omega) ?_
  refine LW.callV (as := [_, _, _]) C dL_law_706 cv_L_97 ⟨_, rfl⟩ rfl (by decide) (Nat.le_of_ble_eq_true rfl) rfl hop2 (fun r g2 ⟨q2, hI2⟩ => ?_)
  subst q2
  exact LW.eq (tgt := 760) C dL_law_709 (by decide) (go g2 hI2)
theorem lw_besieged (C : lCtx p s m meth c b L xs D ρ ca) (hi : 0 ≤ i) (hL : i + 4 ≤ L) (hI : Inv g) (go : ∀ g2, Inv g2 → LW p l e s m below meth c b D ρ ca 760 i [] g2) : LW p l e s m below meth c b D ρ ca 714 i [] g := by
  refine LW.ax C dL_law_714 ?_
  refine LW.sc C dL_law_715 dL_law_716 dL_law_717 dL_law_718 dL_law_719 (by omega) (by omega) ?_
  obtain ⟨V, hop⟩ := op_besieged hI (scV_R _ _)
  refine LW.callV (as := [_]) C dL_law_720 cv_L_98 ⟨_, rfl⟩ rfl (by decide) (Nat.le_of_ble_eq_true rfl) rfl hop (fun v g1 ⟨q1, hop2⟩ => ?_)
  subst q1
  refine LW.am C dL_law_723 ?_
  refine LW.sc C dL_law_724 dL_law_725 dL_law_726 dL_law_727 dL_law_728 (by omega) (by omega) ?_
  refine LW.callV (as := [_]) C dL_law_729 cv_L_102 ⟨_, rfl⟩ rfl (by decide) (Nat.le_of_ble_eq_true rfl) rfl hop2 (fun r g2 ⟨q2, hI2⟩ => ?_)
  subst q2
  exact LW.eq (tgt := 760) C dL_law_732 (by decide) (go g2 hI2)
theorem lw_count (C : lCtx p s m meth c b L xs D ρ ca) (hi : 0 ≤ i) (hL : i + 4 ≤ L) (hI : Inv g) (go : ∀ g2, Inv g2 → LW p l e s m below meth c b D ρ ca 760 i [] g2) : LW p l e s m below meth c b D ρ ca 737 i [] g := by
  refine LW.ax C dL_law_737 ?_
  refine LW.sc C dL_law_738 dL_law_739 dL_law_740 dL_law_741 dL_law_742 (by omega) (by omega) ?_
  obtain ⟨V, hop⟩ := op_count hI (scV_R _ _)
  refine LW.callV (as := [_]) C dL_law_743 cv_L_103 ⟨_, rfl⟩ rfl (by decide) (Nat.le_of_ble_eq_true rfl) rfl hop (fun v g1 ⟨q1, hop2⟩ => ?_)
  subst q1
  refine LW.am C dL_law_746 ?_
  refine LW.sc C dL_law_747 dL_law_748 dL_law_749 dL_law_750 dL_law_751 (by omega) (by omega) ?_
  refine LW.callV (as := [_]) C dL_law_752 cv_L_106 ⟨_, rfl⟩ rfl (by decide) (Nat.le_of_ble_eq_true rfl) rfl hop2 (fun r g2 ⟨q2, hI2⟩ => ?_)
  subst q2
  exact LW.eq (tgt := 760) C dL_law_755 (by decide) (go g2 hI2)
theorem law_loop (C : lCtx p s m meth c b L xs D ρ ca) : ∀ (n : Nat) (i : Int) (g : ZH), 0 ≤ i → i ≤ L + 4 → L + 4 - i ≤ n → Inv g → LW p l e s m below meth c b D ρ ca 18 i [] g := by
  intro n
  induction n with
  | zero =>
    intro i g hi hiL hn hI
    exact lw_end C hi (by omega) hiL
  | succ n ih =>
    intro i g hi hiL hn hI
    by_cases q : L - 4 < i
    · exact lw_end C hi q hiL
    · refine lw_head C hi (by omega) ?_
      refine LW.sw C dL_law_26 dL_law_27 dL_law_28 dL_law_29 dL_law_31 hi (by omega) (fun w w0 w1 => ?_)
      have go : ∀ g2, Inv g2 → LW p l e s m below meth c b D ρ ca 760 i [] g2 := fun g2 hI2 => lw_next C hi (by omega) (ih (i + 4) g2 (by omega) (by omega) (by omega) hI2)
      rcases (show w = 0 ∨ w = 1 ∨ w = 2 ∨ w = 3 ∨ w = 4 ∨ w = 5 ∨ w = 6 ∨ w = 7 ∨ w = 8 ∨ w = 9 ∨ w = 10 ∨ w = 11 ∨ w = 12 ∨ w = 13 ∨ w = 14 ∨ w = 15 ∨ w = 16 ∨ w = 17 ∨ w = 18 ∨ w = 19 ∨ w = 20 ∨ w = 21 ∨ 21 < w by omega) with y | y | y | y | y | y | y | y | y | y | y | y | y | y | y | y | y | y | y | y | y | y | y
      · subst y
        refine LW.tin (off := 104) (tgt := 136) C dL_law_32 (by omega) (by omega) rfl (by decide) ?_
        exact lw_ground C hi (by omega) hI go
      · subst y
        refine LW.tin (off := 137) (tgt := 169) C dL_law_32 (by omega) (by omega) rfl (by decide) ?_
        exact lw_river C hi (by omega) hI go
      · subst y
        refine LW.tin (off := 196) (tgt := 228) C dL_law_32 (by omega) (by omega) rfl (by decide) ?_
        exact lw_fort C hi (by omega) hI go
      · subst y
        refine LW.tin (off := 229) (tgt := 261) C dL_law_32 (by omega) (by omega) rfl (by decide) ?_
        exact lw_base C hi (by omega) hI go
      · subst y
        refine LW.tin (off := 262) (tgt := 294) C dL_law_32 (by omega) (by omega) rfl (by decide) ?_
        exact lw_place C hi (by omega) hI go
      · subst y
        refine LW.tin (off := 305) (tgt := 337) C dL_law_32 (by omega) (by omega) rfl (by decide) ?_
        exact lw_move C hi (by omega) hI go
      · subst y
        refine LW.tin (off := 338) (tgt := 370) C dL_law_32 (by omega) (by omega) rfl (by decide) ?_
        exact lw_attack C hi (by omega) hI go
      · subst y
        refine LW.tin (off := 371) (tgt := 403) C dL_law_32 (by omega) (by omega) rfl (by decide) ?_
        exact lw_endTurn C hi (by omega) hI go
      · subst y
        refine LW.tin (off := 384) (tgt := 416) C dL_law_32 (by omega) (by omega) rfl (by decide) ?_
        exact lw_perform C hi (by omega) hI go
      · subst y
        refine LW.tin (off := 397) (tgt := 429) C dL_law_32 (by omega) (by omega) rfl (by decide) ?_
        exact lw_type C hi (by omega) hI go
      · subst y
        refine LW.tin (off := 422) (tgt := 454) C dL_law_32 (by omega) (by omega) rfl (by decide) ?_
        exact lw_clearText C hi (by omega) hI go
      · subst y
        refine LW.tin (off := 435) (tgt := 467) C dL_law_32 (by omega) (by omega) rfl (by decide) ?_
        exact lw_undo C hi (by omega) hI go
      · subst y
        refine LW.tin (off := 448) (tgt := 480) C dL_law_32 (by omega) (by omega) rfl (by decide) ?_
        exact lw_keep C hi (by omega) hI go
      · subst y
        refine LW.tin (off := 461) (tgt := 493) C dL_law_32 (by omega) (by omega) rfl (by decide) ?_
        exact lw_restore C hi (by omega) hI go
      · subst y
        refine LW.tin (off := 474) (tgt := 506) C dL_law_32 (by omega) (by omega) rfl (by decide) ?_
        exact lw_hex C hi (by omega) hI go
      · subst y
        refine LW.tin (off := 507) (tgt := 539) C dL_law_32 (by omega) (by omega) rfl (by decide) ?_
        exact lw_beside C hi (by omega) hI go
      · subst y
        refine LW.tin (off := 540) (tgt := 572) C dL_law_32 (by omega) (by omega) rfl (by decide) ?_
        exact lw_distance C hi (by omega) hI go
      · subst y
        refine LW.tin (off := 573) (tgt := 605) C dL_law_32 (by omega) (by omega) rfl (by decide) ?_
        exact lw_unit C hi (by omega) hI go
      · subst y
        refine LW.tin (off := 606) (tgt := 638) C dL_law_32 (by omega) (by omega) rfl (by decide) ?_
        exact lw_cost C hi (by omega) hI go
      · subst y
        refine LW.tin (off := 639) (tgt := 671) C dL_law_32 (by omega) (by omega) rfl (by decide) ?_
        exact lw_would C hi (by omega) hI go
      · subst y
        refine LW.tin (off := 682) (tgt := 714) C dL_law_32 (by omega) (by omega) rfl (by decide) ?_
        exact lw_besieged C hi (by omega) hI go
      · subst y
        refine LW.tin (off := 705) (tgt := 737) C dL_law_32 (by omega) (by omega) rfl (by decide) ?_
        exact lw_count C hi (by omega) hI go
      · refine LW.tout (tgt := 760) C dL_law_32 (by omega) (by omega) (by decide) ?_
        exact go g hI
end LOOP
