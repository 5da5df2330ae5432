set_option maxHeartbeats 1000000 in
theorem lc_track {X : Kx} {l : Launch} {E : Ev} {a a' : Nat → Nat} {σ τ : St} {o b L : Nat} {f : Nat → Int64} {xs : Nat → Int32} {i : Int32} {p q : Option Value} (C : Cx X l E RL cL_law room_1 (some .boolean)) (hX : SX X b L xs) (hi : vp_in (i + 1) L ∧ vp_in (i + 2) L ∧ vp_in (i + 3) L ∧ vp_in (i + 4) L ∧ vp_in (i + 5) L) (h : Rel σ τ) (k : ∀ σ' τ' : St, Rel σ' τ' → G X wid (wI E a σ' ++ (wM E a' τ' ++ oL E o f)) 1377 (lvL b a a' o i p q) []) : G X wid (wI E a σ ++ (wM E a' τ ++ oL E o f)) 180 (lvL b a a' o i p q) [] := by
  refine g_aload_1 C dL_law_180 rfl ?_
  refine g_aload_0 C dL_law_181 rfl ?_
  refine g_iload C dL_law_182 rfl ?_
  refine g_iconst_1 C dL_law_184 ?_
  refine g_iadd C dL_law_185 ?_
  refine g_sld C hX hi.1 dL_law_186 ?_
  refine g_aload_0 C dL_law_187 rfl ?_
  refine g_iload C dL_law_188 rfl ?_
  refine g_iconst_2 C dL_law_190 ?_
  refine g_iadd C dL_law_191 ?_
  refine g_sld C hX hi.2.1 dL_law_192 ?_
  refine g_callF (w := wI E a) (σ := σ) (r := wM E a' τ ++ oL E o f) C 2 (As := [.int (xs (Int32.toNatClampNeg (i + 1))), .int (xs (Int32.toNatClampNeg (i + 2)))]) (rest := []) (Cn := RX10) (T := TX10) (N := 8) (q0 := 0) (ci := 9) (by decide +kernel) (by decide +kernel) (by decide +kernel) (by decide +kernel) (by decide +kernel) (by decide +kernel) rfl rfl (cI_X10_track (T_track h)) ⟨rfl, rfl⟩ ⟨(Nat.le_of_ble_eq_true rfl), (Nat.le_of_ble_eq_true rfl)⟩ rfl rfl (Nat.le_of_ble_eq_true rfl) dL_law_193 (fun v u hu => ?_)
  refine g_rot (g_asc ?_)
  refine g_aload_2 C dL_law_196 rfl ?_
  refine g_aload_0 C dL_law_197 rfl ?_
  refine g_iload C dL_law_198 rfl ?_
  refine g_iconst_1 C dL_law_200 ?_
  refine g_iadd C dL_law_201 ?_
  refine g_sld C hX hi.1 dL_law_202 ?_
  refine g_aload_0 C dL_law_203 rfl ?_
  refine g_iload C dL_law_204 rfl ?_
  refine g_iconst_2 C dL_law_206 ?_
  refine g_iadd C dL_law_207 ?_
  refine g_sld C hX hi.2.1 dL_law_208 ?_
  refine g_callF (w := wM E a') (σ := τ) (r := oL E o f ++ wI E a u) C 2 (As := [.int (xs (Int32.toNatClampNeg (i + 1))), .int (xs (Int32.toNatClampNeg (i + 2)))]) (rest := [.int v]) (Cn := RX11) (T := TX11) (N := 42) (q0 := 0) (ci := 10) (by decide +kernel) (by decide +kernel) (by decide +kernel) (by decide +kernel) (by decide +kernel) (by decide +kernel) rfl rfl (cM_track hu) ⟨rfl, rfl⟩ ⟨(Nat.le_of_ble_eq_true rfl), (Nat.le_of_ble_eq_true rfl)⟩ rfl rfl (Nat.le_of_ble_eq_true rfl) dL_law_209 (fun v' u' hu' => ?_)
  obtain ⟨rfl, hr⟩ := hu'
  refine g_csa (g_rot ?_)
  exact g_icmp_eq C 1377 dL_law_212 (by decide) (fun _ => k u u' hr) (fun q => absurd rfl q)
set_option maxHeartbeats 1000000 in
theorem lc_bend {X : Kx} {l : Launch} {E : Ev} {a a' : Nat → Nat} {σ τ : St} {o b L : Nat} {f : Nat → Int64} {xs : Nat → Int32} {i : Int32} {p q : Option Value} (C : Cx X l E RL cL_law room_1 (some .boolean)) (hX : SX X b L xs) (hi : vp_in (i + 1) L ∧ vp_in (i + 2) L ∧ vp_in (i + 3) L ∧ vp_in (i + 4) L ∧ vp_in (i + 5) L) (h : Rel σ τ) (k : ∀ σ' τ' : St, Rel σ' τ' → G X wid (wI E a σ' ++ (wM E a' τ' ++ oL E o f)) 1377 (lvL b a a' o i p q) []) : G X wid (wI E a σ ++ (wM E a' τ ++ oL E o f)) 217 (lvL b a a' o i p q) [] := by
  refine g_aload_1 C dL_law_217 rfl ?_
  refine g_aload_0 C dL_law_218 rfl ?_
  refine g_iload C dL_law_219 rfl ?_
  refine g_iconst_1 C dL_law_221 ?_
  refine g_iadd C dL_law_222 ?_
  refine g_sld C hX hi.1 dL_law_223 ?_
  refine g_aload_0 C dL_law_224 rfl ?_
  refine g_iload C dL_law_225 rfl ?_
  refine g_iconst_2 C dL_law_227 ?_
  refine g_iadd C dL_law_228 ?_
  refine g_sld C hX hi.2.1 dL_law_229 ?_
  refine g_aload_0 C dL_law_230 rfl ?_
  refine g_iload C dL_law_231 rfl ?_
  refine g_iconst_3 C dL_law_233 ?_
  refine g_iadd C dL_law_234 ?_
  refine g_sld C hX hi.2.2.1 dL_law_235 ?_
  refine g_aload_0 C dL_law_236 rfl ?_
  refine g_iload C dL_law_237 rfl ?_
  refine g_iconst_4 C dL_law_239 ?_
  refine g_iadd C dL_law_240 ?_
  refine g_sld C hX hi.2.2.2.1 dL_law_241 ?_
  refine g_callF (w := wI E a) (σ := σ) (r := wM E a' τ ++ oL E o f) C 4 (As := [.int (xs (Int32.toNatClampNeg (i + 1))), .int (xs (Int32.toNatClampNeg (i + 2))), .int (xs (Int32.toNatClampNeg (i + 3))), .int (xs (Int32.toNatClampNeg (i + 4)))]) (rest := []) (Cn := RX10) (T := TX10) (N := 8) (q0 := 0) (ci := 9) (by decide +kernel) (by decide +kernel) (by decide +kernel) (by decide +kernel) (by decide +kernel) (by decide +kernel) rfl rfl (cI_X10_bend (T_bend h)) ⟨rfl, rfl⟩ ⟨(Nat.le_of_ble_eq_true rfl), (Nat.le_of_ble_eq_true rfl)⟩ rfl rfl (Nat.le_of_ble_eq_true rfl) dL_law_242 (fun v u hu => ?_)
  refine g_rot (g_asc ?_)
  refine g_aload_2 C dL_law_245 rfl ?_
  refine g_aload_0 C dL_law_246 rfl ?_
  refine g_iload C dL_law_247 rfl ?_
  refine g_iconst_1 C dL_law_249 ?_
  refine g_iadd C dL_law_250 ?_
  refine g_sld C hX hi.1 dL_law_251 ?_
  refine g_aload_0 C dL_law_252 rfl ?_
  refine g_iload C dL_law_253 rfl ?_
  refine g_iconst_2 C dL_law_255 ?_
  refine g_iadd C dL_law_256 ?_
  refine g_sld C hX hi.2.1 dL_law_257 ?_
  refine g_aload_0 C dL_law_258 rfl ?_
  refine g_iload C dL_law_259 rfl ?_
  refine g_iconst_3 C dL_law_261 ?_
  refine g_iadd C dL_law_262 ?_
  refine g_sld C hX hi.2.2.1 dL_law_263 ?_
  refine g_aload_0 C dL_law_264 rfl ?_
  refine g_iload C dL_law_265 rfl ?_
  refine g_iconst_4 C dL_law_267 ?_
  refine g_iadd C dL_law_268 ?_
  refine g_sld C hX hi.2.2.2.1 dL_law_269 ?_
  refine g_callF (w := wM E a') (σ := τ) (r := oL E o f ++ wI E a u) C 4 (As := [.int (xs (Int32.toNatClampNeg (i + 1))), .int (xs (Int32.toNatClampNeg (i + 2))), .int (xs (Int32.toNatClampNeg (i + 3))), .int (xs (Int32.toNatClampNeg (i + 4)))]) (rest := [.int v]) (Cn := RX11) (T := TX11) (N := 42) (q0 := 0) (ci := 10) (by decide +kernel) (by decide +kernel) (by decide +kernel) (by decide +kernel) (by decide +kernel) (by decide +kernel) rfl rfl (cM_bend hu) ⟨rfl, rfl⟩ ⟨(Nat.le_of_ble_eq_true rfl), (Nat.le_of_ble_eq_true rfl)⟩ rfl rfl (Nat.le_of_ble_eq_true rfl) dL_law_270 (fun v' u' hu' => ?_)
  obtain ⟨rfl, hr⟩ := hu'
  refine g_csa (g_rot ?_)
  exact g_icmp_eq C 1377 dL_law_273 (by decide) (fun _ => k u u' hr) (fun q => absurd rfl q)
set_option maxHeartbeats 1000000 in
theorem lc_runners {X : Kx} {l : Launch} {E : Ev} {a a' : Nat → Nat} {σ τ : St} {o b L : Nat} {f : Nat → Int64} {xs : Nat → Int32} {i : Int32} {p q : Option Value} (C : Cx X l E RL cL_law room_1 (some .boolean)) (hX : SX X b L xs) (hi : vp_in (i + 1) L ∧ vp_in (i + 2) L ∧ vp_in (i + 3) L ∧ vp_in (i + 4) L ∧ vp_in (i + 5) L) (h : Rel σ τ) (k : ∀ σ' τ' : St, Rel σ' τ' → G X wid (wI E a σ' ++ (wM E a' τ' ++ oL E o f)) 1377 (lvL b a a' o i p q) []) : G X wid (wI E a σ ++ (wM E a' τ ++ oL E o f)) 278 (lvL b a a' o i p q) [] := by
  refine g_aload_1 C dL_law_278 rfl ?_
  refine g_aload_0 C dL_law_279 rfl ?_
  refine g_iload C dL_law_280 rfl ?_
  refine g_iconst_1 C dL_law_282 ?_
  refine g_iadd C dL_law_283 ?_
  refine g_sld C hX hi.1 dL_law_284 ?_
  refine g_aload_0 C dL_law_285 rfl ?_
  refine g_iload C dL_law_286 rfl ?_
  refine g_iconst_2 C dL_law_288 ?_
  refine g_iadd C dL_law_289 ?_
  refine g_sld C hX hi.2.1 dL_law_290 ?_
  refine g_aload_0 C dL_law_291 rfl ?_
  refine g_iload C dL_law_292 rfl ?_
  refine g_iconst_3 C dL_law_294 ?_
  refine g_iadd C dL_law_295 ?_
  refine g_sld C hX hi.2.2.1 dL_law_296 ?_
  refine g_aload_0 C dL_law_297 rfl ?_
  refine g_iload C dL_law_298 rfl ?_
  refine g_iconst_4 C dL_law_300 ?_
  refine g_iadd C dL_law_301 ?_
  refine g_sld C hX hi.2.2.2.1 dL_law_302 ?_
  refine g_aload_0 C dL_law_303 rfl ?_
  refine g_iload C dL_law_304 rfl ?_
  refine g_iconst_5 C dL_law_306 ?_
  refine g_iadd C dL_law_307 ?_
  refine g_sld C hX hi.2.2.2.2 dL_law_308 ?_
  refine g_callF (w := wI E a) (σ := σ) (r := wM E a' τ ++ oL E o f) C 5 (As := [.int (xs (Int32.toNatClampNeg (i + 1))), .int (xs (Int32.toNatClampNeg (i + 2))), .int (xs (Int32.toNatClampNeg (i + 3))), .int (xs (Int32.toNatClampNeg (i + 4))), .int (xs (Int32.toNatClampNeg (i + 5)))]) (rest := []) (Cn := RX10) (T := TX10) (N := 8) (q0 := 0) (ci := 9) (by decide +kernel) (by decide +kernel) (by decide +kernel) (by decide +kernel) (by decide +kernel) (by decide +kernel) rfl rfl (cI_X10_runners (T_runners h)) ⟨rfl, rfl⟩ ⟨(Nat.le_of_ble_eq_true rfl), (Nat.le_of_ble_eq_true rfl)⟩ rfl rfl (Nat.le_of_ble_eq_true rfl) dL_law_309 (fun v u hu => ?_)
  refine g_rot (g_asc ?_)
  refine g_aload_2 C dL_law_312 rfl ?_
  refine g_aload_0 C dL_law_313 rfl ?_
  refine g_iload C dL_law_314 rfl ?_
  refine g_iconst_1 C dL_law_316 ?_
  refine g_iadd C dL_law_317 ?_
  refine g_sld C hX hi.1 dL_law_318 ?_
  refine g_aload_0 C dL_law_319 rfl ?_
  refine g_iload C dL_law_320 rfl ?_
  refine g_iconst_2 C dL_law_322 ?_
  refine g_iadd C dL_law_323 ?_
  refine g_sld C hX hi.2.1 dL_law_324 ?_
  refine g_aload_0 C dL_law_325 rfl ?_
  refine g_iload C dL_law_326 rfl ?_
  refine g_iconst_3 C dL_law_328 ?_
  refine g_iadd C dL_law_329 ?_
  refine g_sld C hX hi.2.2.1 dL_law_330 ?_
  refine g_aload_0 C dL_law_331 rfl ?_
  refine g_iload C dL_law_332 rfl ?_
  refine g_iconst_4 C dL_law_334 ?_
  refine g_iadd C dL_law_335 ?_
  refine g_sld C hX hi.2.2.2.1 dL_law_336 ?_
  refine g_aload_0 C dL_law_337 rfl ?_
  refine g_iload C dL_law_338 rfl ?_
  refine g_iconst_5 C dL_law_340 ?_
  refine g_iadd C dL_law_341 ?_
  refine g_sld C hX hi.2.2.2.2 dL_law_342 ?_
  refine g_callF (w := wM E a') (σ := τ) (r := oL E o f ++ wI E a u) C 5 (As := [.int (xs (Int32.toNatClampNeg (i + 1))), .int (xs (Int32.toNatClampNeg (i + 2))), .int (xs (Int32.toNatClampNeg (i + 3))), .int (xs (Int32.toNatClampNeg (i + 4))), .int (xs (Int32.toNatClampNeg (i + 5)))]) (rest := [.int v]) (Cn := RX11) (T := TX11) (N := 42) (q0 := 0) (ci := 10) (by decide +kernel) (by decide +kernel) (by decide +kernel) (by decide +kernel) (by decide +kernel) (by decide +kernel) rfl rfl (cM_runners hu) ⟨rfl, rfl⟩ ⟨(Nat.le_of_ble_eq_true rfl), (Nat.le_of_ble_eq_true rfl)⟩ rfl rfl (Nat.le_of_ble_eq_true rfl) dL_law_343 (fun v' u' hu' => ?_)
  obtain ⟨rfl, hr⟩ := hu'
  refine g_csa (g_rot ?_)
  exact g_icmp_eq C 1377 dL_law_346 (by decide) (fun _ => k u u' hr) (fun q => absurd rfl q)
set_option maxHeartbeats 1000000 in
theorem lc_copy {X : Kx} {l : Launch} {E : Ev} {a a' : Nat → Nat} {σ τ : St} {o b L : Nat} {f : Nat → Int64} {xs : Nat → Int32} {i : Int32} {p q : Option Value} (C : Cx X l E RL cL_law room_1 (some .boolean)) (hX : SX X b L xs) (hi : vp_in (i + 1) L ∧ vp_in (i + 2) L ∧ vp_in (i + 3) L ∧ vp_in (i + 4) L ∧ vp_in (i + 5) L) (h : Rel σ τ) (k : ∀ σ' τ' : St, Rel σ' τ' → G X wid (wI E a σ' ++ (wM E a' τ' ++ oL E o f)) 1377 (lvL b a a' o i p q) []) : G X wid (wI E a σ ++ (wM E a' τ ++ oL E o f)) 351 (lvL b a a' o i p q) [] := by
  refine g_aload_1 C dL_law_351 rfl ?_
  refine g_aload_0 C dL_law_352 rfl ?_
  refine g_iload C dL_law_353 rfl ?_
  refine g_iconst_1 C dL_law_355 ?_
  refine g_iadd C dL_law_356 ?_
  refine g_sld C hX hi.1 dL_law_357 ?_
  refine g_aload_0 C dL_law_358 rfl ?_
  refine g_iload C dL_law_359 rfl ?_
  refine g_iconst_2 C dL_law_361 ?_
  refine g_iadd C dL_law_362 ?_
  refine g_sld C hX hi.2.1 dL_law_363 ?_
  refine g_aload_0 C dL_law_364 rfl ?_
  refine g_iload C dL_law_365 rfl ?_
  refine g_iconst_3 C dL_law_367 ?_
  refine g_iadd C dL_law_368 ?_
  refine g_sld C hX hi.2.2.1 dL_law_369 ?_
  refine g_aload_0 C dL_law_370 rfl ?_
  refine g_iload C dL_law_371 rfl ?_
  refine g_iconst_4 C dL_law_373 ?_
  refine g_iadd C dL_law_374 ?_
  refine g_sld C hX hi.2.2.2.1 dL_law_375 ?_
  refine g_aload_0 C dL_law_376 rfl ?_
  refine g_iload C dL_law_377 rfl ?_
  refine g_iconst_5 C dL_law_379 ?_
  refine g_iadd C dL_law_380 ?_
  refine g_sld C hX hi.2.2.2.2 dL_law_381 ?_
  refine g_callF (w := wI E a) (σ := σ) (r := wM E a' τ ++ oL E o f) C 5 (As := [.int (xs (Int32.toNatClampNeg (i + 1))), .int (xs (Int32.toNatClampNeg (i + 2))), .int (xs (Int32.toNatClampNeg (i + 3))), .int (xs (Int32.toNatClampNeg (i + 4))), .int (xs (Int32.toNatClampNeg (i + 5)))]) (rest := []) (Cn := RX10) (T := TX10) (N := 8) (q0 := 0) (ci := 9) (by decide +kernel) (by decide +kernel) (by decide +kernel) (by decide +kernel) (by decide +kernel) (by decide +kernel) rfl rfl (cI_X10_copy (T_copy h)) ⟨rfl, rfl⟩ ⟨(Nat.le_of_ble_eq_true rfl), (Nat.le_of_ble_eq_true rfl)⟩ rfl rfl (Nat.le_of_ble_eq_true rfl) dL_law_382 (fun v u hu => ?_)
  refine g_rot (g_asc ?_)
  refine g_aload_2 C dL_law_385 rfl ?_
  refine g_aload_0 C dL_law_386 rfl ?_
  refine g_iload C dL_law_387 rfl ?_
  refine g_iconst_1 C dL_law_389 ?_
  refine g_iadd C dL_law_390 ?_
  refine g_sld C hX hi.1 dL_law_391 ?_
  refine g_aload_0 C dL_law_392 rfl ?_
  refine g_iload C dL_law_393 rfl ?_
  refine g_iconst_2 C dL_law_395 ?_
  refine g_iadd C dL_law_396 ?_
  refine g_sld C hX hi.2.1 dL_law_397 ?_
  refine g_aload_0 C dL_law_398 rfl ?_
  refine g_iload C dL_law_399 rfl ?_
  refine g_iconst_3 C dL_law_401 ?_
  refine g_iadd C dL_law_402 ?_
  refine g_sld C hX hi.2.2.1 dL_law_403 ?_
  refine g_aload_0 C dL_law_404 rfl ?_
  refine g_iload C dL_law_405 rfl ?_
  refine g_iconst_4 C dL_law_407 ?_
  refine g_iadd C dL_law_408 ?_
  refine g_sld C hX hi.2.2.2.1 dL_law_409 ?_
  refine g_aload_0 C dL_law_410 rfl ?_
  refine g_iload C dL_law_411 rfl ?_
  refine g_iconst_5 C dL_law_413 ?_
  refine g_iadd C dL_law_414 ?_
  refine g_sld C hX hi.2.2.2.2 dL_law_415 ?_
  refine g_callF (w := wM E a') (σ := τ) (r := oL E o f ++ wI E a u) C 5 (As := [.int (xs (Int32.toNatClampNeg (i + 1))), .int (xs (Int32.toNatClampNeg (i + 2))), .int (xs (Int32.toNatClampNeg (i + 3))), .int (xs (Int32.toNatClampNeg (i + 4))), .int (xs (Int32.toNatClampNeg (i + 5)))]) (rest := [.int v]) (Cn := RX11) (T := TX11) (N := 42) (q0 := 0) (ci := 10) (by decide +kernel) (by decide +kernel) (by decide +kernel) (by decide +kernel) (by decide +kernel) (by decide +kernel) rfl rfl (cM_copy hu) ⟨rfl, rfl⟩ ⟨(Nat.le_of_ble_eq_true rfl), (Nat.le_of_ble_eq_true rfl)⟩ rfl rfl (Nat.le_of_ble_eq_true rfl) dL_law_416 (fun v' u' hu' => ?_)
  obtain ⟨rfl, hr⟩ := hu'
  refine g_csa (g_rot ?_)
  exact g_icmp_eq C 1377 dL_law_419 (by decide) (fun _ => k u u' hr) (fun q => absurd rfl q)
set_option maxHeartbeats 1000000 in
theorem lc_weather {X : Kx} {l : Launch} {E : Ev} {a a' : Nat → Nat} {σ τ : St} {o b L : Nat} {f : Nat → Int64} {xs : Nat → Int32} {i : Int32} {p q : Option Value} (C : Cx X l E RL cL_law room_1 (some .boolean)) (hX : SX X b L xs) (hi : vp_in (i + 1) L ∧ vp_in (i + 2) L ∧ vp_in (i + 3) L ∧ vp_in (i + 4) L ∧ vp_in (i + 5) L) (h : Rel σ τ) (k : ∀ σ' τ' : St, Rel σ' τ' → G X wid (wI E a σ' ++ (wM E a' τ' ++ oL E o f)) 1377 (lvL b a a' o i p q) []) : G X wid (wI E a σ ++ (wM E a' τ ++ oL E o f)) 492 (lvL b a a' o i p q) [] := by
  refine g_aload_1 C dL_law_492 rfl ?_
  refine g_aload_0 C dL_law_493 rfl ?_
  refine g_iload C dL_law_494 rfl ?_
  refine g_iconst_1 C dL_law_496 ?_
  refine g_iadd C dL_law_497 ?_
  refine g_sld C hX hi.1 dL_law_498 ?_
  refine g_aload_0 C dL_law_499 rfl ?_
  refine g_iload C dL_law_500 rfl ?_
  refine g_iconst_2 C dL_law_502 ?_
  refine g_iadd C dL_law_503 ?_
  refine g_sld C hX hi.2.1 dL_law_504 ?_
  refine g_aload_0 C dL_law_505 rfl ?_
  refine g_iload C dL_law_506 rfl ?_
  refine g_iconst_3 C dL_law_508 ?_
  refine g_iadd C dL_law_509 ?_
  refine g_sld C hX hi.2.2.1 dL_law_510 ?_
  refine g_callF (w := wI E a) (σ := σ) (r := wM E a' τ ++ oL E o f) C 3 (As := [.int (xs (Int32.toNatClampNeg (i + 1))), .int (xs (Int32.toNatClampNeg (i + 2))), .int (xs (Int32.toNatClampNeg (i + 3)))]) (rest := []) (Cn := RX10) (T := TX10) (N := 8) (q0 := 0) (ci := 9) (by decide +kernel) (by decide +kernel) (by decide +kernel) (by decide +kernel) (by decide +kernel) (by decide +kernel) rfl rfl (cI_X10_weather (T_weather h)) ⟨rfl, rfl⟩ ⟨(Nat.le_of_ble_eq_true rfl), (Nat.le_of_ble_eq_true rfl)⟩ rfl rfl (Nat.le_of_ble_eq_true rfl) dL_law_511 (fun v u hu => ?_)
  refine g_rot (g_asc ?_)
  refine g_aload_2 C dL_law_514 rfl ?_
  refine g_aload_0 C dL_law_515 rfl ?_
  refine g_iload C dL_law_516 rfl ?_
  refine g_iconst_1 C dL_law_518 ?_
  refine g_iadd C dL_law_519 ?_
  refine g_sld C hX hi.1 dL_law_520 ?_
  refine g_aload_0 C dL_law_521 rfl ?_
  refine g_iload C dL_law_522 rfl ?_
  refine g_iconst_2 C dL_law_524 ?_
  refine g_iadd C dL_law_525 ?_
  refine g_sld C hX hi.2.1 dL_law_526 ?_
  refine g_aload_0 C dL_law_527 rfl ?_
  refine g_iload C dL_law_528 rfl ?_
  refine g_iconst_3 C dL_law_530 ?_
  refine g_iadd C dL_law_531 ?_
  refine g_sld C hX hi.2.2.1 dL_law_532 ?_
  refine g_callF (w := wM E a') (σ := τ) (r := oL E o f ++ wI E a u) C 3 (As := [.int (xs (Int32.toNatClampNeg (i + 1))), .int (xs (Int32.toNatClampNeg (i + 2))), .int (xs (Int32.toNatClampNeg (i + 3)))]) (rest := [.int v]) (Cn := RX11) (T := TX11) (N := 42) (q0 := 0) (ci := 10) (by decide +kernel) (by decide +kernel) (by decide +kernel) (by decide +kernel) (by decide +kernel) (by decide +kernel) rfl rfl (cM_weather hu) ⟨rfl, rfl⟩ ⟨(Nat.le_of_ble_eq_true rfl), (Nat.le_of_ble_eq_true rfl)⟩ rfl rfl (Nat.le_of_ble_eq_true rfl) dL_law_533 (fun v' u' hu' => ?_)
  obtain ⟨rfl, hr⟩ := hu'
  refine g_csa (g_rot ?_)
  exact g_icmp_eq C 1377 dL_law_536 (by decide) (fun _ => k u u' hr) (fun q => absurd rfl q)
