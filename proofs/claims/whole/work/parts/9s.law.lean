/-! THE LAW, call by call (written by wip/whole/src/law.py) -/
section LW
variable {L n : Nat} {M : zM} {Q : Option zV → zM → Prop} {s : zA} {X : Int → Int} {i : Int}
theorem v_aldX {d m pc nx : Nat} {ll st : List zV} {g g1 : Int} {q : List (Int × Int)} {j : Int} (hX : ∀ x, M (-1) x = X x) (hc : z_cd m pc = (17, nx, 9, g, g1, q)) (hi : 0 ≤ j ∧ j < (L : Int)) (kk : v_wp L d m nx ll ((0, X j) :: st) M Q) : v_wp L d m pc ll ((0, j) :: (2, -1) :: st) M Q := v_ald9 hc rfl hi (by rw [hX]; exact kk)
theorem z_cmp_rf (x : Int) : z_cmp x x = 0 := by unfold z_cmp; rw [if_neg (by omega), if_pos rfl]
def z_nx (L : Nat) (X : Int → Int) (n : Nat) (i : Int) (Q : Option zV → zM → Prop) : Prop := ∀ (s' : zA) (M' : zM), CS s' M' → RS s' M' → BS s' (n + 1) → (∀ x, M' (-1) x = X x) → v_wp L 103 311 1360 [(2, -1), (2, 1), (2, 77), (0, i)] [] M' Q

theorem lw_c0 (hC : CS s M) (hR : RS s M) (hB : BS s n) (hn : n ≤ 600) (hX : ∀ x, M (-1) x = X x) (h32 : ∀ x, z_i32 (X x)) (hi : 0 ≤ i ∧ i + 6 ≤ (L : Int) ∧ L ≤ 3072) (nx : z_nx L X n i Q) : v_wp L 103 311 220 [(2, -1), (2, 1), (2, 77), (0, i)] [] M Q := by
  refine v_load lk_220 rfl ⟨rfl, Nat.le_of_ble_eq_true rfl⟩ ?_
  refine v_load lk_221 rfl ⟨rfl, Nat.le_of_ble_eq_true rfl⟩ ?_
  refine v_load lk_222 rfl ⟨rfl, Nat.le_of_ble_eq_true rfl⟩ ?_
  refine v_push lk_223 ?_
  refine v_add lk_224 (by omega) ?_
  refine v_aldX hX lk_225 ⟨by omega, by omega⟩ ?_
  refine v_load lk_226 rfl ⟨rfl, Nat.le_of_ble_eq_true rfl⟩ ?_
  refine v_load lk_227 rfl ⟨rfl, Nat.le_of_ble_eq_true rfl⟩ ?_
  refine v_push lk_228 ?_
  refine v_add lk_229 (by omega) ?_
  refine v_aldX hX lk_230 ⟨by omega, by omega⟩ ?_
  refine v_load lk_231 rfl ⟨rfl, Nat.le_of_ble_eq_true rfl⟩ ?_
  refine v_load lk_232 rfl ⟨rfl, Nat.le_of_ble_eq_true rfl⟩ ?_
  refine v_push lk_233 ?_
  refine v_add lk_234 (by omega) ?_
  refine v_aldX hX lk_235 ⟨by omega, by omega⟩ ?_
  refine v_load lk_236 rfl ⟨rfl, Nat.le_of_ble_eq_true rfl⟩ ?_
  refine v_load lk_237 rfl ⟨rfl, Nat.le_of_ble_eq_true rfl⟩ ?_
  refine v_push lk_238 ?_
  refine v_add lk_239 (by omega) ?_
  refine v_aldX hX lk_240 ⟨by omega, by omega⟩ ?_
  refine v_load lk_241 rfl ⟨rfl, Nat.le_of_ble_eq_true rfl⟩ ?_
  refine v_load lk_242 rfl ⟨rfl, Nat.le_of_ble_eq_true rfl⟩ ?_
  refine v_push lk_243 ?_
  refine v_add lk_244 (by omega) ?_
  refine v_aldX hX lk_245 ⟨by omega, by omega⟩ ?_
  refine v_callr lk_246 ⟨Nat.le_of_ble_eq_true rfl, Nat.le_of_ble_eq_true rfl, rfl, Nat.le_of_ble_eq_true rfl, rfl⟩ ?_
  refine S_feed (d := 100) hC (fun M1 c1 o1 => ?_)
  have hX1 : ∀ x, M1 (-1) x = X x := fun x => (o1 (-1) x (by decide)).trans (hX x)
  have r1 : RS s M1 := RJ_oR hR o1 (by decide)
  refine v_load lk_249 rfl ⟨rfl, Nat.le_of_ble_eq_true rfl⟩ ?_
  refine v_load lk_250 rfl ⟨rfl, Nat.le_of_ble_eq_true rfl⟩ ?_
  refine v_load lk_251 rfl ⟨rfl, Nat.le_of_ble_eq_true rfl⟩ ?_
  refine v_push lk_252 ?_
  refine v_add lk_253 (by omega) ?_
  refine v_aldX hX1 lk_254 ⟨by omega, by omega⟩ ?_
  refine v_load lk_255 rfl ⟨rfl, Nat.le_of_ble_eq_true rfl⟩ ?_
  refine v_load lk_256 rfl ⟨rfl, Nat.le_of_ble_eq_true rfl⟩ ?_
  refine v_push lk_257 ?_
  refine v_add lk_258 (by omega) ?_
  refine v_aldX hX1 lk_259 ⟨by omega, by omega⟩ ?_
  refine v_load lk_260 rfl ⟨rfl, Nat.le_of_ble_eq_true rfl⟩ ?_
  refine v_load lk_261 rfl ⟨rfl, Nat.le_of_ble_eq_true rfl⟩ ?_
  refine v_push lk_262 ?_
  refine v_add lk_263 (by omega) ?_
  refine v_aldX hX1 lk_264 ⟨by omega, by omega⟩ ?_
  refine v_load lk_265 rfl ⟨rfl, Nat.le_of_ble_eq_true rfl⟩ ?_
  refine v_load lk_266 rfl ⟨rfl, Nat.le_of_ble_eq_true rfl⟩ ?_
  refine v_push lk_267 ?_
  refine v_add lk_268 (by omega) ?_
  refine v_aldX hX1 lk_269 ⟨by omega, by omega⟩ ?_
  refine v_load lk_270 rfl ⟨rfl, Nat.le_of_ble_eq_true rfl⟩ ?_
  refine v_load lk_271 rfl ⟨rfl, Nat.le_of_ble_eq_true rfl⟩ ?_
  refine v_push lk_272 ?_
  refine v_add lk_273 (by omega) ?_
  refine v_aldX hX1 lk_274 ⟨by omega, by omega⟩ ?_
  refine v_callr lk_275 ⟨Nat.le_of_ble_eq_true rfl, Nat.le_of_ble_eq_true rfl, rfl, Nat.le_of_ble_eq_true rfl, rfl⟩ ?_
  refine R_feed (d := 100) r1 (fun M2 r2 o2 => ?_)
  refine v_ieq lk_278 (fun _ => ?_) (fun h => absurd rfl h)
  exact nx _ M2 (CI_oR c1 o2 (by decide)) r2 (BS_feed hB) (fun x => (o2 (-1) x (by decide)).trans (hX1 x))
theorem lw_c1 (hC : CS s M) (hR : RS s M) (hB : BS s n) (hn : n ≤ 600) (hX : ∀ x, M (-1) x = X x) (h32 : ∀ x, z_i32 (X x)) (hi : 0 ≤ i ∧ i + 6 ≤ (L : Int) ∧ L ≤ 3072) (nx : z_nx L X n i Q) : v_wp L 103 311 283 [(2, -1), (2, 1), (2, 77), (0, i)] [] M Q := by
  refine v_load lk_283 rfl ⟨rfl, Nat.le_of_ble_eq_true rfl⟩ ?_
  refine v_load lk_284 rfl ⟨rfl, Nat.le_of_ble_eq_true rfl⟩ ?_
  refine v_load lk_285 rfl ⟨rfl, Nat.le_of_ble_eq_true rfl⟩ ?_
  refine v_push lk_286 ?_
  refine v_add lk_287 (by omega) ?_
  refine v_aldX hX lk_288 ⟨by omega, by omega⟩ ?_
  refine v_callr lk_289 ⟨Nat.le_of_ble_eq_true rfl, Nat.le_of_ble_eq_true rfl, rfl, Nat.le_of_ble_eq_true rfl, rfl⟩ ?_
  refine S_load (d := 0) hC hB (fun M1 c1 o1 => ?_)
  have hX1 : ∀ x, M1 (-1) x = X x := fun x => (o1 (-1) x (by decide)).trans (hX x)
  have r1 : RS s M1 := RJ_oR hR o1 (by decide)
  refine v_load lk_292 rfl ⟨rfl, Nat.le_of_ble_eq_true rfl⟩ ?_
  refine v_load lk_293 rfl ⟨rfl, Nat.le_of_ble_eq_true rfl⟩ ?_
  refine v_load lk_294 rfl ⟨rfl, Nat.le_of_ble_eq_true rfl⟩ ?_
  refine v_push lk_295 ?_
  refine v_add lk_296 (by omega) ?_
  refine v_aldX hX1 lk_297 ⟨by omega, by omega⟩ ?_
  refine v_callr lk_298 ⟨Nat.le_of_ble_eq_true rfl, Nat.le_of_ble_eq_true rfl, rfl, Nat.le_of_ble_eq_true rfl, rfl⟩ ?_
  refine R_load (d := 91) r1 hB (fun M2 r2 o2 => ?_)
  refine v_ieq lk_301 (fun _ => ?_) (fun h => absurd rfl h)
  exact nx _ M2 (CI_oR c1 o2 (by decide)) r2 (BS_load hB) (fun x => (o2 (-1) x (by decide)).trans (hX1 x))
theorem lw_c2 (hC : CS s M) (hR : RS s M) (hB : BS s n) (hn : n ≤ 600) (hX : ∀ x, M (-1) x = X x) (h32 : ∀ x, z_i32 (X x)) (hi : 0 ≤ i ∧ i + 6 ≤ (L : Int) ∧ L ≤ 3072) (nx : z_nx L X n i Q) : v_wp L 103 311 306 [(2, -1), (2, 1), (2, 77), (0, i)] [] M Q := by
  refine v_load lk_306 rfl ⟨rfl, Nat.le_of_ble_eq_true rfl⟩ ?_
  refine v_load lk_307 rfl ⟨rfl, Nat.le_of_ble_eq_true rfl⟩ ?_
  refine v_load lk_308 rfl ⟨rfl, Nat.le_of_ble_eq_true rfl⟩ ?_
  refine v_push lk_309 ?_
  refine v_add lk_310 (by omega) ?_
  refine v_aldX hX lk_311 ⟨by omega, by omega⟩ ?_
  refine v_load lk_312 rfl ⟨rfl, Nat.le_of_ble_eq_true rfl⟩ ?_
  refine v_load lk_313 rfl ⟨rfl, Nat.le_of_ble_eq_true rfl⟩ ?_
  refine v_push lk_314 ?_
  refine v_add lk_315 (by omega) ?_
  refine v_aldX hX lk_316 ⟨by omega, by omega⟩ ?_
  refine v_load lk_317 rfl ⟨rfl, Nat.le_of_ble_eq_true rfl⟩ ?_
  refine v_load lk_318 rfl ⟨rfl, Nat.le_of_ble_eq_true rfl⟩ ?_
  refine v_push lk_319 ?_
  refine v_add lk_320 (by omega) ?_
  refine v_aldX hX lk_321 ⟨by omega, by omega⟩ ?_
  refine v_callr lk_322 ⟨Nat.le_of_ble_eq_true rfl, Nat.le_of_ble_eq_true rfl, rfl, Nat.le_of_ble_eq_true rfl, rfl⟩ ?_
  refine S_edit (d := 0) hC hB hn (fun M1 c1 o1 => ?_)
  have hX1 : ∀ x, M1 (-1) x = X x := fun x => (o1 (-1) x (by decide)).trans (hX x)
  have r1 : RS s M1 := RJ_oR hR o1 (by decide)
  refine v_load lk_325 rfl ⟨rfl, Nat.le_of_ble_eq_true rfl⟩ ?_
  refine v_load lk_326 rfl ⟨rfl, Nat.le_of_ble_eq_true rfl⟩ ?_
  refine v_load lk_327 rfl ⟨rfl, Nat.le_of_ble_eq_true rfl⟩ ?_
  refine v_push lk_328 ?_
  refine v_add lk_329 (by omega) ?_
  refine v_aldX hX1 lk_330 ⟨by omega, by omega⟩ ?_
  refine v_load lk_331 rfl ⟨rfl, Nat.le_of_ble_eq_true rfl⟩ ?_
  refine v_load lk_332 rfl ⟨rfl, Nat.le_of_ble_eq_true rfl⟩ ?_
  refine v_push lk_333 ?_
  refine v_add lk_334 (by omega) ?_
  refine v_aldX hX1 lk_335 ⟨by omega, by omega⟩ ?_
  refine v_load lk_336 rfl ⟨rfl, Nat.le_of_ble_eq_true rfl⟩ ?_
  refine v_load lk_337 rfl ⟨rfl, Nat.le_of_ble_eq_true rfl⟩ ?_
  refine v_push lk_338 ?_
  refine v_add lk_339 (by omega) ?_
  refine v_aldX hX1 lk_340 ⟨by omega, by omega⟩ ?_
  refine v_callr lk_341 ⟨Nat.le_of_ble_eq_true rfl, Nat.le_of_ble_eq_true rfl, rfl, Nat.le_of_ble_eq_true rfl, rfl⟩ ?_
  refine R_edit (d := 90) r1 hB hn (fun M2 r2 o2 => ?_)
  refine v_ieq lk_344 (fun _ => ?_) (fun h => absurd rfl h)
  exact nx _ M2 (CI_oR c1 o2 (by decide)) r2 (BS_edit hB) (fun x => (o2 (-1) x (by decide)).trans (hX1 x))
theorem lw_c3 (hC : CS s M) (hR : RS s M) (hB : BS s n) (hn : n ≤ 600) (hX : ∀ x, M (-1) x = X x) (h32 : ∀ x, z_i32 (X x)) (hi : 0 ≤ i ∧ i + 6 ≤ (L : Int) ∧ L ≤ 3072) (nx : z_nx L X n i Q) : v_wp L 103 311 349 [(2, -1), (2, 1), (2, 77), (0, i)] [] M Q := by
  refine v_load lk_349 rfl ⟨rfl, Nat.le_of_ble_eq_true rfl⟩ ?_
  refine v_load lk_350 rfl ⟨rfl, Nat.le_of_ble_eq_true rfl⟩ ?_
  refine v_load lk_351 rfl ⟨rfl, Nat.le_of_ble_eq_true rfl⟩ ?_
  refine v_push lk_352 ?_
  refine v_add lk_353 (by omega) ?_
  refine v_aldX hX lk_354 ⟨by omega, by omega⟩ ?_
  refine v_load lk_355 rfl ⟨rfl, Nat.le_of_ble_eq_true rfl⟩ ?_
  refine v_load lk_356 rfl ⟨rfl, Nat.le_of_ble_eq_true rfl⟩ ?_
  refine v_push lk_357 ?_
  refine v_add lk_358 (by omega) ?_
  refine v_aldX hX lk_359 ⟨by omega, by omega⟩ ?_
  refine v_callr lk_360 ⟨Nat.le_of_ble_eq_true rfl, Nat.le_of_ble_eq_true rfl, rfl, Nat.le_of_ble_eq_true rfl, rfl⟩ ?_
  refine S_rename (d := 0) hC hB hn (fun M1 c1 o1 => ?_)
  have hX1 : ∀ x, M1 (-1) x = X x := fun x => (o1 (-1) x (by decide)).trans (hX x)
  have r1 : RS s M1 := RJ_oR hR o1 (by decide)
  refine v_load lk_363 rfl ⟨rfl, Nat.le_of_ble_eq_true rfl⟩ ?_
  refine v_load lk_364 rfl ⟨rfl, Nat.le_of_ble_eq_true rfl⟩ ?_
  refine v_load lk_365 rfl ⟨rfl, Nat.le_of_ble_eq_true rfl⟩ ?_
  refine v_push lk_366 ?_
  refine v_add lk_367 (by omega) ?_
  refine v_aldX hX1 lk_368 ⟨by omega, by omega⟩ ?_
  refine v_load lk_369 rfl ⟨rfl, Nat.le_of_ble_eq_true rfl⟩ ?_
  refine v_load lk_370 rfl ⟨rfl, Nat.le_of_ble_eq_true rfl⟩ ?_
  refine v_push lk_371 ?_
  refine v_add lk_372 (by omega) ?_
  refine v_aldX hX1 lk_373 ⟨by omega, by omega⟩ ?_
  refine v_callr lk_374 ⟨Nat.le_of_ble_eq_true rfl, Nat.le_of_ble_eq_true rfl, rfl, Nat.le_of_ble_eq_true rfl, rfl⟩ ?_
  refine R_rename (d := 90) r1 hB hn (h32 _) (fun M2 r2 o2 => ?_)
  refine v_ieq lk_377 (fun _ => ?_) (fun h => absurd rfl h)
  exact nx _ M2 (CI_oR c1 o2 (by decide)) r2 (BS_rename hB) (fun x => (o2 (-1) x (by decide)).trans (hX1 x))
theorem lw_c4 (hC : CS s M) (hR : RS s M) (hB : BS s n) (hn : n ≤ 600) (hX : ∀ x, M (-1) x = X x) (h32 : ∀ x, z_i32 (X x)) (hi : 0 ≤ i ∧ i + 6 ≤ (L : Int) ∧ L ≤ 3072) (nx : z_nx L X n i Q) : v_wp L 103 311 382 [(2, -1), (2, 1), (2, 77), (0, i)] [] M Q := by
  refine v_load lk_382 rfl ⟨rfl, Nat.le_of_ble_eq_true rfl⟩ ?_
  refine v_load lk_383 rfl ⟨rfl, Nat.le_of_ble_eq_true rfl⟩ ?_
  refine v_load lk_384 rfl ⟨rfl, Nat.le_of_ble_eq_true rfl⟩ ?_
  refine v_push lk_385 ?_
  refine v_add lk_386 (by omega) ?_
  refine v_aldX hX lk_387 ⟨by omega, by omega⟩ ?_
  refine v_callr lk_388 ⟨Nat.le_of_ble_eq_true rfl, Nat.le_of_ble_eq_true rfl, rfl, Nat.le_of_ble_eq_true rfl, rfl⟩ ?_
  refine S_drop (d := 0) hC hB hn (fun M1 c1 o1 => ?_)
  have hX1 : ∀ x, M1 (-1) x = X x := fun x => (o1 (-1) x (by decide)).trans (hX x)
  have r1 : RS s M1 := RJ_oR hR o1 (by decide)
  refine v_load lk_391 rfl ⟨rfl, Nat.le_of_ble_eq_true rfl⟩ ?_
  refine v_load lk_392 rfl ⟨rfl, Nat.le_of_ble_eq_true rfl⟩ ?_
  refine v_load lk_393 rfl ⟨rfl, Nat.le_of_ble_eq_true rfl⟩ ?_
  refine v_push lk_394 ?_
  refine v_add lk_395 (by omega) ?_
  refine v_aldX hX1 lk_396 ⟨by omega, by omega⟩ ?_
  refine v_callr lk_397 ⟨Nat.le_of_ble_eq_true rfl, Nat.le_of_ble_eq_true rfl, rfl, Nat.le_of_ble_eq_true rfl, rfl⟩ ?_
  refine R_drop (d := 90) r1 hB hn (h32 _) (fun M2 r2 o2 => ?_)
  refine v_ieq lk_400 (fun _ => ?_) (fun h => absurd rfl h)
  exact nx _ M2 (CI_oR c1 o2 (by decide)) r2 (BS_drop hB) (fun x => (o2 (-1) x (by decide)).trans (hX1 x))
theorem lw_c5 (hC : CS s M) (hR : RS s M) (hB : BS s n) (hn : n ≤ 600) (hX : ∀ x, M (-1) x = X x) (h32 : ∀ x, z_i32 (X x)) (hi : 0 ≤ i ∧ i + 6 ≤ (L : Int) ∧ L ≤ 3072) (nx : z_nx L X n i Q) : v_wp L 103 311 405 [(2, -1), (2, 1), (2, 77), (0, i)] [] M Q := by
  refine v_load lk_405 rfl ⟨rfl, Nat.le_of_ble_eq_true rfl⟩ ?_
  refine v_load lk_406 rfl ⟨rfl, Nat.le_of_ble_eq_true rfl⟩ ?_
  refine v_load lk_407 rfl ⟨rfl, Nat.le_of_ble_eq_true rfl⟩ ?_
  refine v_push lk_408 ?_
  refine v_add lk_409 (by omega) ?_
  refine v_aldX hX lk_410 ⟨by omega, by omega⟩ ?_
  refine v_callr lk_411 ⟨Nat.le_of_ble_eq_true rfl, Nat.le_of_ble_eq_true rfl, rfl, Nat.le_of_ble_eq_true rfl, rfl⟩ ?_
  refine S_wrap (d := 0) hC hB hn (fun M1 c1 o1 => ?_)
  have hX1 : ∀ x, M1 (-1) x = X x := fun x => (o1 (-1) x (by decide)).trans (hX x)
  have r1 : RS s M1 := RJ_oR hR o1 (by decide)
  refine v_load lk_414 rfl ⟨rfl, Nat.le_of_ble_eq_true rfl⟩ ?_
  refine v_load lk_415 rfl ⟨rfl, Nat.le_of_ble_eq_true rfl⟩ ?_
  refine v_load lk_416 rfl ⟨rfl, Nat.le_of_ble_eq_true rfl⟩ ?_
  refine v_push lk_417 ?_
  refine v_add lk_418 (by omega) ?_
  refine v_aldX hX1 lk_419 ⟨by omega, by omega⟩ ?_
  refine v_callr lk_420 ⟨Nat.le_of_ble_eq_true rfl, Nat.le_of_ble_eq_true rfl, rfl, Nat.le_of_ble_eq_true rfl, rfl⟩ ?_
  refine R_wrap (d := 90) r1 hB hn (h32 _) (fun M2 r2 o2 => ?_)
  refine v_ieq lk_423 (fun _ => ?_) (fun h => absurd rfl h)
  exact nx _ M2 (CI_oR c1 o2 (by decide)) r2 (BS_wrap hB) (fun x => (o2 (-1) x (by decide)).trans (hX1 x))
theorem lw_c6 (hC : CS s M) (hR : RS s M) (hB : BS s n) (hn : n ≤ 600) (hX : ∀ x, M (-1) x = X x) (h32 : ∀ x, z_i32 (X x)) (hi : 0 ≤ i ∧ i + 6 ≤ (L : Int) ∧ L ≤ 3072) (nx : z_nx L X n i Q) : v_wp L 103 311 428 [(2, -1), (2, 1), (2, 77), (0, i)] [] M Q := by
  refine v_load lk_428 rfl ⟨rfl, Nat.le_of_ble_eq_true rfl⟩ ?_
  refine v_load lk_429 rfl ⟨rfl, Nat.le_of_ble_eq_true rfl⟩ ?_
  refine v_load lk_430 rfl ⟨rfl, Nat.le_of_ble_eq_true rfl⟩ ?_
  refine v_push lk_431 ?_
  refine v_add lk_432 (by omega) ?_
  refine v_aldX hX lk_433 ⟨by omega, by omega⟩ ?_
  refine v_load lk_434 rfl ⟨rfl, Nat.le_of_ble_eq_true rfl⟩ ?_
  refine v_load lk_435 rfl ⟨rfl, Nat.le_of_ble_eq_true rfl⟩ ?_
  refine v_push lk_436 ?_
  refine v_add lk_437 (by omega) ?_
  refine v_aldX hX lk_438 ⟨by omega, by omega⟩ ?_
  refine v_callr lk_439 ⟨Nat.le_of_ble_eq_true rfl, Nat.le_of_ble_eq_true rfl, rfl, Nat.le_of_ble_eq_true rfl, rfl⟩ ?_
  refine S_swap (d := 0) hC hB hn (h32 _) (h32 _) (fun M1 c1 o1 => ?_)
  have hX1 : ∀ x, M1 (-1) x = X x := fun x => (o1 (-1) x (by decide)).trans (hX x)
  have r1 : RS s M1 := RJ_oR hR o1 (by decide)
  refine v_load lk_442 rfl ⟨rfl, Nat.le_of_ble_eq_true rfl⟩ ?_
  refine v_load lk_443 rfl ⟨rfl, Nat.le_of_ble_eq_true rfl⟩ ?_
  refine v_load lk_444 rfl ⟨rfl, Nat.le_of_ble_eq_true rfl⟩ ?_
  refine v_push lk_445 ?_
  refine v_add lk_446 (by omega) ?_
  refine v_aldX hX1 lk_447 ⟨by omega, by omega⟩ ?_
  refine v_load lk_448 rfl ⟨rfl, Nat.le_of_ble_eq_true rfl⟩ ?_
  refine v_load lk_449 rfl ⟨rfl, Nat.le_of_ble_eq_true rfl⟩ ?_
  refine v_push lk_450 ?_
  refine v_add lk_451 (by omega) ?_
  refine v_aldX hX1 lk_452 ⟨by omega, by omega⟩ ?_
  refine v_callr lk_453 ⟨Nat.le_of_ble_eq_true rfl, Nat.le_of_ble_eq_true rfl, rfl, Nat.le_of_ble_eq_true rfl, rfl⟩ ?_
  refine R_swap (d := 90) r1 hB hn (h32 _) (h32 _) (fun M2 r2 o2 => ?_)
  refine v_ieq lk_456 (fun _ => ?_) (fun h => absurd rfl h)
  exact nx _ M2 (CI_oR c1 o2 (by decide)) r2 (BS_swap hB) (fun x => (o2 (-1) x (by decide)).trans (hX1 x))
theorem lw_c7 (hC : CS s M) (hR : RS s M) (hB : BS s n) (hn : n ≤ 600) (hX : ∀ x, M (-1) x = X x) (h32 : ∀ x, z_i32 (X x)) (hi : 0 ≤ i ∧ i + 6 ≤ (L : Int) ∧ L ≤ 3072) (nx : z_nx L X n i Q) : v_wp L 103 311 461 [(2, -1), (2, 1), (2, 77), (0, i)] [] M Q := by
  refine v_load lk_461 rfl ⟨rfl, Nat.le_of_ble_eq_true rfl⟩ ?_
  refine v_load lk_462 rfl ⟨rfl, Nat.le_of_ble_eq_true rfl⟩ ?_
  refine v_load lk_463 rfl ⟨rfl, Nat.le_of_ble_eq_true rfl⟩ ?_
  refine v_push lk_464 ?_
  refine v_add lk_465 (by omega) ?_
  refine v_aldX hX lk_466 ⟨by omega, by omega⟩ ?_
  refine v_load lk_467 rfl ⟨rfl, Nat.le_of_ble_eq_true rfl⟩ ?_
  refine v_load lk_468 rfl ⟨rfl, Nat.le_of_ble_eq_true rfl⟩ ?_
  refine v_push lk_469 ?_
  refine v_add lk_470 (by omega) ?_
  refine v_aldX hX lk_471 ⟨by omega, by omega⟩ ?_
  refine v_callr lk_472 ⟨Nat.le_of_ble_eq_true rfl, Nat.le_of_ble_eq_true rfl, rfl, Nat.le_of_ble_eq_true rfl, rfl⟩ ?_
  refine S_copy (d := 0) hC hB hn (fun M1 c1 o1 => ?_)
  have hX1 : ∀ x, M1 (-1) x = X x := fun x => (o1 (-1) x (by decide)).trans (hX x)
  have r1 : RS s M1 := RJ_oR hR o1 (by decide)
  refine v_load lk_475 rfl ⟨rfl, Nat.le_of_ble_eq_true rfl⟩ ?_
  refine v_load lk_476 rfl ⟨rfl, Nat.le_of_ble_eq_true rfl⟩ ?_
  refine v_load lk_477 rfl ⟨rfl, Nat.le_of_ble_eq_true rfl⟩ ?_
  refine v_push lk_478 ?_
  refine v_add lk_479 (by omega) ?_
  refine v_aldX hX1 lk_480 ⟨by omega, by omega⟩ ?_
  refine v_load lk_481 rfl ⟨rfl, Nat.le_of_ble_eq_true rfl⟩ ?_
  refine v_load lk_482 rfl ⟨rfl, Nat.le_of_ble_eq_true rfl⟩ ?_
  refine v_push lk_483 ?_
  refine v_add lk_484 (by omega) ?_
  refine v_aldX hX1 lk_485 ⟨by omega, by omega⟩ ?_
  refine v_callr lk_486 ⟨Nat.le_of_ble_eq_true rfl, Nat.le_of_ble_eq_true rfl, rfl, Nat.le_of_ble_eq_true rfl, rfl⟩ ?_
  refine R_copy (d := 90) r1 hB hn (h32 _) (h32 _) (fun M2 r2 o2 => ?_)
  refine v_ieq lk_489 (fun _ => ?_) (fun h => absurd rfl h)
  exact nx _ M2 (CI_oR c1 o2 (by decide)) r2 (BS_copy hB) (fun x => (o2 (-1) x (by decide)).trans (hX1 x))
theorem lw_c8 (hC : CS s M) (hR : RS s M) (hB : BS s n) (hn : n ≤ 600) (hX : ∀ x, M (-1) x = X x) (h32 : ∀ x, z_i32 (X x)) (hi : 0 ≤ i ∧ i + 6 ≤ (L : Int) ∧ L ≤ 3072) (nx : z_nx L X n i Q) : v_wp L 103 311 494 [(2, -1), (2, 1), (2, 77), (0, i)] [] M Q := by
  refine v_load lk_494 rfl ⟨rfl, Nat.le_of_ble_eq_true rfl⟩ ?_
  refine v_load lk_495 rfl ⟨rfl, Nat.le_of_ble_eq_true rfl⟩ ?_
  refine v_load lk_496 rfl ⟨rfl, Nat.le_of_ble_eq_true rfl⟩ ?_
  refine v_push lk_497 ?_
  refine v_add lk_498 (by omega) ?_
  refine v_aldX hX lk_499 ⟨by omega, by omega⟩ ?_
  refine v_callr lk_500 ⟨Nat.le_of_ble_eq_true rfl, Nat.le_of_ble_eq_true rfl, rfl, Nat.le_of_ble_eq_true rfl, rfl⟩ ?_
  refine S_unwrap (d := 0) hC hB hn (fun M1 c1 o1 => ?_)
  have hX1 : ∀ x, M1 (-1) x = X x := fun x => (o1 (-1) x (by decide)).trans (hX x)
  have r1 : RS s M1 := RJ_oR hR o1 (by decide)
  refine v_load lk_503 rfl ⟨rfl, Nat.le_of_ble_eq_true rfl⟩ ?_
  refine v_load lk_504 rfl ⟨rfl, Nat.le_of_ble_eq_true rfl⟩ ?_
  refine v_load lk_505 rfl ⟨rfl, Nat.le_of_ble_eq_true rfl⟩ ?_
  refine v_push lk_506 ?_
  refine v_add lk_507 (by omega) ?_
  refine v_aldX hX1 lk_508 ⟨by omega, by omega⟩ ?_
  refine v_callr lk_509 ⟨Nat.le_of_ble_eq_true rfl, Nat.le_of_ble_eq_true rfl, rfl, Nat.le_of_ble_eq_true rfl, rfl⟩ ?_
  refine R_unwrap (d := 90) r1 hB hn (h32 _) (fun M2 r2 o2 => ?_)
  refine v_ieq lk_512 (fun _ => ?_) (fun h => absurd rfl h)
  exact nx _ M2 (CI_oR c1 o2 (by decide)) r2 (BS_unwrap hB) (fun x => (o2 (-1) x (by decide)).trans (hX1 x))
theorem lw_c9 (hC : CS s M) (hR : RS s M) (hB : BS s n) (hn : n ≤ 600) (hX : ∀ x, M (-1) x = X x) (h32 : ∀ x, z_i32 (X x)) (hi : 0 ≤ i ∧ i + 6 ≤ (L : Int) ∧ L ≤ 3072) (nx : z_nx L X n i Q) : v_wp L 103 311 517 [(2, -1), (2, 1), (2, 77), (0, i)] [] M Q := by
  refine v_load lk_517 rfl ⟨rfl, Nat.le_of_ble_eq_true rfl⟩ ?_
  refine v_callr lk_518 ⟨Nat.le_of_ble_eq_true rfl, Nat.le_of_ble_eq_true rfl, rfl, Nat.le_of_ble_eq_true rfl, rfl⟩ ?_
  refine S_mend (d := 0) hC hB hn (fun M1 c1 o1 => ?_)
  have hX1 : ∀ x, M1 (-1) x = X x := fun x => (o1 (-1) x (by decide)).trans (hX x)
  have r1 : RS s M1 := RJ_oR hR o1 (by decide)
  refine v_load lk_521 rfl ⟨rfl, Nat.le_of_ble_eq_true rfl⟩ ?_
  refine v_callr lk_522 ⟨Nat.le_of_ble_eq_true rfl, Nat.le_of_ble_eq_true rfl, rfl, Nat.le_of_ble_eq_true rfl, rfl⟩ ?_
  refine R_mend (d := 90) r1 hB hn (fun M2 r2 o2 => ?_)
  refine v_ieq lk_525 (fun _ => ?_) (fun h => absurd rfl h)
  exact nx _ M2 (CI_oR c1 o2 (by decide)) r2 (BS_mend hB) (fun x => (o2 (-1) x (by decide)).trans (hX1 x))
theorem lw_c10 (hC : CS s M) (hR : RS s M) (hB : BS s n) (hn : n ≤ 600) (hX : ∀ x, M (-1) x = X x) (h32 : ∀ x, z_i32 (X x)) (hi : 0 ≤ i ∧ i + 6 ≤ (L : Int) ∧ L ≤ 3072) (nx : z_nx L X n i Q) : v_wp L 103 311 530 [(2, -1), (2, 1), (2, 77), (0, i)] [] M Q := by
  refine v_load lk_530 rfl ⟨rfl, Nat.le_of_ble_eq_true rfl⟩ ?_
  refine v_callr lk_531 ⟨Nat.le_of_ble_eq_true rfl, Nat.le_of_ble_eq_true rfl, rfl, Nat.le_of_ble_eq_true rfl, rfl⟩ ?_
  refine S_undo (d := 0) hC hB (fun M1 c1 o1 => ?_)
  have hX1 : ∀ x, M1 (-1) x = X x := fun x => (o1 (-1) x (by decide)).trans (hX x)
  have r1 : RS s M1 := RJ_oR hR o1 (by decide)
  refine v_load lk_534 rfl ⟨rfl, Nat.le_of_ble_eq_true rfl⟩ ?_
  refine v_callr lk_535 ⟨Nat.le_of_ble_eq_true rfl, Nat.le_of_ble_eq_true rfl, rfl, Nat.le_of_ble_eq_true rfl, rfl⟩ ?_
  refine R_undo (d := 91) r1 hB (fun M2 r2 o2 => ?_)
  refine v_ieq lk_538 (fun _ => ?_) (fun h => absurd rfl h)
  exact nx _ M2 (CI_oR c1 o2 (by decide)) r2 (BS_undo hB) (fun x => (o2 (-1) x (by decide)).trans (hX1 x))
theorem lw_c11 (hC : CS s M) (hR : RS s M) (hB : BS s n) (hn : n ≤ 600) (hX : ∀ x, M (-1) x = X x) (h32 : ∀ x, z_i32 (X x)) (hi : 0 ≤ i ∧ i + 6 ≤ (L : Int) ∧ L ≤ 3072) (nx : z_nx L X n i Q) : v_wp L 103 311 543 [(2, -1), (2, 1), (2, 77), (0, i)] [] M Q := by
  refine v_load lk_543 rfl ⟨rfl, Nat.le_of_ble_eq_true rfl⟩ ?_
  refine v_callr lk_544 ⟨Nat.le_of_ble_eq_true rfl, Nat.le_of_ble_eq_true rfl, rfl, Nat.le_of_ble_eq_true rfl, rfl⟩ ?_
  refine S_redo (d := 0) hC hB (fun M1 c1 o1 => ?_)
  have hX1 : ∀ x, M1 (-1) x = X x := fun x => (o1 (-1) x (by decide)).trans (hX x)
  have r1 : RS s M1 := RJ_oR hR o1 (by decide)
  refine v_load lk_547 rfl ⟨rfl, Nat.le_of_ble_eq_true rfl⟩ ?_
  refine v_callr lk_548 ⟨Nat.le_of_ble_eq_true rfl, Nat.le_of_ble_eq_true rfl, rfl, Nat.le_of_ble_eq_true rfl, rfl⟩ ?_
  refine R_redo (d := 91) r1 hB (fun M2 r2 o2 => ?_)
  refine v_ieq lk_551 (fun _ => ?_) (fun h => absurd rfl h)
  exact nx _ M2 (CI_oR c1 o2 (by decide)) r2 (BS_redo hB) (fun x => (o2 (-1) x (by decide)).trans (hX1 x))
theorem lw_c12 (hC : CS s M) (hR : RS s M) (hB : BS s n) (hn : n ≤ 600) (hX : ∀ x, M (-1) x = X x) (h32 : ∀ x, z_i32 (X x)) (hi : 0 ≤ i ∧ i + 6 ≤ (L : Int) ∧ L ≤ 3072) (nx : z_nx L X n i Q) : v_wp L 103 311 556 [(2, -1), (2, 1), (2, 77), (0, i)] [] M Q := by
  refine v_load lk_556 rfl ⟨rfl, Nat.le_of_ble_eq_true rfl⟩ ?_
  refine v_load lk_557 rfl ⟨rfl, Nat.le_of_ble_eq_true rfl⟩ ?_
  refine v_load lk_558 rfl ⟨rfl, Nat.le_of_ble_eq_true rfl⟩ ?_
  refine v_push lk_559 ?_
  refine v_add lk_560 (by omega) ?_
  refine v_aldX hX lk_561 ⟨by omega, by omega⟩ ?_
  refine v_callr lk_562 ⟨Nat.le_of_ble_eq_true rfl, Nat.le_of_ble_eq_true rfl, rfl, Nat.le_of_ble_eq_true rfl, rfl⟩ ?_
  refine S_count (d := 92) hC hB ?_
  refine v_load lk_565 rfl ⟨rfl, Nat.le_of_ble_eq_true rfl⟩ ?_
  refine v_load lk_566 rfl ⟨rfl, Nat.le_of_ble_eq_true rfl⟩ ?_
  refine v_load lk_567 rfl ⟨rfl, Nat.le_of_ble_eq_true rfl⟩ ?_
  refine v_push lk_568 ?_
  refine v_add lk_569 (by omega) ?_
  refine v_aldX hX lk_570 ⟨by omega, by omega⟩ ?_
  refine v_callr lk_571 ⟨Nat.le_of_ble_eq_true rfl, Nat.le_of_ble_eq_true rfl, rfl, Nat.le_of_ble_eq_true rfl, rfl⟩ ?_
  refine R_count (d := 92) hR ?_
  refine v_ieq lk_574 (fun _ => ?_) (fun h => absurd rfl h)
  exact nx s M hC hR (BS_up hB) hX
theorem lw_c13 (hC : CS s M) (hR : RS s M) (hB : BS s n) (hn : n ≤ 600) (hX : ∀ x, M (-1) x = X x) (h32 : ∀ x, z_i32 (X x)) (hi : 0 ≤ i ∧ i + 6 ≤ (L : Int) ∧ L ≤ 3072) (nx : z_nx L X n i Q) : v_wp L 103 311 579 [(2, -1), (2, 1), (2, 77), (0, i)] [] M Q := by
  refine v_load lk_579 rfl ⟨rfl, Nat.le_of_ble_eq_true rfl⟩ ?_
  refine v_load lk_580 rfl ⟨rfl, Nat.le_of_ble_eq_true rfl⟩ ?_
  refine v_load lk_581 rfl ⟨rfl, Nat.le_of_ble_eq_true rfl⟩ ?_
  refine v_push lk_582 ?_
  refine v_add lk_583 (by omega) ?_
  refine v_aldX hX lk_584 ⟨by omega, by omega⟩ ?_
  refine v_callr lk_585 ⟨Nat.le_of_ble_eq_true rfl, Nat.le_of_ble_eq_true rfl, rfl, Nat.le_of_ble_eq_true rfl, rfl⟩ ?_
  refine S_octet (d := 92) hC ?_
  refine v_load lk_588 rfl ⟨rfl, Nat.le_of_ble_eq_true rfl⟩ ?_
  refine v_load lk_589 rfl ⟨rfl, Nat.le_of_ble_eq_true rfl⟩ ?_
  refine v_load lk_590 rfl ⟨rfl, Nat.le_of_ble_eq_true rfl⟩ ?_
  refine v_push lk_591 ?_
  refine v_add lk_592 (by omega) ?_
  refine v_aldX hX lk_593 ⟨by omega, by omega⟩ ?_
  refine v_callr lk_594 ⟨Nat.le_of_ble_eq_true rfl, Nat.le_of_ble_eq_true rfl, rfl, Nat.le_of_ble_eq_true rfl, rfl⟩ ?_
  refine R_octet (d := 92) hR ?_
  refine v_ieq lk_597 (fun _ => ?_) (fun h => absurd rfl h)
  exact nx s M hC hR (BS_up hB) hX
theorem lw_c14 (hC : CS s M) (hR : RS s M) (hB : BS s n) (hn : n ≤ 600) (hX : ∀ x, M (-1) x = X x) (h32 : ∀ x, z_i32 (X x)) (hi : 0 ≤ i ∧ i + 6 ≤ (L : Int) ∧ L ≤ 3072) (nx : z_nx L X n i Q) : v_wp L 103 311 602 [(2, -1), (2, 1), (2, 77), (0, i)] [] M Q := by
  refine v_load lk_602 rfl ⟨rfl, Nat.le_of_ble_eq_true rfl⟩ ?_
  refine v_load lk_603 rfl ⟨rfl, Nat.le_of_ble_eq_true rfl⟩ ?_
  refine v_load lk_604 rfl ⟨rfl, Nat.le_of_ble_eq_true rfl⟩ ?_
  refine v_push lk_605 ?_
  refine v_add lk_606 (by omega) ?_
  refine v_aldX hX lk_607 ⟨by omega, by omega⟩ ?_
  refine v_load lk_608 rfl ⟨rfl, Nat.le_of_ble_eq_true rfl⟩ ?_
  refine v_load lk_609 rfl ⟨rfl, Nat.le_of_ble_eq_true rfl⟩ ?_
  refine v_push lk_610 ?_
  refine v_add lk_611 (by omega) ?_
  refine v_aldX hX lk_612 ⟨by omega, by omega⟩ ?_
  refine v_callr lk_613 ⟨Nat.le_of_ble_eq_true rfl, Nat.le_of_ble_eq_true rfl, rfl, Nat.le_of_ble_eq_true rfl, rfl⟩ ?_
  refine S_token (d := 92) hC hB ?_
  refine v_load lk_616 rfl ⟨rfl, Nat.le_of_ble_eq_true rfl⟩ ?_
  refine v_load lk_617 rfl ⟨rfl, Nat.le_of_ble_eq_true rfl⟩ ?_
  refine v_load lk_618 rfl ⟨rfl, Nat.le_of_ble_eq_true rfl⟩ ?_
  refine v_push lk_619 ?_
  refine v_add lk_620 (by omega) ?_
  refine v_aldX hX lk_621 ⟨by omega, by omega⟩ ?_
  refine v_load lk_622 rfl ⟨rfl, Nat.le_of_ble_eq_true rfl⟩ ?_
  refine v_load lk_623 rfl ⟨rfl, Nat.le_of_ble_eq_true rfl⟩ ?_
  refine v_push lk_624 ?_
  refine v_add lk_625 (by omega) ?_
  refine v_aldX hX lk_626 ⟨by omega, by omega⟩ ?_
  refine v_callr lk_627 ⟨Nat.le_of_ble_eq_true rfl, Nat.le_of_ble_eq_true rfl, rfl, Nat.le_of_ble_eq_true rfl, rfl⟩ ?_
  refine R_token (d := 92) hR ?_
  refine v_ieq lk_630 (fun _ => ?_) (fun h => absurd rfl h)
  exact nx s M hC hR (BS_up hB) hX
theorem lw_c15 (hC : CS s M) (hR : RS s M) (hB : BS s n) (hn : n ≤ 600) (hX : ∀ x, M (-1) x = X x) (h32 : ∀ x, z_i32 (X x)) (hi : 0 ≤ i ∧ i + 6 ≤ (L : Int) ∧ L ≤ 3072) (nx : z_nx L X n i Q) : v_wp L 103 311 635 [(2, -1), (2, 1), (2, 77), (0, i)] [] M Q := by
  refine v_load lk_635 rfl ⟨rfl, Nat.le_of_ble_eq_true rfl⟩ ?_
  refine v_load lk_636 rfl ⟨rfl, Nat.le_of_ble_eq_true rfl⟩ ?_
  refine v_load lk_637 rfl ⟨rfl, Nat.le_of_ble_eq_true rfl⟩ ?_
  refine v_push lk_638 ?_
  refine v_add lk_639 (by omega) ?_
  refine v_aldX hX lk_640 ⟨by omega, by omega⟩ ?_
  refine v_callr lk_641 ⟨Nat.le_of_ble_eq_true rfl, Nat.le_of_ble_eq_true rfl, rfl, Nat.le_of_ble_eq_true rfl, rfl⟩ ?_
  refine S_tokenAt (d := 92) hC ?_
  refine v_load lk_644 rfl ⟨rfl, Nat.le_of_ble_eq_true rfl⟩ ?_
  refine v_load lk_645 rfl ⟨rfl, Nat.le_of_ble_eq_true rfl⟩ ?_
  refine v_load lk_646 rfl ⟨rfl, Nat.le_of_ble_eq_true rfl⟩ ?_
  refine v_push lk_647 ?_
  refine v_add lk_648 (by omega) ?_
  refine v_aldX hX lk_649 ⟨by omega, by omega⟩ ?_
  refine v_callr lk_650 ⟨Nat.le_of_ble_eq_true rfl, Nat.le_of_ble_eq_true rfl, rfl, Nat.le_of_ble_eq_true rfl, rfl⟩ ?_
  refine R_tokenAt (d := 92) hR ?_
  refine v_ieq lk_653 (fun _ => ?_) (fun h => absurd rfl h)
  exact nx s M hC hR (BS_up hB) hX
theorem lw_c16 (hC : CS s M) (hR : RS s M) (hB : BS s n) (hn : n ≤ 600) (hX : ∀ x, M (-1) x = X x) (h32 : ∀ x, z_i32 (X x)) (hi : 0 ≤ i ∧ i + 6 ≤ (L : Int) ∧ L ≤ 3072) (nx : z_nx L X n i Q) : v_wp L 103 311 658 [(2, -1), (2, 1), (2, 77), (0, i)] [] M Q := by
  refine v_load lk_658 rfl ⟨rfl, Nat.le_of_ble_eq_true rfl⟩ ?_
  refine v_load lk_659 rfl ⟨rfl, Nat.le_of_ble_eq_true rfl⟩ ?_
  refine v_load lk_660 rfl ⟨rfl, Nat.le_of_ble_eq_true rfl⟩ ?_
  refine v_push lk_661 ?_
  refine v_add lk_662 (by omega) ?_
  refine v_aldX hX lk_663 ⟨by omega, by omega⟩ ?_
  refine v_load lk_664 rfl ⟨rfl, Nat.le_of_ble_eq_true rfl⟩ ?_
  refine v_load lk_665 rfl ⟨rfl, Nat.le_of_ble_eq_true rfl⟩ ?_
  refine v_push lk_666 ?_
  refine v_add lk_667 (by omega) ?_
  refine v_aldX hX lk_668 ⟨by omega, by omega⟩ ?_
  refine v_callr lk_669 ⟨Nat.le_of_ble_eq_true rfl, Nat.le_of_ble_eq_true rfl, rfl, Nat.le_of_ble_eq_true rfl, rfl⟩ ?_
  refine S_node (d := 92) hC hB ?_
  refine v_load lk_672 rfl ⟨rfl, Nat.le_of_ble_eq_true rfl⟩ ?_
  refine v_load lk_673 rfl ⟨rfl, Nat.le_of_ble_eq_true rfl⟩ ?_
  refine v_load lk_674 rfl ⟨rfl, Nat.le_of_ble_eq_true rfl⟩ ?_
  refine v_push lk_675 ?_
  refine v_add lk_676 (by omega) ?_
  refine v_aldX hX lk_677 ⟨by omega, by omega⟩ ?_
  refine v_load lk_678 rfl ⟨rfl, Nat.le_of_ble_eq_true rfl⟩ ?_
  refine v_load lk_679 rfl ⟨rfl, Nat.le_of_ble_eq_true rfl⟩ ?_
  refine v_push lk_680 ?_
  refine v_add lk_681 (by omega) ?_
  refine v_aldX hX lk_682 ⟨by omega, by omega⟩ ?_
  refine v_callr lk_683 ⟨Nat.le_of_ble_eq_true rfl, Nat.le_of_ble_eq_true rfl, rfl, Nat.le_of_ble_eq_true rfl, rfl⟩ ?_
  refine R_node (d := 92) hR (h32 _) ?_
  refine v_ieq lk_686 (fun _ => ?_) (fun h => absurd rfl h)
  exact nx s M hC hR (BS_up hB) hX
theorem lw_c17 (hC : CS s M) (hR : RS s M) (hB : BS s n) (hn : n ≤ 600) (hX : ∀ x, M (-1) x = X x) (h32 : ∀ x, z_i32 (X x)) (hi : 0 ≤ i ∧ i + 6 ≤ (L : Int) ∧ L ≤ 3072) (nx : z_nx L X n i Q) : v_wp L 103 311 691 [(2, -1), (2, 1), (2, 77), (0, i)] [] M Q := by
  refine v_load lk_691 rfl ⟨rfl, Nat.le_of_ble_eq_true rfl⟩ ?_
  refine v_load lk_692 rfl ⟨rfl, Nat.le_of_ble_eq_true rfl⟩ ?_
  refine v_load lk_693 rfl ⟨rfl, Nat.le_of_ble_eq_true rfl⟩ ?_
  refine v_push lk_694 ?_
  refine v_add lk_695 (by omega) ?_
  refine v_aldX hX lk_696 ⟨by omega, by omega⟩ ?_
  refine v_load lk_697 rfl ⟨rfl, Nat.le_of_ble_eq_true rfl⟩ ?_
  refine v_load lk_698 rfl ⟨rfl, Nat.le_of_ble_eq_true rfl⟩ ?_
  refine v_push lk_699 ?_
  refine v_add lk_700 (by omega) ?_
  refine v_aldX hX lk_701 ⟨by omega, by omega⟩ ?_
  refine v_callr lk_702 ⟨Nat.le_of_ble_eq_true rfl, Nat.le_of_ble_eq_true rfl, rfl, Nat.le_of_ble_eq_true rfl, rfl⟩ ?_
  refine S_child (d := 92) hC ?_
  refine v_load lk_705 rfl ⟨rfl, Nat.le_of_ble_eq_true rfl⟩ ?_
  refine v_load lk_706 rfl ⟨rfl, Nat.le_of_ble_eq_true rfl⟩ ?_
  refine v_load lk_707 rfl ⟨rfl, Nat.le_of_ble_eq_true rfl⟩ ?_
  refine v_push lk_708 ?_
  refine v_add lk_709 (by omega) ?_
  refine v_aldX hX lk_710 ⟨by omega, by omega⟩ ?_
  refine v_load lk_711 rfl ⟨rfl, Nat.le_of_ble_eq_true rfl⟩ ?_
  refine v_load lk_712 rfl ⟨rfl, Nat.le_of_ble_eq_true rfl⟩ ?_
  refine v_push lk_713 ?_
  refine v_add lk_714 (by omega) ?_
  refine v_aldX hX lk_715 ⟨by omega, by omega⟩ ?_
  refine v_callr lk_716 ⟨Nat.le_of_ble_eq_true rfl, Nat.le_of_ble_eq_true rfl, rfl, Nat.le_of_ble_eq_true rfl, rfl⟩ ?_
  refine R_child (d := 92) hR (h32 _) ?_
  refine v_ieq lk_719 (fun _ => ?_) (fun h => absurd rfl h)
  exact nx s M hC hR (BS_up hB) hX
theorem lw_c18 (hC : CS s M) (hR : RS s M) (hB : BS s n) (hn : n ≤ 600) (hX : ∀ x, M (-1) x = X x) (h32 : ∀ x, z_i32 (X x)) (hi : 0 ≤ i ∧ i + 6 ≤ (L : Int) ∧ L ≤ 3072) (nx : z_nx L X n i Q) : v_wp L 103 311 724 [(2, -1), (2, 1), (2, 77), (0, i)] [] M Q := by
  refine v_load lk_724 rfl ⟨rfl, Nat.le_of_ble_eq_true rfl⟩ ?_
  refine v_load lk_725 rfl ⟨rfl, Nat.le_of_ble_eq_true rfl⟩ ?_
  refine v_load lk_726 rfl ⟨rfl, Nat.le_of_ble_eq_true rfl⟩ ?_
  refine v_push lk_727 ?_
  refine v_add lk_728 (by omega) ?_
  refine v_aldX hX lk_729 ⟨by omega, by omega⟩ ?_
  refine v_load lk_730 rfl ⟨rfl, Nat.le_of_ble_eq_true rfl⟩ ?_
  refine v_load lk_731 rfl ⟨rfl, Nat.le_of_ble_eq_true rfl⟩ ?_
  refine v_push lk_732 ?_
  refine v_add lk_733 (by omega) ?_
  refine v_aldX hX lk_734 ⟨by omega, by omega⟩ ?_
  refine v_callr lk_735 ⟨Nat.le_of_ble_eq_true rfl, Nat.le_of_ble_eq_true rfl, rfl, Nat.le_of_ble_eq_true rfl, rfl⟩ ?_
  refine S_find (d := 92) hC (h32 _) ?_
  refine v_load lk_738 rfl ⟨rfl, Nat.le_of_ble_eq_true rfl⟩ ?_
  refine v_load lk_739 rfl ⟨rfl, Nat.le_of_ble_eq_true rfl⟩ ?_
  refine v_load lk_740 rfl ⟨rfl, Nat.le_of_ble_eq_true rfl⟩ ?_
  refine v_push lk_741 ?_
  refine v_add lk_742 (by omega) ?_
  refine v_aldX hX lk_743 ⟨by omega, by omega⟩ ?_
  refine v_load lk_744 rfl ⟨rfl, Nat.le_of_ble_eq_true rfl⟩ ?_
  refine v_load lk_745 rfl ⟨rfl, Nat.le_of_ble_eq_true rfl⟩ ?_
  refine v_push lk_746 ?_
  refine v_add lk_747 (by omega) ?_
  refine v_aldX hX lk_748 ⟨by omega, by omega⟩ ?_
  refine v_callr lk_749 ⟨Nat.le_of_ble_eq_true rfl, Nat.le_of_ble_eq_true rfl, rfl, Nat.le_of_ble_eq_true rfl, rfl⟩ ?_
  refine R_find (d := 92) hR ?_
  refine v_ieq lk_752 (fun _ => ?_) (fun h => absurd rfl h)
  exact nx s M hC hR (BS_up hB) hX
theorem lw_c19 (hC : CS s M) (hR : RS s M) (hB : BS s n) (hn : n ≤ 600) (hX : ∀ x, M (-1) x = X x) (h32 : ∀ x, z_i32 (X x)) (hi : 0 ≤ i ∧ i + 6 ≤ (L : Int) ∧ L ≤ 3072) (nx : z_nx L X n i Q) : v_wp L 103 311 757 [(2, -1), (2, 1), (2, 77), (0, i)] [] M Q := by
  refine v_load lk_757 rfl ⟨rfl, Nat.le_of_ble_eq_true rfl⟩ ?_
  refine v_load lk_758 rfl ⟨rfl, Nat.le_of_ble_eq_true rfl⟩ ?_
  refine v_load lk_759 rfl ⟨rfl, Nat.le_of_ble_eq_true rfl⟩ ?_
  refine v_push lk_760 ?_
  refine v_add lk_761 (by omega) ?_
  refine v_aldX hX lk_762 ⟨by omega, by omega⟩ ?_
  refine v_load lk_763 rfl ⟨rfl, Nat.le_of_ble_eq_true rfl⟩ ?_
  refine v_load lk_764 rfl ⟨rfl, Nat.le_of_ble_eq_true rfl⟩ ?_
  refine v_push lk_765 ?_
  refine v_add lk_766 (by omega) ?_
  refine v_aldX hX lk_767 ⟨by omega, by omega⟩ ?_
  refine v_callr lk_768 ⟨Nat.le_of_ble_eq_true rfl, Nat.le_of_ble_eq_true rfl, rfl, Nat.le_of_ble_eq_true rfl, rfl⟩ ?_
  refine S_cover (d := 92) hC hB ?_
  refine v_load lk_771 rfl ⟨rfl, Nat.le_of_ble_eq_true rfl⟩ ?_
  refine v_load lk_772 rfl ⟨rfl, Nat.le_of_ble_eq_true rfl⟩ ?_
  refine v_load lk_773 rfl ⟨rfl, Nat.le_of_ble_eq_true rfl⟩ ?_
  refine v_push lk_774 ?_
  refine v_add lk_775 (by omega) ?_
  refine v_aldX hX lk_776 ⟨by omega, by omega⟩ ?_
  refine v_load lk_777 rfl ⟨rfl, Nat.le_of_ble_eq_true rfl⟩ ?_
  refine v_load lk_778 rfl ⟨rfl, Nat.le_of_ble_eq_true rfl⟩ ?_
  refine v_push lk_779 ?_
  refine v_add lk_780 (by omega) ?_
  refine v_aldX hX lk_781 ⟨by omega, by omega⟩ ?_
  refine v_callr lk_782 ⟨Nat.le_of_ble_eq_true rfl, Nat.le_of_ble_eq_true rfl, rfl, Nat.le_of_ble_eq_true rfl, rfl⟩ ?_
  refine R_cover (d := 92) hR ?_
  refine v_ieq lk_785 (fun _ => ?_) (fun h => absurd rfl h)
  exact nx s M hC hR (BS_up hB) hX
theorem lw_c20 (hC : CS s M) (hR : RS s M) (hB : BS s n) (hn : n ≤ 600) (hX : ∀ x, M (-1) x = X x) (h32 : ∀ x, z_i32 (X x)) (hi : 0 ≤ i ∧ i + 6 ≤ (L : Int) ∧ L ≤ 3072) (nx : z_nx L X n i Q) : v_wp L 103 311 790 [(2, -1), (2, 1), (2, 77), (0, i)] [] M Q := by
  refine v_load lk_790 rfl ⟨rfl, Nat.le_of_ble_eq_true rfl⟩ ?_
  refine v_load lk_791 rfl ⟨rfl, Nat.le_of_ble_eq_true rfl⟩ ?_
  refine v_load lk_792 rfl ⟨rfl, Nat.le_of_ble_eq_true rfl⟩ ?_
  refine v_push lk_793 ?_
  refine v_add lk_794 (by omega) ?_
  refine v_aldX hX lk_795 ⟨by omega, by omega⟩ ?_
  refine v_load lk_796 rfl ⟨rfl, Nat.le_of_ble_eq_true rfl⟩ ?_
  refine v_load lk_797 rfl ⟨rfl, Nat.le_of_ble_eq_true rfl⟩ ?_
  refine v_push lk_798 ?_
  refine v_add lk_799 (by omega) ?_
  refine v_aldX hX lk_800 ⟨by omega, by omega⟩ ?_
  refine v_callr lk_801 ⟨Nat.le_of_ble_eq_true rfl, Nat.le_of_ble_eq_true rfl, rfl, Nat.le_of_ble_eq_true rfl, rfl⟩ ?_
  refine S_common (d := 92) hC ?_
  refine v_load lk_804 rfl ⟨rfl, Nat.le_of_ble_eq_true rfl⟩ ?_
  refine v_load lk_805 rfl ⟨rfl, Nat.le_of_ble_eq_true rfl⟩ ?_
  refine v_load lk_806 rfl ⟨rfl, Nat.le_of_ble_eq_true rfl⟩ ?_
  refine v_push lk_807 ?_
  refine v_add lk_808 (by omega) ?_
  refine v_aldX hX lk_809 ⟨by omega, by omega⟩ ?_
  refine v_load lk_810 rfl ⟨rfl, Nat.le_of_ble_eq_true rfl⟩ ?_
  refine v_load lk_811 rfl ⟨rfl, Nat.le_of_ble_eq_true rfl⟩ ?_
  refine v_push lk_812 ?_
  refine v_add lk_813 (by omega) ?_
  refine v_aldX hX lk_814 ⟨by omega, by omega⟩ ?_
  refine v_callr lk_815 ⟨Nat.le_of_ble_eq_true rfl, Nat.le_of_ble_eq_true rfl, rfl, Nat.le_of_ble_eq_true rfl, rfl⟩ ?_
  refine R_common (d := 92) hR (h32 _) (h32 _) ?_
  refine v_ieq lk_818 (fun _ => ?_) (fun h => absurd rfl h)
  exact nx s M hC hR (BS_up hB) hX
theorem lw_c21 (hC : CS s M) (hR : RS s M) (hB : BS s n) (hn : n ≤ 600) (hX : ∀ x, M (-1) x = X x) (h32 : ∀ x, z_i32 (X x)) (hi : 0 ≤ i ∧ i + 6 ≤ (L : Int) ∧ L ≤ 3072) (nx : z_nx L X n i Q) : v_wp L 103 311 823 [(2, -1), (2, 1), (2, 77), (0, i)] [] M Q := by
  refine v_load lk_823 rfl ⟨rfl, Nat.le_of_ble_eq_true rfl⟩ ?_
  refine v_load lk_824 rfl ⟨rfl, Nat.le_of_ble_eq_true rfl⟩ ?_
  refine v_load lk_825 rfl ⟨rfl, Nat.le_of_ble_eq_true rfl⟩ ?_
  refine v_push lk_826 ?_
  refine v_add lk_827 (by omega) ?_
  refine v_aldX hX lk_828 ⟨by omega, by omega⟩ ?_
  refine v_callr lk_829 ⟨Nat.le_of_ble_eq_true rfl, Nat.le_of_ble_eq_true rfl, rfl, Nat.le_of_ble_eq_true rfl, rfl⟩ ?_
  refine S_match (d := 92) hC hB ?_
  refine v_load lk_832 rfl ⟨rfl, Nat.le_of_ble_eq_true rfl⟩ ?_
  refine v_load lk_833 rfl ⟨rfl, Nat.le_of_ble_eq_true rfl⟩ ?_
  refine v_load lk_834 rfl ⟨rfl, Nat.le_of_ble_eq_true rfl⟩ ?_
  refine v_push lk_835 ?_
  refine v_add lk_836 (by omega) ?_
  refine v_aldX hX lk_837 ⟨by omega, by omega⟩ ?_
  refine v_callr lk_838 ⟨Nat.le_of_ble_eq_true rfl, Nat.le_of_ble_eq_true rfl, rfl, Nat.le_of_ble_eq_true rfl, rfl⟩ ?_
  refine R_match (d := 92) hR ?_
  refine v_ieq lk_841 (fun _ => ?_) (fun h => absurd rfl h)
  exact nx s M hC hR (BS_up hB) hX
theorem lw_c22 (hC : CS s M) (hR : RS s M) (hB : BS s n) (hn : n ≤ 600) (hX : ∀ x, M (-1) x = X x) (h32 : ∀ x, z_i32 (X x)) (hi : 0 ≤ i ∧ i + 6 ≤ (L : Int) ∧ L ≤ 3072) (nx : z_nx L X n i Q) : v_wp L 103 311 846 [(2, -1), (2, 1), (2, 77), (0, i)] [] M Q := by
  refine v_load lk_846 rfl ⟨rfl, Nat.le_of_ble_eq_true rfl⟩ ?_
  refine v_load lk_847 rfl ⟨rfl, Nat.le_of_ble_eq_true rfl⟩ ?_
  refine v_load lk_848 rfl ⟨rfl, Nat.le_of_ble_eq_true rfl⟩ ?_
  refine v_push lk_849 ?_
  refine v_add lk_850 (by omega) ?_
  refine v_aldX hX lk_851 ⟨by omega, by omega⟩ ?_
  refine v_callr lk_852 ⟨Nat.le_of_ble_eq_true rfl, Nat.le_of_ble_eq_true rfl, rfl, Nat.le_of_ble_eq_true rfl, rfl⟩ ?_
  refine S_line (d := 92) hC ?_
  refine v_load lk_855 rfl ⟨rfl, Nat.le_of_ble_eq_true rfl⟩ ?_
  refine v_load lk_856 rfl ⟨rfl, Nat.le_of_ble_eq_true rfl⟩ ?_
  refine v_load lk_857 rfl ⟨rfl, Nat.le_of_ble_eq_true rfl⟩ ?_
  refine v_push lk_858 ?_
  refine v_add lk_859 (by omega) ?_
  refine v_aldX hX lk_860 ⟨by omega, by omega⟩ ?_
  refine v_callr lk_861 ⟨Nat.le_of_ble_eq_true rfl, Nat.le_of_ble_eq_true rfl, rfl, Nat.le_of_ble_eq_true rfl, rfl⟩ ?_
  refine R_line (d := 92) hR ?_
  refine v_ieq lk_864 (fun _ => ?_) (fun h => absurd rfl h)
  exact nx s M hC hR (BS_up hB) hX
theorem lw_c23 (hC : CS s M) (hR : RS s M) (hB : BS s n) (hn : n ≤ 600) (hX : ∀ x, M (-1) x = X x) (h32 : ∀ x, z_i32 (X x)) (hi : 0 ≤ i ∧ i + 6 ≤ (L : Int) ∧ L ≤ 3072) (nx : z_nx L X n i Q) : v_wp L 103 311 869 [(2, -1), (2, 1), (2, 77), (0, i)] [] M Q := by
  refine v_load lk_869 rfl ⟨rfl, Nat.le_of_ble_eq_true rfl⟩ ?_
  refine v_load lk_870 rfl ⟨rfl, Nat.le_of_ble_eq_true rfl⟩ ?_
  refine v_load lk_871 rfl ⟨rfl, Nat.le_of_ble_eq_true rfl⟩ ?_
  refine v_push lk_872 ?_
  refine v_add lk_873 (by omega) ?_
  refine v_aldX hX lk_874 ⟨by omega, by omega⟩ ?_
  refine v_callr lk_875 ⟨Nat.le_of_ble_eq_true rfl, Nat.le_of_ble_eq_true rfl, rfl, Nat.le_of_ble_eq_true rfl, rfl⟩ ?_
  refine S_column (d := 92) hC hB ?_
  refine v_load lk_878 rfl ⟨rfl, Nat.le_of_ble_eq_true rfl⟩ ?_
  refine v_load lk_879 rfl ⟨rfl, Nat.le_of_ble_eq_true rfl⟩ ?_
  refine v_load lk_880 rfl ⟨rfl, Nat.le_of_ble_eq_true rfl⟩ ?_
  refine v_push lk_881 ?_
  refine v_add lk_882 (by omega) ?_
  refine v_aldX hX lk_883 ⟨by omega, by omega⟩ ?_
  refine v_callr lk_884 ⟨Nat.le_of_ble_eq_true rfl, Nat.le_of_ble_eq_true rfl, rfl, Nat.le_of_ble_eq_true rfl, rfl⟩ ?_
  refine R_column (d := 92) hR ?_
  refine v_ieq lk_887 (fun _ => ?_) (fun h => absurd rfl h)
  exact nx s M hC hR (BS_up hB) hX
theorem lw_c24 (hC : CS s M) (hR : RS s M) (hB : BS s n) (hn : n ≤ 600) (hX : ∀ x, M (-1) x = X x) (h32 : ∀ x, z_i32 (X x)) (hi : 0 ≤ i ∧ i + 6 ≤ (L : Int) ∧ L ≤ 3072) (nx : z_nx L X n i Q) : v_wp L 103 311 892 [(2, -1), (2, 1), (2, 77), (0, i)] [] M Q := by
  refine v_load lk_892 rfl ⟨rfl, Nat.le_of_ble_eq_true rfl⟩ ?_
  refine v_load lk_893 rfl ⟨rfl, Nat.le_of_ble_eq_true rfl⟩ ?_
  refine v_load lk_894 rfl ⟨rfl, Nat.le_of_ble_eq_true rfl⟩ ?_
  refine v_push lk_895 ?_
  refine v_add lk_896 (by omega) ?_
  refine v_aldX hX lk_897 ⟨by omega, by omega⟩ ?_
  refine v_callr lk_898 ⟨Nat.le_of_ble_eq_true rfl, Nat.le_of_ble_eq_true rfl, rfl, Nat.le_of_ble_eq_true rfl, rfl⟩ ?_
  refine S_begin (d := 92) hC ?_
  refine v_load lk_901 rfl ⟨rfl, Nat.le_of_ble_eq_true rfl⟩ ?_
  refine v_load lk_902 rfl ⟨rfl, Nat.le_of_ble_eq_true rfl⟩ ?_
  refine v_load lk_903 rfl ⟨rfl, Nat.le_of_ble_eq_true rfl⟩ ?_
  refine v_push lk_904 ?_
  refine v_add lk_905 (by omega) ?_
  refine v_aldX hX lk_906 ⟨by omega, by omega⟩ ?_
  refine v_callr lk_907 ⟨Nat.le_of_ble_eq_true rfl, Nat.le_of_ble_eq_true rfl, rfl, Nat.le_of_ble_eq_true rfl, rfl⟩ ?_
  refine R_begin (d := 92) hR ?_
  refine v_ieq lk_910 (fun _ => ?_) (fun h => absurd rfl h)
  exact nx s M hC hR (BS_up hB) hX
theorem lw_c25 (hC : CS s M) (hR : RS s M) (hB : BS s n) (hn : n ≤ 600) (hX : ∀ x, M (-1) x = X x) (h32 : ∀ x, z_i32 (X x)) (hi : 0 ≤ i ∧ i + 6 ≤ (L : Int) ∧ L ≤ 3072) (nx : z_nx L X n i Q) : v_wp L 103 311 915 [(2, -1), (2, 1), (2, 77), (0, i)] [] M Q := by
  refine v_load lk_915 rfl ⟨rfl, Nat.le_of_ble_eq_true rfl⟩ ?_
  refine v_load lk_916 rfl ⟨rfl, Nat.le_of_ble_eq_true rfl⟩ ?_
  refine v_load lk_917 rfl ⟨rfl, Nat.le_of_ble_eq_true rfl⟩ ?_
  refine v_push lk_918 ?_
  refine v_add lk_919 (by omega) ?_
  refine v_aldX hX lk_920 ⟨by omega, by omega⟩ ?_
  refine v_callr lk_921 ⟨Nat.le_of_ble_eq_true rfl, Nat.le_of_ble_eq_true rfl, rfl, Nat.le_of_ble_eq_true rfl, rfl⟩ ?_
  refine S_begun (d := 92) hC hB (h32 _) ?_
  refine v_load lk_924 rfl ⟨rfl, Nat.le_of_ble_eq_true rfl⟩ ?_
  refine v_load lk_925 rfl ⟨rfl, Nat.le_of_ble_eq_true rfl⟩ ?_
  refine v_load lk_926 rfl ⟨rfl, Nat.le_of_ble_eq_true rfl⟩ ?_
  refine v_push lk_927 ?_
  refine v_add lk_928 (by omega) ?_
  refine v_aldX hX lk_929 ⟨by omega, by omega⟩ ?_
  refine v_callr lk_930 ⟨Nat.le_of_ble_eq_true rfl, Nat.le_of_ble_eq_true rfl, rfl, Nat.le_of_ble_eq_true rfl, rfl⟩ ?_
  refine R_begun (d := 92) hR ?_
  refine v_ieq lk_933 (fun _ => ?_) (fun h => absurd rfl h)
  exact nx s M hC hR (BS_up hB) hX
theorem lw_c26 (hC : CS s M) (hR : RS s M) (hB : BS s n) (hn : n ≤ 600) (hX : ∀ x, M (-1) x = X x) (h32 : ∀ x, z_i32 (X x)) (hi : 0 ≤ i ∧ i + 6 ≤ (L : Int) ∧ L ≤ 3072) (nx : z_nx L X n i Q) : v_wp L 103 311 938 [(2, -1), (2, 1), (2, 77), (0, i)] [] M Q := by
  refine v_load lk_938 rfl ⟨rfl, Nat.le_of_ble_eq_true rfl⟩ ?_
  refine v_load lk_939 rfl ⟨rfl, Nat.le_of_ble_eq_true rfl⟩ ?_
  refine v_load lk_940 rfl ⟨rfl, Nat.le_of_ble_eq_true rfl⟩ ?_
  refine v_push lk_941 ?_
  refine v_add lk_942 (by omega) ?_
  refine v_aldX hX lk_943 ⟨by omega, by omega⟩ ?_
  refine v_callr lk_944 ⟨Nat.le_of_ble_eq_true rfl, Nat.le_of_ble_eq_true rfl, rfl, Nat.le_of_ble_eq_true rfl, rfl⟩ ?_
  refine S_level (d := 92) hC hB ?_
  refine v_load lk_947 rfl ⟨rfl, Nat.le_of_ble_eq_true rfl⟩ ?_
  refine v_load lk_948 rfl ⟨rfl, Nat.le_of_ble_eq_true rfl⟩ ?_
  refine v_load lk_949 rfl ⟨rfl, Nat.le_of_ble_eq_true rfl⟩ ?_
  refine v_push lk_950 ?_
  refine v_add lk_951 (by omega) ?_
  refine v_aldX hX lk_952 ⟨by omega, by omega⟩ ?_
  refine v_callr lk_953 ⟨Nat.le_of_ble_eq_true rfl, Nat.le_of_ble_eq_true rfl, rfl, Nat.le_of_ble_eq_true rfl, rfl⟩ ?_
  refine R_level (d := 92) hR ?_
  refine v_ieq lk_956 (fun _ => ?_) (fun h => absurd rfl h)
  exact nx s M hC hR (BS_up hB) hX
theorem lw_c27 (hC : CS s M) (hR : RS s M) (hB : BS s n) (hn : n ≤ 600) (hX : ∀ x, M (-1) x = X x) (h32 : ∀ x, z_i32 (X x)) (hi : 0 ≤ i ∧ i + 6 ≤ (L : Int) ∧ L ≤ 3072) (nx : z_nx L X n i Q) : v_wp L 103 311 961 [(2, -1), (2, 1), (2, 77), (0, i)] [] M Q := by
  refine v_load lk_961 rfl ⟨rfl, Nat.le_of_ble_eq_true rfl⟩ ?_
  refine v_load lk_962 rfl ⟨rfl, Nat.le_of_ble_eq_true rfl⟩ ?_
  refine v_load lk_963 rfl ⟨rfl, Nat.le_of_ble_eq_true rfl⟩ ?_
  refine v_push lk_964 ?_
  refine v_add lk_965 (by omega) ?_
  refine v_aldX hX lk_966 ⟨by omega, by omega⟩ ?_
  refine v_callr lk_967 ⟨Nat.le_of_ble_eq_true rfl, Nat.le_of_ble_eq_true rfl, rfl, Nat.le_of_ble_eq_true rfl, rfl⟩ ?_
  refine S_blanks (d := 92) hC ?_
  refine v_load lk_970 rfl ⟨rfl, Nat.le_of_ble_eq_true rfl⟩ ?_
  refine v_load lk_971 rfl ⟨rfl, Nat.le_of_ble_eq_true rfl⟩ ?_
  refine v_load lk_972 rfl ⟨rfl, Nat.le_of_ble_eq_true rfl⟩ ?_
  refine v_push lk_973 ?_
  refine v_add lk_974 (by omega) ?_
  refine v_aldX hX lk_975 ⟨by omega, by omega⟩ ?_
  refine v_callr lk_976 ⟨Nat.le_of_ble_eq_true rfl, Nat.le_of_ble_eq_true rfl, rfl, Nat.le_of_ble_eq_true rfl, rfl⟩ ?_
  refine R_blanks (d := 92) hR ?_
  refine v_ieq lk_979 (fun _ => ?_) (fun h => absurd rfl h)
  exact nx s M hC hR (BS_up hB) hX
theorem lw_c28 (hC : CS s M) (hR : RS s M) (hB : BS s n) (hn : n ≤ 600) (hX : ∀ x, M (-1) x = X x) (h32 : ∀ x, z_i32 (X x)) (hi : 0 ≤ i ∧ i + 6 ≤ (L : Int) ∧ L ≤ 3072) (nx : z_nx L X n i Q) : v_wp L 103 311 984 [(2, -1), (2, 1), (2, 77), (0, i)] [] M Q := by
  refine v_load lk_984 rfl ⟨rfl, Nat.le_of_ble_eq_true rfl⟩ ?_
  refine v_load lk_985 rfl ⟨rfl, Nat.le_of_ble_eq_true rfl⟩ ?_
  refine v_load lk_986 rfl ⟨rfl, Nat.le_of_ble_eq_true rfl⟩ ?_
  refine v_push lk_987 ?_
  refine v_add lk_988 (by omega) ?_
  refine v_aldX hX lk_989 ⟨by omega, by omega⟩ ?_
  refine v_load lk_990 rfl ⟨rfl, Nat.le_of_ble_eq_true rfl⟩ ?_
  refine v_load lk_991 rfl ⟨rfl, Nat.le_of_ble_eq_true rfl⟩ ?_
  refine v_push lk_992 ?_
  refine v_add lk_993 (by omega) ?_
  refine v_aldX hX lk_994 ⟨by omega, by omega⟩ ?_
  refine v_callr lk_995 ⟨Nat.le_of_ble_eq_true rfl, Nat.le_of_ble_eq_true rfl, rfl, Nat.le_of_ble_eq_true rfl, rfl⟩ ?_
  refine S_alike (d := 92) hC hB ?_
  refine v_load lk_998 rfl ⟨rfl, Nat.le_of_ble_eq_true rfl⟩ ?_
  refine v_load lk_999 rfl ⟨rfl, Nat.le_of_ble_eq_true rfl⟩ ?_
  refine v_load lk_1000 rfl ⟨rfl, Nat.le_of_ble_eq_true rfl⟩ ?_
  refine v_push lk_1001 ?_
  refine v_add lk_1002 (by omega) ?_
  refine v_aldX hX lk_1003 ⟨by omega, by omega⟩ ?_
  refine v_load lk_1004 rfl ⟨rfl, Nat.le_of_ble_eq_true rfl⟩ ?_
  refine v_load lk_1005 rfl ⟨rfl, Nat.le_of_ble_eq_true rfl⟩ ?_
  refine v_push lk_1006 ?_
  refine v_add lk_1007 (by omega) ?_
  refine v_aldX hX lk_1008 ⟨by omega, by omega⟩ ?_
  refine v_callr lk_1009 ⟨Nat.le_of_ble_eq_true rfl, Nat.le_of_ble_eq_true rfl, rfl, Nat.le_of_ble_eq_true rfl, rfl⟩ ?_
  refine R_alike (d := 92) hR (h32 _) (h32 _) ?_
  refine v_ieq lk_1012 (fun _ => ?_) (fun h => absurd rfl h)
  exact nx s M hC hR (BS_up hB) hX
theorem lw_c29 (hC : CS s M) (hR : RS s M) (hB : BS s n) (hn : n ≤ 600) (hX : ∀ x, M (-1) x = X x) (h32 : ∀ x, z_i32 (X x)) (hi : 0 ≤ i ∧ i + 6 ≤ (L : Int) ∧ L ≤ 3072) (nx : z_nx L X n i Q) : v_wp L 103 311 1017 [(2, -1), (2, 1), (2, 77), (0, i)] [] M Q := by
  refine v_load lk_1017 rfl ⟨rfl, Nat.le_of_ble_eq_true rfl⟩ ?_
  refine v_load lk_1018 rfl ⟨rfl, Nat.le_of_ble_eq_true rfl⟩ ?_
  refine v_load lk_1019 rfl ⟨rfl, Nat.le_of_ble_eq_true rfl⟩ ?_
  refine v_push lk_1020 ?_
  refine v_add lk_1021 (by omega) ?_
  refine v_aldX hX lk_1022 ⟨by omega, by omega⟩ ?_
  refine v_callr lk_1023 ⟨Nat.le_of_ble_eq_true rfl, Nat.le_of_ble_eq_true rfl, rfl, Nat.le_of_ble_eq_true rfl, rfl⟩ ?_
  refine S_twins (d := 92) hC hB ?_
  refine v_load lk_1026 rfl ⟨rfl, Nat.le_of_ble_eq_true rfl⟩ ?_
  refine v_load lk_1027 rfl ⟨rfl, Nat.le_of_ble_eq_true rfl⟩ ?_
  refine v_load lk_1028 rfl ⟨rfl, Nat.le_of_ble_eq_true rfl⟩ ?_
  refine v_push lk_1029 ?_
  refine v_add lk_1030 (by omega) ?_
  refine v_aldX hX lk_1031 ⟨by omega, by omega⟩ ?_
  refine v_callr lk_1032 ⟨Nat.le_of_ble_eq_true rfl, Nat.le_of_ble_eq_true rfl, rfl, Nat.le_of_ble_eq_true rfl, rfl⟩ ?_
  refine R_twins (d := 92) hR (h32 _) ?_
  refine v_ieq lk_1035 (fun _ => ?_) (fun h => absurd rfl h)
  exact nx s M hC hR (BS_up hB) hX
theorem lw_c30 (hC : CS s M) (hR : RS s M) (hB : BS s n) (hn : n ≤ 600) (hX : ∀ x, M (-1) x = X x) (h32 : ∀ x, z_i32 (X x)) (hi : 0 ≤ i ∧ i + 6 ≤ (L : Int) ∧ L ≤ 3072) (nx : z_nx L X n i Q) : v_wp L 103 311 1040 [(2, -1), (2, 1), (2, 77), (0, i)] [] M Q := by
  refine v_load lk_1040 rfl ⟨rfl, Nat.le_of_ble_eq_true rfl⟩ ?_
  refine v_load lk_1041 rfl ⟨rfl, Nat.le_of_ble_eq_true rfl⟩ ?_
  refine v_load lk_1042 rfl ⟨rfl, Nat.le_of_ble_eq_true rfl⟩ ?_
  refine v_push lk_1043 ?_
  refine v_add lk_1044 (by omega) ?_
  refine v_aldX hX lk_1045 ⟨by omega, by omega⟩ ?_
  refine v_load lk_1046 rfl ⟨rfl, Nat.le_of_ble_eq_true rfl⟩ ?_
  refine v_load lk_1047 rfl ⟨rfl, Nat.le_of_ble_eq_true rfl⟩ ?_
  refine v_push lk_1048 ?_
  refine v_add lk_1049 (by omega) ?_
  refine v_aldX hX lk_1050 ⟨by omega, by omega⟩ ?_
  refine v_callr lk_1051 ⟨Nat.le_of_ble_eq_true rfl, Nat.le_of_ble_eq_true rfl, rfl, Nat.le_of_ble_eq_true rfl, rfl⟩ ?_
  refine S_longest (d := 92) hC ?_
  refine v_load lk_1054 rfl ⟨rfl, Nat.le_of_ble_eq_true rfl⟩ ?_
  refine v_load lk_1055 rfl ⟨rfl, Nat.le_of_ble_eq_true rfl⟩ ?_
  refine v_load lk_1056 rfl ⟨rfl, Nat.le_of_ble_eq_true rfl⟩ ?_
  refine v_push lk_1057 ?_
  refine v_add lk_1058 (by omega) ?_
  refine v_aldX hX lk_1059 ⟨by omega, by omega⟩ ?_
  refine v_load lk_1060 rfl ⟨rfl, Nat.le_of_ble_eq_true rfl⟩ ?_
  refine v_load lk_1061 rfl ⟨rfl, Nat.le_of_ble_eq_true rfl⟩ ?_
  refine v_push lk_1062 ?_
  refine v_add lk_1063 (by omega) ?_
  refine v_aldX hX lk_1064 ⟨by omega, by omega⟩ ?_
  refine v_callr lk_1065 ⟨Nat.le_of_ble_eq_true rfl, Nat.le_of_ble_eq_true rfl, rfl, Nat.le_of_ble_eq_true rfl, rfl⟩ ?_
  refine R_longest (d := 92) hR ?_
  refine v_ieq lk_1068 (fun _ => ?_) (fun h => absurd rfl h)
  exact nx s M hC hR (BS_up hB) hX
theorem lw_c31 (hC : CS s M) (hR : RS s M) (hB : BS s n) (hn : n ≤ 600) (hX : ∀ x, M (-1) x = X x) (h32 : ∀ x, z_i32 (X x)) (hi : 0 ≤ i ∧ i + 6 ≤ (L : Int) ∧ L ≤ 3072) (nx : z_nx L X n i Q) : v_wp L 103 311 1073 [(2, -1), (2, 1), (2, 77), (0, i)] [] M Q := by
  refine v_load lk_1073 rfl ⟨rfl, Nat.le_of_ble_eq_true rfl⟩ ?_
  refine v_load lk_1074 rfl ⟨rfl, Nat.le_of_ble_eq_true rfl⟩ ?_
  refine v_load lk_1075 rfl ⟨rfl, Nat.le_of_ble_eq_true rfl⟩ ?_
  refine v_push lk_1076 ?_
  refine v_add lk_1077 (by omega) ?_
  refine v_aldX hX lk_1078 ⟨by omega, by omega⟩ ?_
  refine v_load lk_1079 rfl ⟨rfl, Nat.le_of_ble_eq_true rfl⟩ ?_
  refine v_load lk_1080 rfl ⟨rfl, Nat.le_of_ble_eq_true rfl⟩ ?_
  refine v_push lk_1081 ?_
  refine v_add lk_1082 (by omega) ?_
  refine v_aldX hX lk_1083 ⟨by omega, by omega⟩ ?_
  refine v_callr lk_1084 ⟨Nat.le_of_ble_eq_true rfl, Nat.le_of_ble_eq_true rfl, rfl, Nat.le_of_ble_eq_true rfl, rfl⟩ ?_
  refine S_wrong (d := 92) hC hB (h32 _) ?_
  refine v_load lk_1087 rfl ⟨rfl, Nat.le_of_ble_eq_true rfl⟩ ?_
  refine v_load lk_1088 rfl ⟨rfl, Nat.le_of_ble_eq_true rfl⟩ ?_
  refine v_load lk_1089 rfl ⟨rfl, Nat.le_of_ble_eq_true rfl⟩ ?_
  refine v_push lk_1090 ?_
  refine v_add lk_1091 (by omega) ?_
  refine v_aldX hX lk_1092 ⟨by omega, by omega⟩ ?_
  refine v_load lk_1093 rfl ⟨rfl, Nat.le_of_ble_eq_true rfl⟩ ?_
  refine v_load lk_1094 rfl ⟨rfl, Nat.le_of_ble_eq_true rfl⟩ ?_
  refine v_push lk_1095 ?_
  refine v_add lk_1096 (by omega) ?_
  refine v_aldX hX lk_1097 ⟨by omega, by omega⟩ ?_
  refine v_callr lk_1098 ⟨Nat.le_of_ble_eq_true rfl, Nat.le_of_ble_eq_true rfl, rfl, Nat.le_of_ble_eq_true rfl, rfl⟩ ?_
  refine R_wrong (d := 92) hR ?_
  refine v_ieq lk_1101 (fun _ => ?_) (fun h => absurd rfl h)
  exact nx s M hC hR (BS_up hB) hX
theorem lw_c32 (hC : CS s M) (hR : RS s M) (hB : BS s n) (hn : n ≤ 600) (hX : ∀ x, M (-1) x = X x) (h32 : ∀ x, z_i32 (X x)) (hi : 0 ≤ i ∧ i + 6 ≤ (L : Int) ∧ L ≤ 3072) (nx : z_nx L X n i Q) : v_wp L 103 311 1106 [(2, -1), (2, 1), (2, 77), (0, i)] [] M Q := by
  refine v_load lk_1106 rfl ⟨rfl, Nat.le_of_ble_eq_true rfl⟩ ?_
  refine v_load lk_1107 rfl ⟨rfl, Nat.le_of_ble_eq_true rfl⟩ ?_
  refine v_load lk_1108 rfl ⟨rfl, Nat.le_of_ble_eq_true rfl⟩ ?_
  refine v_push lk_1109 ?_
  refine v_add lk_1110 (by omega) ?_
  refine v_aldX hX lk_1111 ⟨by omega, by omega⟩ ?_
  refine v_callr lk_1112 ⟨Nat.le_of_ble_eq_true rfl, Nat.le_of_ble_eq_true rfl, rfl, Nat.le_of_ble_eq_true rfl, rfl⟩ ?_
  refine S_dirty (d := 92) hC ?_
  refine v_load lk_1115 rfl ⟨rfl, Nat.le_of_ble_eq_true rfl⟩ ?_
  refine v_load lk_1116 rfl ⟨rfl, Nat.le_of_ble_eq_true rfl⟩ ?_
  refine v_load lk_1117 rfl ⟨rfl, Nat.le_of_ble_eq_true rfl⟩ ?_
  refine v_push lk_1118 ?_
  refine v_add lk_1119 (by omega) ?_
  refine v_aldX hX lk_1120 ⟨by omega, by omega⟩ ?_
  refine v_callr lk_1121 ⟨Nat.le_of_ble_eq_true rfl, Nat.le_of_ble_eq_true rfl, rfl, Nat.le_of_ble_eq_true rfl, rfl⟩ ?_
  refine R_dirty (d := 92) hR ?_
  refine v_ieq lk_1124 (fun _ => ?_) (fun h => absurd rfl h)
  exact nx s M hC hR (BS_up hB) hX
theorem lw_c33 (hC : CS s M) (hR : RS s M) (hB : BS s n) (hn : n ≤ 600) (hX : ∀ x, M (-1) x = X x) (h32 : ∀ x, z_i32 (X x)) (hi : 0 ≤ i ∧ i + 6 ≤ (L : Int) ∧ L ≤ 3072) (nx : z_nx L X n i Q) : v_wp L 103 311 1129 [(2, -1), (2, 1), (2, 77), (0, i)] [] M Q := by
  refine v_load lk_1129 rfl ⟨rfl, Nat.le_of_ble_eq_true rfl⟩ ?_
  refine v_load lk_1130 rfl ⟨rfl, Nat.le_of_ble_eq_true rfl⟩ ?_
  refine v_load lk_1131 rfl ⟨rfl, Nat.le_of_ble_eq_true rfl⟩ ?_
  refine v_push lk_1132 ?_
  refine v_add lk_1133 (by omega) ?_
  refine v_aldX hX lk_1134 ⟨by omega, by omega⟩ ?_
  refine v_callr lk_1135 ⟨Nat.le_of_ble_eq_true rfl, Nat.le_of_ble_eq_true rfl, rfl, Nat.le_of_ble_eq_true rfl, rfl⟩ ?_
  refine S_lost (d := 92) hC ?_
  refine v_load lk_1138 rfl ⟨rfl, Nat.le_of_ble_eq_true rfl⟩ ?_
  refine v_load lk_1139 rfl ⟨rfl, Nat.le_of_ble_eq_true rfl⟩ ?_
  refine v_load lk_1140 rfl ⟨rfl, Nat.le_of_ble_eq_true rfl⟩ ?_
  refine v_push lk_1141 ?_
  refine v_add lk_1142 (by omega) ?_
  refine v_aldX hX lk_1143 ⟨by omega, by omega⟩ ?_
  refine v_callr lk_1144 ⟨Nat.le_of_ble_eq_true rfl, Nat.le_of_ble_eq_true rfl, rfl, Nat.le_of_ble_eq_true rfl, rfl⟩ ?_
  refine R_lost (d := 92) hR ?_
  refine v_ieq lk_1147 (fun _ => ?_) (fun h => absurd rfl h)
  exact nx s M hC hR (BS_up hB) hX
theorem lw_c34 (hC : CS s M) (hR : RS s M) (hB : BS s n) (hn : n ≤ 600) (hX : ∀ x, M (-1) x = X x) (h32 : ∀ x, z_i32 (X x)) (hi : 0 ≤ i ∧ i + 6 ≤ (L : Int) ∧ L ≤ 3072) (nx : z_nx L X n i Q) : v_wp L 103 311 1152 [(2, -1), (2, 1), (2, 77), (0, i)] [] M Q := by
  refine v_load lk_1152 rfl ⟨rfl, Nat.le_of_ble_eq_true rfl⟩ ?_
  refine v_load lk_1153 rfl ⟨rfl, Nat.le_of_ble_eq_true rfl⟩ ?_
  refine v_load lk_1154 rfl ⟨rfl, Nat.le_of_ble_eq_true rfl⟩ ?_
  refine v_push lk_1155 ?_
  refine v_add lk_1156 (by omega) ?_
  refine v_aldX hX lk_1157 ⟨by omega, by omega⟩ ?_
  refine v_callr lk_1158 ⟨Nat.le_of_ble_eq_true rfl, Nat.le_of_ble_eq_true rfl, rfl, Nat.le_of_ble_eq_true rfl, rfl⟩ ?_
  refine S_greatest (d := 92) hC ?_
  refine v_load lk_1161 rfl ⟨rfl, Nat.le_of_ble_eq_true rfl⟩ ?_
  refine v_load lk_1162 rfl ⟨rfl, Nat.le_of_ble_eq_true rfl⟩ ?_
  refine v_load lk_1163 rfl ⟨rfl, Nat.le_of_ble_eq_true rfl⟩ ?_
  refine v_push lk_1164 ?_
  refine v_add lk_1165 (by omega) ?_
  refine v_aldX hX lk_1166 ⟨by omega, by omega⟩ ?_
  refine v_callr lk_1167 ⟨Nat.le_of_ble_eq_true rfl, Nat.le_of_ble_eq_true rfl, rfl, Nat.le_of_ble_eq_true rfl, rfl⟩ ?_
  refine R_greatest (d := 92) hR ?_
  refine v_ieq lk_1170 (fun _ => ?_) (fun h => absurd rfl h)
  exact nx s M hC hR (BS_up hB) hX
theorem lw_c35 (hC : CS s M) (hR : RS s M) (hB : BS s n) (hn : n ≤ 600) (hX : ∀ x, M (-1) x = X x) (h32 : ∀ x, z_i32 (X x)) (hi : 0 ≤ i ∧ i + 6 ≤ (L : Int) ∧ L ≤ 3072) (nx : z_nx L X n i Q) : v_wp L 103 311 1175 [(2, -1), (2, 1), (2, 77), (0, i)] [] M Q := by
  refine v_load lk_1175 rfl ⟨rfl, Nat.le_of_ble_eq_true rfl⟩ ?_
  refine v_callr lk_1176 ⟨Nat.le_of_ble_eq_true rfl, Nat.le_of_ble_eq_true rfl, rfl, Nat.le_of_ble_eq_true rfl, rfl⟩ ?_
  refine S_whole (d := 92) hC ?_
  refine v_load lk_1179 rfl ⟨rfl, Nat.le_of_ble_eq_true rfl⟩ ?_
  refine v_callr lk_1180 ⟨Nat.le_of_ble_eq_true rfl, Nat.le_of_ble_eq_true rfl, rfl, Nat.le_of_ble_eq_true rfl, rfl⟩ ?_
  refine R_whole (d := 92) hR ?_
  refine v_ieq lk_1183 (fun _ => ?_) (fun h => absurd rfl h)
  exact nx s M hC hR (BS_up hB) hX
theorem lw_c36 (hC : CS s M) (hR : RS s M) (hB : BS s n) (hn : n ≤ 600) (hX : ∀ x, M (-1) x = X x) (h32 : ∀ x, z_i32 (X x)) (hi : 0 ≤ i ∧ i + 6 ≤ (L : Int) ∧ L ≤ 3072) (nx : z_nx L X n i Q) : v_wp L 103 311 1188 [(2, -1), (2, 1), (2, 77), (0, i)] [] M Q := by
  refine v_load lk_1188 rfl ⟨rfl, Nat.le_of_ble_eq_true rfl⟩ ?_
  refine v_callr lk_1189 ⟨Nat.le_of_ble_eq_true rfl, Nat.le_of_ble_eq_true rfl, rfl, Nat.le_of_ble_eq_true rfl, rfl⟩ ?_
  refine S_share (d := 92) hC hB hn ?_
  refine v_load lk_1192 rfl ⟨rfl, Nat.le_of_ble_eq_true rfl⟩ ?_
  refine v_callr lk_1193 ⟨Nat.le_of_ble_eq_true rfl, Nat.le_of_ble_eq_true rfl, rfl, Nat.le_of_ble_eq_true rfl, rfl⟩ ?_
  refine R_share (d := 92) hR hB hn ?_
  refine v_ieq lk_1196 (fun _ => ?_) (fun h => absurd rfl h)
  exact nx s M hC hR (BS_up hB) hX
theorem lw_c37 (hC : CS s M) (hR : RS s M) (hB : BS s n) (hn : n ≤ 600) (hX : ∀ x, M (-1) x = X x) (h32 : ∀ x, z_i32 (X x)) (hi : 0 ≤ i ∧ i + 6 ≤ (L : Int) ∧ L ≤ 3072) (nx : z_nx L X n i Q) : v_wp L 103 311 1201 [(2, -1), (2, 1), (2, 77), (0, i)] [] M Q := by
  refine v_load lk_1201 rfl ⟨rfl, Nat.le_of_ble_eq_true rfl⟩ ?_
  refine v_load lk_1202 rfl ⟨rfl, Nat.le_of_ble_eq_true rfl⟩ ?_
  refine v_load lk_1203 rfl ⟨rfl, Nat.le_of_ble_eq_true rfl⟩ ?_
  refine v_push lk_1204 ?_
  refine v_add lk_1205 (by omega) ?_
  refine v_aldX hX lk_1206 ⟨by omega, by omega⟩ ?_
  refine v_callr lk_1207 ⟨Nat.le_of_ble_eq_true rfl, Nat.le_of_ble_eq_true rfl, rfl, Nat.le_of_ble_eq_true rfl, rfl⟩ ?_
  refine S_names (d := 92) hC hB ?_
  refine v_load lk_1210 rfl ⟨rfl, Nat.le_of_ble_eq_true rfl⟩ ?_
  refine v_load lk_1211 rfl ⟨rfl, Nat.le_of_ble_eq_true rfl⟩ ?_
  refine v_load lk_1212 rfl ⟨rfl, Nat.le_of_ble_eq_true rfl⟩ ?_
  refine v_push lk_1213 ?_
  refine v_add lk_1214 (by omega) ?_
  refine v_aldX hX lk_1215 ⟨by omega, by omega⟩ ?_
  refine v_callr lk_1216 ⟨Nat.le_of_ble_eq_true rfl, Nat.le_of_ble_eq_true rfl, rfl, Nat.le_of_ble_eq_true rfl, rfl⟩ ?_
  refine R_names (d := 92) hR ?_
  refine v_ieq lk_1219 (fun _ => ?_) (fun h => absurd rfl h)
  exact nx s M hC hR (BS_up hB) hX
theorem lw_c38 (hC : CS s M) (hR : RS s M) (hB : BS s n) (hn : n ≤ 600) (hX : ∀ x, M (-1) x = X x) (h32 : ∀ x, z_i32 (X x)) (hi : 0 ≤ i ∧ i + 6 ≤ (L : Int) ∧ L ≤ 3072) (nx : z_nx L X n i Q) : v_wp L 103 311 1224 [(2, -1), (2, 1), (2, 77), (0, i)] [] M Q := by
  refine v_load lk_1224 rfl ⟨rfl, Nat.le_of_ble_eq_true rfl⟩ ?_
  refine v_load lk_1225 rfl ⟨rfl, Nat.le_of_ble_eq_true rfl⟩ ?_
  refine v_load lk_1226 rfl ⟨rfl, Nat.le_of_ble_eq_true rfl⟩ ?_
  refine v_push lk_1227 ?_
  refine v_add lk_1228 (by omega) ?_
  refine v_aldX hX lk_1229 ⟨by omega, by omega⟩ ?_
  refine v_callr lk_1230 ⟨Nat.le_of_ble_eq_true rfl, Nat.le_of_ble_eq_true rfl, rfl, Nat.le_of_ble_eq_true rfl, rfl⟩ ?_
  refine S_uses (d := 92) hC hB ?_
  refine v_load lk_1233 rfl ⟨rfl, Nat.le_of_ble_eq_true rfl⟩ ?_
  refine v_load lk_1234 rfl ⟨rfl, Nat.le_of_ble_eq_true rfl⟩ ?_
  refine v_load lk_1235 rfl ⟨rfl, Nat.le_of_ble_eq_true rfl⟩ ?_
  refine v_push lk_1236 ?_
  refine v_add lk_1237 (by omega) ?_
  refine v_aldX hX lk_1238 ⟨by omega, by omega⟩ ?_
  refine v_callr lk_1239 ⟨Nat.le_of_ble_eq_true rfl, Nat.le_of_ble_eq_true rfl, rfl, Nat.le_of_ble_eq_true rfl, rfl⟩ ?_
  refine R_uses (d := 92) hR (h32 _) ?_
  refine v_ieq lk_1242 (fun _ => ?_) (fun h => absurd rfl h)
  exact nx s M hC hR (BS_up hB) hX
theorem lw_c39 (hC : CS s M) (hR : RS s M) (hB : BS s n) (hn : n ≤ 600) (hX : ∀ x, M (-1) x = X x) (h32 : ∀ x, z_i32 (X x)) (hi : 0 ≤ i ∧ i + 6 ≤ (L : Int) ∧ L ≤ 3072) (nx : z_nx L X n i Q) : v_wp L 103 311 1247 [(2, -1), (2, 1), (2, 77), (0, i)] [] M Q := by
  refine v_load lk_1247 rfl ⟨rfl, Nat.le_of_ble_eq_true rfl⟩ ?_
  refine v_load lk_1248 rfl ⟨rfl, Nat.le_of_ble_eq_true rfl⟩ ?_
  refine v_load lk_1249 rfl ⟨rfl, Nat.le_of_ble_eq_true rfl⟩ ?_
  refine v_push lk_1250 ?_
  refine v_add lk_1251 (by omega) ?_
  refine v_aldX hX lk_1252 ⟨by omega, by omega⟩ ?_
  refine v_callr lk_1253 ⟨Nat.le_of_ble_eq_true rfl, Nat.le_of_ble_eq_true rfl, rfl, Nat.le_of_ble_eq_true rfl, rfl⟩ ?_
  refine S_value (d := 92) hC hB (fun M1 c1 o1 => ?_)
  have hX1 : ∀ x, M1 (-1) x = X x := fun x => (o1 (-1) x (by decide)).trans (hX x)
  have r1 : RS s M1 := RJ_oR hR o1 (by decide)
  refine v_load lk_1256 rfl ⟨rfl, Nat.le_of_ble_eq_true rfl⟩ ?_
  refine v_load lk_1257 rfl ⟨rfl, Nat.le_of_ble_eq_true rfl⟩ ?_
  refine v_load lk_1258 rfl ⟨rfl, Nat.le_of_ble_eq_true rfl⟩ ?_
  refine v_push lk_1259 ?_
  refine v_add lk_1260 (by omega) ?_
  refine v_aldX hX1 lk_1261 ⟨by omega, by omega⟩ ?_
  refine v_callr lk_1262 ⟨Nat.le_of_ble_eq_true rfl, Nat.le_of_ble_eq_true rfl, rfl, Nat.le_of_ble_eq_true rfl, rfl⟩ ?_
  refine R_value (d := 92) r1 (h32 _) (fun M2 r2 o2 => ?_)
  refine v_lcmp lk_1265 ?_
  rw [z_cmp_rf]
  refine v_ifeq lk_1266 (fun _ => ?_) (fun h => absurd rfl h)
  exact nx s M2 (CI_oR c1 o2 (by decide)) r2 (BS_up hB) (fun x => (o2 (-1) x (by decide)).trans (hX1 x))
theorem lw_c40 (hC : CS s M) (hR : RS s M) (hB : BS s n) (hn : n ≤ 600) (hX : ∀ x, M (-1) x = X x) (h32 : ∀ x, z_i32 (X x)) (hi : 0 ≤ i ∧ i + 6 ≤ (L : Int) ∧ L ≤ 3072) (nx : z_nx L X n i Q) : v_wp L 103 311 1271 [(2, -1), (2, 1), (2, 77), (0, i)] [] M Q := by
  refine v_load lk_1271 rfl ⟨rfl, Nat.le_of_ble_eq_true rfl⟩ ?_
  refine v_load lk_1272 rfl ⟨rfl, Nat.le_of_ble_eq_true rfl⟩ ?_
  refine v_load lk_1273 rfl ⟨rfl, Nat.le_of_ble_eq_true rfl⟩ ?_
  refine v_push lk_1274 ?_
  refine v_add lk_1275 (by omega) ?_
  refine v_aldX hX lk_1276 ⟨by omega, by omega⟩ ?_
  refine v_callr lk_1277 ⟨Nat.le_of_ble_eq_true rfl, Nat.le_of_ble_eq_true rfl, rfl, Nat.le_of_ble_eq_true rfl, rfl⟩ ?_
  refine S_told (d := 92) hC hB ?_
  refine v_load lk_1280 rfl ⟨rfl, Nat.le_of_ble_eq_true rfl⟩ ?_
  refine v_load lk_1281 rfl ⟨rfl, Nat.le_of_ble_eq_true rfl⟩ ?_
  refine v_load lk_1282 rfl ⟨rfl, Nat.le_of_ble_eq_true rfl⟩ ?_
  refine v_push lk_1283 ?_
  refine v_add lk_1284 (by omega) ?_
  refine v_aldX hX lk_1285 ⟨by omega, by omega⟩ ?_
  refine v_callr lk_1286 ⟨Nat.le_of_ble_eq_true rfl, Nat.le_of_ble_eq_true rfl, rfl, Nat.le_of_ble_eq_true rfl, rfl⟩ ?_
  refine R_told (d := 92) hR (h32 _) ?_
  refine v_ieq lk_1289 (fun _ => ?_) (fun h => absurd rfl h)
  exact nx s M hC hR (BS_up hB) hX
theorem lw_c41 (hC : CS s M) (hR : RS s M) (hB : BS s n) (hn : n ≤ 600) (hX : ∀ x, M (-1) x = X x) (h32 : ∀ x, z_i32 (X x)) (hi : 0 ≤ i ∧ i + 6 ≤ (L : Int) ∧ L ≤ 3072) (nx : z_nx L X n i Q) : v_wp L 103 311 1294 [(2, -1), (2, 1), (2, 77), (0, i)] [] M Q := by
  refine v_load lk_1294 rfl ⟨rfl, Nat.le_of_ble_eq_true rfl⟩ ?_
  refine v_load lk_1295 rfl ⟨rfl, Nat.le_of_ble_eq_true rfl⟩ ?_
  refine v_load lk_1296 rfl ⟨rfl, Nat.le_of_ble_eq_true rfl⟩ ?_
  refine v_push lk_1297 ?_
  refine v_add lk_1298 (by omega) ?_
  refine v_aldX hX lk_1299 ⟨by omega, by omega⟩ ?_
  refine v_load lk_1300 rfl ⟨rfl, Nat.le_of_ble_eq_true rfl⟩ ?_
  refine v_load lk_1301 rfl ⟨rfl, Nat.le_of_ble_eq_true rfl⟩ ?_
  refine v_push lk_1302 ?_
  refine v_add lk_1303 (by omega) ?_
  refine v_aldX hX lk_1304 ⟨by omega, by omega⟩ ?_
  refine v_callr lk_1305 ⟨Nat.le_of_ble_eq_true rfl, Nat.le_of_ble_eq_true rfl, rfl, Nat.le_of_ble_eq_true rfl, rfl⟩ ?_
  refine S_item (d := 92) hC ?_
  refine v_load lk_1308 rfl ⟨rfl, Nat.le_of_ble_eq_true rfl⟩ ?_
  refine v_load lk_1309 rfl ⟨rfl, Nat.le_of_ble_eq_true rfl⟩ ?_
  refine v_load lk_1310 rfl ⟨rfl, Nat.le_of_ble_eq_true rfl⟩ ?_
  refine v_push lk_1311 ?_
  refine v_add lk_1312 (by omega) ?_
  refine v_aldX hX lk_1313 ⟨by omega, by omega⟩ ?_
  refine v_load lk_1314 rfl ⟨rfl, Nat.le_of_ble_eq_true rfl⟩ ?_
  refine v_load lk_1315 rfl ⟨rfl, Nat.le_of_ble_eq_true rfl⟩ ?_
  refine v_push lk_1316 ?_
  refine v_add lk_1317 (by omega) ?_
  refine v_aldX hX lk_1318 ⟨by omega, by omega⟩ ?_
  refine v_callr lk_1319 ⟨Nat.le_of_ble_eq_true rfl, Nat.le_of_ble_eq_true rfl, rfl, Nat.le_of_ble_eq_true rfl, rfl⟩ ?_
  refine R_item (d := 92) hR ?_
  refine v_ieq lk_1322 (fun _ => ?_) (fun h => absurd rfl h)
  exact nx s M hC hR (BS_up hB) hX
theorem lw_c42 (hC : CS s M) (hR : RS s M) (hB : BS s n) (hn : n ≤ 600) (hX : ∀ x, M (-1) x = X x) (h32 : ∀ x, z_i32 (X x)) (hi : 0 ≤ i ∧ i + 6 ≤ (L : Int) ∧ L ≤ 3072) (nx : z_nx L X n i Q) : v_wp L 103 311 1327 [(2, -1), (2, 1), (2, 77), (0, i)] [] M Q := by
  refine v_load lk_1327 rfl ⟨rfl, Nat.le_of_ble_eq_true rfl⟩ ?_
  refine v_load lk_1328 rfl ⟨rfl, Nat.le_of_ble_eq_true rfl⟩ ?_
  refine v_load lk_1329 rfl ⟨rfl, Nat.le_of_ble_eq_true rfl⟩ ?_
  refine v_push lk_1330 ?_
  refine v_add lk_1331 (by omega) ?_
  refine v_aldX hX lk_1332 ⟨by omega, by omega⟩ ?_
  refine v_load lk_1333 rfl ⟨rfl, Nat.le_of_ble_eq_true rfl⟩ ?_
  refine v_load lk_1334 rfl ⟨rfl, Nat.le_of_ble_eq_true rfl⟩ ?_
  refine v_push lk_1335 ?_
  refine v_add lk_1336 (by omega) ?_
  refine v_aldX hX lk_1337 ⟨by omega, by omega⟩ ?_
  refine v_callr lk_1338 ⟨Nat.le_of_ble_eq_true rfl, Nat.le_of_ble_eq_true rfl, rfl, Nat.le_of_ble_eq_true rfl, rfl⟩ ?_
  refine S_far (d := 92) hC ?_
  refine v_load lk_1341 rfl ⟨rfl, Nat.le_of_ble_eq_true rfl⟩ ?_
  refine v_load lk_1342 rfl ⟨rfl, Nat.le_of_ble_eq_true rfl⟩ ?_
  refine v_load lk_1343 rfl ⟨rfl, Nat.le_of_ble_eq_true rfl⟩ ?_
  refine v_push lk_1344 ?_
  refine v_add lk_1345 (by omega) ?_
  refine v_aldX hX lk_1346 ⟨by omega, by omega⟩ ?_
  refine v_load lk_1347 rfl ⟨rfl, Nat.le_of_ble_eq_true rfl⟩ ?_
  refine v_load lk_1348 rfl ⟨rfl, Nat.le_of_ble_eq_true rfl⟩ ?_
  refine v_push lk_1349 ?_
  refine v_add lk_1350 (by omega) ?_
  refine v_aldX hX lk_1351 ⟨by omega, by omega⟩ ?_
  refine v_callr lk_1352 ⟨Nat.le_of_ble_eq_true rfl, Nat.le_of_ble_eq_true rfl, rfl, Nat.le_of_ble_eq_true rfl, rfl⟩ ?_
  refine R_far (d := 92) hR (h32 _) (h32 _) ?_
  refine v_ieq lk_1355 (fun _ => ?_) (fun h => absurd rfl h)
  exact nx s M hC hR (BS_up hB) hX
theorem law_loop (hL : L ≤ 3072) (h32 : ∀ x, z_i32 (X x)) (hQ : ∀ M', Q (some (0, 1)) M') : ∀ (m n : Nat) (s : zA) (M : zM), (L : Int) - 6 * (n : Int) < 6 * (m : Int) → 6 * (n : Int) ≤ (L : Int) → CS s M → RS s M → BS s n → (∀ x, M (-1) x = X x) → v_wp L 103 311 18 [(2, -1), (2, 1), (2, 77), (0, 6 * (n : Int))] [] M Q := by
  intro m
  induction m with
  | zero => intro n s M h1 h2; omega
  | succ m ih =>
    intro n s M h1 h2 hC hR hB hX
    refine v_load lk_18 rfl ⟨rfl, Nat.le_of_ble_eq_true rfl⟩ ?_
    refine v_load lk_19 rfl ⟨rfl, Nat.le_of_ble_eq_true rfl⟩ ?_
    refine v_len lk_20 ⟨Nat.le_of_ble_eq_true rfl, Nat.le_of_ble_eq_true rfl⟩ (show ((z_sC L (-1)).2 : Int) = (L : Int) from rfl) ?_
    refine v_push lk_21 ?_
    refine v_sub lk_23 (by omega) ?_
    refine v_igt lk_24 (fun _ => ?_) (fun hle => ?_)
    · refine v_push lk_1366 ?_
      refine v_retz lk_1367 (Or.inr rfl) ?_
      exact hQ M
    · have hi : 0 ≤ 6 * (n : Int) ∧ 6 * (n : Int) + 6 ≤ (L : Int) ∧ L ≤ 3072 := ⟨by omega, by omega, hL⟩
      have nx : z_nx L X n (6 * (n : Int)) Q := by
        intro s' M' c' r' b' x'
        refine v_iinc lk_1360 rfl rfl (by omega) rfl ?_
        refine v_goto lk_1363 ?_
        have := ih (n + 1) s' M' (by omega) (by omega) c' r' b' x'
        rw [show 6 * ((n + 1 : Nat) : Int) = 6 * (n : Int) + 6 by omega] at this
        exact this
      have hn : n ≤ 600 := by omega
      refine v_load lk_27 rfl ⟨rfl, Nat.le_of_ble_eq_true rfl⟩ ?_
      refine v_load lk_28 rfl ⟨rfl, Nat.le_of_ble_eq_true rfl⟩ ?_
      refine v_aldX hX lk_29 ⟨by omega, by omega⟩ ?_
      refine v_push lk_30 ?_
      refine v_alu lk_32 (show z_alu 3 _ 63 = some _ from rfl) ?_
      refine v_tsw lk_33 ?_
      have hm : 0 ≤ X (6 * (n : Int)) % 64 ∧ X (6 * (n : Int)) % 64 < 64 := by omega
      generalize X (6 * (n : Int)) % 64 = x at hm
      by_cases cx : x ≤ 42
      · have : x = 0 ∨ x = 1 ∨ x = 2 ∨ x = 3 ∨ x = 4 ∨ x = 5 ∨ x = 6 ∨ x = 7 ∨ x = 8 ∨ x = 9 ∨ x = 10 ∨ x = 11 ∨ x = 12 ∨ x = 13 ∨ x = 14 ∨ x = 15 ∨ x = 16 ∨ x = 17 ∨ x = 18 ∨ x = 19 ∨ x = 20 ∨ x = 21 ∨ x = 22 ∨ x = 23 ∨ x = 24 ∨ x = 25 ∨ x = 26 ∨ x = 27 ∨ x = 28 ∨ x = 29 ∨ x = 30 ∨ x = 31 ∨ x = 32 ∨ x = 33 ∨ x = 34 ∨ x = 35 ∨ x = 36 ∨ x = 37 ∨ x = 38 ∨ x = 39 ∨ x = 40 ∨ x = 41 ∨ x = 42 := by omega
        rcases this with rfl | rfl | rfl | rfl | rfl | rfl | rfl | rfl | rfl | rfl | rfl | rfl | rfl | rfl | rfl | rfl | rfl | rfl | rfl | rfl | rfl | rfl | rfl | rfl | rfl | rfl | rfl | rfl | rfl | rfl | rfl | rfl | rfl | rfl | rfl | rfl | rfl | rfl | rfl | rfl | rfl | rfl | rfl
        · exact lw_c0 hC hR hB hn hX h32 hi nx
        · exact lw_c1 hC hR hB hn hX h32 hi nx
        · exact lw_c2 hC hR hB hn hX h32 hi nx
        · exact lw_c3 hC hR hB hn hX h32 hi nx
        · exact lw_c4 hC hR hB hn hX h32 hi nx
        · exact lw_c5 hC hR hB hn hX h32 hi nx
        · exact lw_c6 hC hR hB hn hX h32 hi nx
        · exact lw_c7 hC hR hB hn hX h32 hi nx
        · exact lw_c8 hC hR hB hn hX h32 hi nx
        · exact lw_c9 hC hR hB hn hX h32 hi nx
        · exact lw_c10 hC hR hB hn hX h32 hi nx
        · exact lw_c11 hC hR hB hn hX h32 hi nx
        · exact lw_c12 hC hR hB hn hX h32 hi nx
        · exact lw_c13 hC hR hB hn hX h32 hi nx
        · exact lw_c14 hC hR hB hn hX h32 hi nx
        · exact lw_c15 hC hR hB hn hX h32 hi nx
        · exact lw_c16 hC hR hB hn hX h32 hi nx
        · exact lw_c17 hC hR hB hn hX h32 hi nx
        · exact lw_c18 hC hR hB hn hX h32 hi nx
        · exact lw_c19 hC hR hB hn hX h32 hi nx
        · exact lw_c20 hC hR hB hn hX h32 hi nx
        · exact lw_c21 hC hR hB hn hX h32 hi nx
        · exact lw_c22 hC hR hB hn hX h32 hi nx
        · exact lw_c23 hC hR hB hn hX h32 hi nx
        · exact lw_c24 hC hR hB hn hX h32 hi nx
        · exact lw_c25 hC hR hB hn hX h32 hi nx
        · exact lw_c26 hC hR hB hn hX h32 hi nx
        · exact lw_c27 hC hR hB hn hX h32 hi nx
        · exact lw_c28 hC hR hB hn hX h32 hi nx
        · exact lw_c29 hC hR hB hn hX h32 hi nx
        · exact lw_c30 hC hR hB hn hX h32 hi nx
        · exact lw_c31 hC hR hB hn hX h32 hi nx
        · exact lw_c32 hC hR hB hn hX h32 hi nx
        · exact lw_c33 hC hR hB hn hX h32 hi nx
        · exact lw_c34 hC hR hB hn hX h32 hi nx
        · exact lw_c35 hC hR hB hn hX h32 hi nx
        · exact lw_c36 hC hR hB hn hX h32 hi nx
        · exact lw_c37 hC hR hB hn hX h32 hi nx
        · exact lw_c38 hC hR hB hn hX h32 hi nx
        · exact lw_c39 hC hR hB hn hX h32 hi nx
        · exact lw_c40 hC hR hB hn hX h32 hi nx
        · exact lw_c41 hC hR hB hn hX h32 hi nx
        · exact lw_c42 hC hR hB hn hX h32 hi nx
      · rw [z_sw_out _ (by simp only [List.forall_mem_cons, List.not_mem_nil, false_implies, implies_true, and_true]; omega)]
        exact nx s M hC hR (BS_up hB) hX
end LW
