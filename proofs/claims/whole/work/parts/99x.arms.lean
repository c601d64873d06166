/-! THE ARMS OF THE LAW (by program: wip/tools/arms.py) -/
theorem la_b01 (x : Int32) : la_b x = 0 ∨ la_b x = 1 := by unfold la_b; split <;> simp
section ARM
variable {p : Program} {l : Launch} {e : Env} {s : State} {m : MethodId} {below : List Frame} {meth : Method} {c : Code} {b L : Nat} {xs : Nat → Int32} {D : va_G} {ad : Nat → Nat} {ca : FieldType → ClassId} {A : Nat → Prop} {qo i : Nat} {f : Nat → Int64} {M : fm_M} {H : Heap} {locs : List Loc} {cells slots : Nat} {Qs : State → Prop} {ls : Array Slot}
theorem arm_feed (C : la_ok p s m c b L xs D ad ca A) (hi : i + 6 ≤ L) (hI : Inv M M) (hw : la_w s D ad ca A qo f M H locs) (hl : lv_has ls 7 (la_L b ad qo i)) (hcs : cells ≤ room_1.cells ∧ slots ≤ room_1.slots) (K : ∀ (M2 : fm_M) (H1 : Heap) (locs1 : List Loc), Inv M2 M2 → la_w s D ad ca A qo f M2 H1 locs1 → W p l e room_1 s m #[.ref b] below meth c H1 locs1 cells slots Qs (F0 m 1570 ls [])) : W p l e room_1 s m #[.ref b] below meth c H locs cells slots Qs (F0 m 208 ls []) := by
  refine lv_aload_n C.1.1.1 C.1.1.2.1 dL_law_208 rfl (lv_at hl 1 rfl) ?_
  refine la_rd (k := 1) C hw.2.2.1 hl hi (by decide) dL_law_209 dL_law_210 dL_law_212 dL_law_213 dL_law_214 ?_
  refine la_rd (k := 2) C hw.2.2.1 hl hi (by decide) dL_law_215 dL_law_216 dL_law_218 dL_law_219 dL_law_220 ?_
  refine la_rd (k := 3) C hw.2.2.1 hl hi (by decide) dL_law_221 dL_law_222 dL_law_224 dL_law_225 dL_law_226 ?_
  refine la_rd (k := 4) C hw.2.2.1 hl hi (by decide) dL_law_227 dL_law_228 dL_law_230 dL_law_231 dL_law_232 ?_
  refine la_rd (k := 5) C hw.2.2.1 hl hi (by decide) dL_law_233 dL_law_234 dL_law_236 dL_law_237 dL_law_238 ?_
  refine la_call C hcs hl.1 mX9_feed [.int (xs (i + 1)), .int (xs (i + 2)), .int (xs (i + 3)), .int (xs (i + 4)), .int (xs (i + 5))] [] rfl (call_feed (xs (i + 1)) (xs (i + 2)) (xs (i + 3)) (xs (i + 4)) (xs (i + 5)) hI) cvX9_feed (fm_t3 13 rfl rfl) sh_0 rfl rfl (Nat.le_of_ble_eq_true rfl) (Nat.le_of_ble_eq_true rfl) dL_law_239 hw (fun r M1 H1 locs1 hq hw1 => ?_)
  obtain ⟨v, rfl, hq⟩ := hq
  refine lv_aload_n C.1.1.1 C.1.1.2.1 dL_law_242 rfl (lv_at hl 2 rfl) ?_
  refine la_rd (k := 1) C hw1.2.2.1 hl hi (by decide) dL_law_243 dL_law_244 dL_law_246 dL_law_247 dL_law_248 ?_
  refine la_rd (k := 2) C hw1.2.2.1 hl hi (by decide) dL_law_249 dL_law_250 dL_law_252 dL_law_253 dL_law_254 ?_
  refine la_rd (k := 3) C hw1.2.2.1 hl hi (by decide) dL_law_255 dL_law_256 dL_law_258 dL_law_259 dL_law_260 ?_
  refine la_rd (k := 4) C hw1.2.2.1 hl hi (by decide) dL_law_261 dL_law_262 dL_law_264 dL_law_265 dL_law_266 ?_
  refine la_rd (k := 5) C hw1.2.2.1 hl hi (by decide) dL_law_267 dL_law_268 dL_law_270 dL_law_271 dL_law_272 ?_
  refine la_call C hcs hl.1 mX10_feed [.int (xs (i + 1)), .int (xs (i + 2)), .int (xs (i + 3)), .int (xs (i + 4)), .int (xs (i + 5))] [.int v] rfl hq cvX10_feed (fm_t6 177 rfl rfl) sh_76 rfl rfl (Nat.le_of_ble_eq_true rfl) (Nat.le_of_ble_eq_true rfl) dL_law_273 hw1 (fun r M2 H2 locs2 hq2 hw2 => ?_)
  obtain ⟨rfl, hI2⟩ := hq2
  exact lv_icmp_eq (tgt := 1570) C.1.1.1 C.1.1.2.1 dL_law_276 (by decide) (fun _ => K M2 H2 locs2 hI2 hw2) (fun h => absurd rfl h)
theorem arm_text (C : la_ok p s m c b L xs D ad ca A) (hi : i + 6 ≤ L) (hI : Inv M M) (hw : la_w s D ad ca A qo f M H locs) (hl : lv_has ls 7 (la_L b ad qo i)) (hcs : cells ≤ room_1.cells ∧ slots ≤ room_1.slots) (K : ∀ (M2 : fm_M) (H1 : Heap) (locs1 : List Loc), Inv M2 M2 → la_w s D ad ca A qo f M2 H1 locs1 → W p l e room_1 s m #[.ref b] below meth c H1 locs1 cells slots Qs (F0 m 1570 ls [])) : W p l e room_1 s m #[.ref b] below meth c H locs cells slots Qs (F0 m 281 ls []) := by
  refine lv_aload_n C.1.1.1 C.1.1.2.1 dL_law_281 rfl (lv_at hl 1 rfl) ?_
  refine la_rd (k := 1) C hw.2.2.1 hl hi (by decide) dL_law_282 dL_law_283 dL_law_285 dL_law_286 dL_law_287 ?_
  refine la_call C hcs hl.1 mX9_text [.int (xs (i + 1))] [] rfl (call_text (xs (i + 1)) hI) cvX9_text (fm_t3 21 rfl rfl) sh_0 rfl rfl (Nat.le_of_ble_eq_true rfl) (Nat.le_of_ble_eq_true rfl) dL_law_288 hw (fun r M1 H1 locs1 hq hw1 => ?_)
  obtain ⟨v, rfl, hq⟩ := hq
  refine lv_aload_n C.1.1.1 C.1.1.2.1 dL_law_291 rfl (lv_at hl 2 rfl) ?_
  refine la_rd (k := 1) C hw1.2.2.1 hl hi (by decide) dL_law_292 dL_law_293 dL_law_295 dL_law_296 dL_law_297 ?_
  refine la_call C hcs hl.1 mX10_text [.int (xs (i + 1))] [.int v] rfl hq cvX10_text (fm_t6 181 rfl rfl) sh_76 rfl rfl (Nat.le_of_ble_eq_true rfl) (Nat.le_of_ble_eq_true rfl) dL_law_298 hw1 (fun r M2 H2 locs2 hq2 hw2 => ?_)
  obtain ⟨rfl, hI2⟩ := hq2
  exact lv_icmp_eq (tgt := 1570) C.1.1.1 C.1.1.2.1 dL_law_301 (by decide) (fun _ => K M2 H2 locs2 hI2 hw2) (fun h => absurd rfl h)
theorem arm_fault (C : la_ok p s m c b L xs D ad ca A) (hi : i + 6 ≤ L) (hI : Inv M M) (hw : la_w s D ad ca A qo f M H locs) (hl : lv_has ls 7 (la_L b ad qo i)) (hcs : cells ≤ room_1.cells ∧ slots ≤ room_1.slots) (K : ∀ (M2 : fm_M) (H1 : Heap) (locs1 : List Loc), Inv M2 M2 → la_w s D ad ca A qo f M2 H1 locs1 → W p l e room_1 s m #[.ref b] below meth c H1 locs1 cells slots Qs (F0 m 1570 ls [])) : W p l e room_1 s m #[.ref b] below meth c H locs cells slots Qs (F0 m 306 ls []) := by
  refine lv_aload_n C.1.1.1 C.1.1.2.1 dL_law_306 rfl (lv_at hl 1 rfl) ?_
  refine la_rd (k := 1) C hw.2.2.1 hl hi (by decide) dL_law_307 dL_law_308 dL_law_310 dL_law_311 dL_law_312 ?_
  refine la_call C hcs hl.1 mX9_fault [.int (xs (i + 1))] [] rfl (call_fault (xs (i + 1)) hI) cvX9_fault (fm_t3 200 rfl rfl) sh_0 rfl rfl (Nat.le_of_ble_eq_true rfl) (Nat.le_of_ble_eq_true rfl) dL_law_313 hw (fun r M1 H1 locs1 hq hw1 => ?_)
  obtain ⟨v, rfl, hq⟩ := hq
  refine lv_aload_n C.1.1.1 C.1.1.2.1 dL_law_316 rfl (lv_at hl 2 rfl) ?_
  refine la_rd (k := 1) C hw1.2.2.1 hl hi (by decide) dL_law_317 dL_law_318 dL_law_320 dL_law_321 dL_law_322 ?_
  refine la_call C hcs hl.1 mX10_fault [.int (xs (i + 1))] [.int v] rfl hq cvX10_fault (fm_t7 64 rfl rfl) sh_76 rfl rfl (Nat.le_of_ble_eq_true rfl) (Nat.le_of_ble_eq_true rfl) dL_law_323 hw1 (fun r M2 H2 locs2 hq2 hw2 => ?_)
  obtain ⟨rfl, hI2⟩ := hq2
  exact lv_icmp_eq (tgt := 1570) C.1.1.1 C.1.1.2.1 dL_law_326 (by decide) (fun _ => K M2 H2 locs2 hI2 hw2) (fun h => absurd rfl h)
theorem arm_named (C : la_ok p s m c b L xs D ad ca A) (hi : i + 6 ≤ L) (hI : Inv M M) (hw : la_w s D ad ca A qo f M H locs) (hl : lv_has ls 7 (la_L b ad qo i)) (hcs : cells ≤ room_1.cells ∧ slots ≤ room_1.slots) (K : ∀ (M2 : fm_M) (H1 : Heap) (locs1 : List Loc), Inv M2 M2 → la_w s D ad ca A qo f M2 H1 locs1 → W p l e room_1 s m #[.ref b] below meth c H1 locs1 cells slots Qs (F0 m 1570 ls [])) : W p l e room_1 s m #[.ref b] below meth c H locs cells slots Qs (F0 m 331 ls []) := by
  refine lv_aload_n C.1.1.1 C.1.1.2.1 dL_law_331 rfl (lv_at hl 1 rfl) ?_
  refine la_rd (k := 1) C hw.2.2.1 hl hi (by decide) dL_law_332 dL_law_333 dL_law_335 dL_law_336 dL_law_337 ?_
  refine la_rd (k := 2) C hw.2.2.1 hl hi (by decide) dL_law_338 dL_law_339 dL_law_341 dL_law_342 dL_law_343 ?_
  refine la_call C hcs hl.1 mX9_named [.int (xs (i + 1)), .int (xs (i + 2))] [] rfl (call_named (xs (i + 1)) (xs (i + 2)) hI) cvX9_named (fm_t3 204 rfl rfl) sh_0 rfl rfl (Nat.le_of_ble_eq_true rfl) (Nat.le_of_ble_eq_true rfl) dL_law_344 hw (fun r M1 H1 locs1 hq hw1 => ?_)
  obtain ⟨v, rfl, hq⟩ := hq
  refine lv_aload_n C.1.1.1 C.1.1.2.1 dL_law_347 rfl (lv_at hl 2 rfl) ?_
  refine la_rd (k := 1) C hw1.2.2.1 hl hi (by decide) dL_law_348 dL_law_349 dL_law_351 dL_law_352 dL_law_353 ?_
  refine la_rd (k := 2) C hw1.2.2.1 hl hi (by decide) dL_law_354 dL_law_355 dL_law_357 dL_law_358 dL_law_359 ?_
  refine la_call C hcs hl.1 mX10_named [.int (xs (i + 1)), .int (xs (i + 2))] [.int v] rfl hq cvX10_named (fm_t7 68 rfl rfl) sh_76 rfl rfl (Nat.le_of_ble_eq_true rfl) (Nat.le_of_ble_eq_true rfl) dL_law_360 hw1 (fun r M2 H2 locs2 hq2 hw2 => ?_)
  obtain ⟨rfl, hI2⟩ := hq2
  exact lv_icmp_eq (tgt := 1570) C.1.1.1 C.1.1.2.1 dL_law_363 (by decide) (fun _ => K M2 H2 locs2 hI2 hw2) (fun h => absurd rfl h)
theorem arm_fork (C : la_ok p s m c b L xs D ad ca A) (hi : i + 6 ≤ L) (hI : Inv M M) (hw : la_w s D ad ca A qo f M H locs) (hl : lv_has ls 7 (la_L b ad qo i)) (hcs : cells ≤ room_1.cells ∧ slots ≤ room_1.slots) (K : ∀ (M2 : fm_M) (H1 : Heap) (locs1 : List Loc), Inv M2 M2 → la_w s D ad ca A qo f M2 H1 locs1 → W p l e room_1 s m #[.ref b] below meth c H1 locs1 cells slots Qs (F0 m 1570 ls [])) : W p l e room_1 s m #[.ref b] below meth c H locs cells slots Qs (F0 m 436 ls []) := by
  refine lv_aload_n C.1.1.1 C.1.1.2.1 dL_law_436 rfl (lv_at hl 1 rfl) ?_
  refine la_rd (k := 1) C hw.2.2.1 hl hi (by decide) dL_law_437 dL_law_438 dL_law_440 dL_law_441 dL_law_442 ?_
  refine la_rd (k := 2) C hw.2.2.1 hl hi (by decide) dL_law_443 dL_law_444 dL_law_446 dL_law_447 dL_law_448 ?_
  refine la_call C hcs hl.1 mX9_fork [.int (xs (i + 1)), .int (xs (i + 2))] [] rfl (call_fork (xs (i + 1)) (xs (i + 2)) hI) cvX9_fork (fm_t3 210 rfl rfl) sh_0 rfl rfl (Nat.le_of_ble_eq_true rfl) (Nat.le_of_ble_eq_true rfl) dL_law_449 hw (fun r M1 H1 locs1 hq hw1 => ?_)
  obtain ⟨v, rfl, hq⟩ := hq
  refine lv_aload_n C.1.1.1 C.1.1.2.1 dL_law_452 rfl (lv_at hl 2 rfl) ?_
  refine la_rd (k := 1) C hw1.2.2.1 hl hi (by decide) dL_law_453 dL_law_454 dL_law_456 dL_law_457 dL_law_458 ?_
  refine la_rd (k := 2) C hw1.2.2.1 hl hi (by decide) dL_law_459 dL_law_460 dL_law_462 dL_law_463 dL_law_464 ?_
  refine la_call C hcs hl.1 mX10_fork [.int (xs (i + 1)), .int (xs (i + 2))] [.int v] rfl hq cvX10_fork (fm_t7 80 rfl rfl) sh_76 rfl rfl (Nat.le_of_ble_eq_true rfl) (Nat.le_of_ble_eq_true rfl) dL_law_465 hw1 (fun r M2 H2 locs2 hq2 hw2 => ?_)
  obtain ⟨rfl, hI2⟩ := hq2
  exact lv_icmp_eq (tgt := 1570) C.1.1.1 C.1.1.2.1 dL_law_468 (by decide) (fun _ => K M2 H2 locs2 hI2 hw2) (fun h => absurd rfl h)
theorem arm_wet (C : la_ok p s m c b L xs D ad ca A) (hi : i + 6 ≤ L) (hI : Inv M M) (hw : la_w s D ad ca A qo f M H locs) (hl : lv_has ls 7 (la_L b ad qo i)) (hcs : cells ≤ room_1.cells ∧ slots ≤ room_1.slots) (K : ∀ (M2 : fm_M) (H1 : Heap) (locs1 : List Loc), Inv M2 M2 → la_w s D ad ca A qo f M2 H1 locs1 → W p l e room_1 s m #[.ref b] below meth c H1 locs1 cells slots Qs (F0 m 1570 ls [])) : W p l e room_1 s m #[.ref b] below meth c H locs cells slots Qs (F0 m 473 ls []) := by
  refine lv_aload_n C.1.1.1 C.1.1.2.1 dL_law_473 rfl (lv_at hl 1 rfl) ?_
  refine la_rd (k := 1) C hw.2.2.1 hl hi (by decide) dL_law_474 dL_law_475 dL_law_477 dL_law_478 dL_law_479 ?_
  refine la_call C hcs hl.1 mX9_wet [.int (xs (i + 1))] [] rfl (call_wet (xs (i + 1)) hI) cvX9_wet (fm_t3 219 rfl rfl) sh_0 rfl rfl (Nat.le_of_ble_eq_true rfl) (Nat.le_of_ble_eq_true rfl) dL_law_480 hw (fun r M1 H1 locs1 hq hw1 => ?_)
  obtain ⟨v, rfl, hq⟩ := hq
  refine lv_aload_n C.1.1.1 C.1.1.2.1 dL_law_483 rfl (lv_at hl 2 rfl) ?_
  refine la_rd (k := 1) C hw1.2.2.1 hl hi (by decide) dL_law_484 dL_law_485 dL_law_487 dL_law_488 dL_law_489 ?_
  refine la_call C hcs hl.1 mX10_wet [.int (xs (i + 1))] [.int v] rfl hq cvX10_wet (fm_t7 92 rfl rfl) sh_76 rfl rfl (Nat.le_of_ble_eq_true rfl) (Nat.le_of_ble_eq_true rfl) dL_law_490 hw1 (fun r M2 H2 locs2 hq2 hw2 => ?_)
  obtain ⟨rfl, hI2⟩ := hq2
  exact lv_icmp_eq (tgt := 1570) C.1.1.1 C.1.1.2.1 dL_law_493 (by decide) (fun _ => K M2 H2 locs2 hI2 hw2) (fun h => absurd rfl h)
theorem arm_beats (C : la_ok p s m c b L xs D ad ca A) (hi : i + 6 ≤ L) (hI : Inv M M) (hw : la_w s D ad ca A qo f M H locs) (hl : lv_has ls 7 (la_L b ad qo i)) (hcs : cells ≤ room_1.cells ∧ slots ≤ room_1.slots) (K : ∀ (M2 : fm_M) (H1 : Heap) (locs1 : List Loc), Inv M2 M2 → la_w s D ad ca A qo f M2 H1 locs1 → W p l e room_1 s m #[.ref b] below meth c H1 locs1 cells slots Qs (F0 m 1570 ls [])) : W p l e room_1 s m #[.ref b] below meth c H locs cells slots Qs (F0 m 498 ls []) := by
  refine lv_aload_n C.1.1.1 C.1.1.2.1 dL_law_498 rfl (lv_at hl 1 rfl) ?_
  refine la_rd (k := 1) C hw.2.2.1 hl hi (by decide) dL_law_499 dL_law_500 dL_law_502 dL_law_503 dL_law_504 ?_
  refine la_rd (k := 2) C hw.2.2.1 hl hi (by decide) dL_law_505 dL_law_506 dL_law_508 dL_law_509 dL_law_510 ?_
  refine la_call C hcs hl.1 mX9_beats [.int (xs (i + 1)), .int (xs (i + 2))] [] rfl (call_beats (xs (i + 1)) (xs (i + 2)) hI) cvX9_beats (fm_t3 224 rfl rfl) sh_0 rfl rfl (Nat.le_of_ble_eq_true rfl) (Nat.le_of_ble_eq_true rfl) dL_law_511 hw (fun r M1 H1 locs1 hq hw1 => ?_)
  obtain ⟨v, rfl, hq⟩ := hq
  refine lv_aload_n C.1.1.1 C.1.1.2.1 dL_law_514 rfl (lv_at hl 2 rfl) ?_
  refine la_rd (k := 1) C hw1.2.2.1 hl hi (by decide) dL_law_515 dL_law_516 dL_law_518 dL_law_519 dL_law_520 ?_
  refine la_rd (k := 2) C hw1.2.2.1 hl hi (by decide) dL_law_521 dL_law_522 dL_law_524 dL_law_525 dL_law_526 ?_
  refine la_call C hcs hl.1 mX10_beats [.int (xs (i + 1)), .int (xs (i + 2))] [.int v] rfl hq cvX10_beats (fm_t7 100 rfl rfl) sh_76 rfl rfl (Nat.le_of_ble_eq_true rfl) (Nat.le_of_ble_eq_true rfl) dL_law_527 hw1 (fun r M2 H2 locs2 hq2 hw2 => ?_)
  obtain ⟨rfl, hI2⟩ := hq2
  exact lv_icmp_eq (tgt := 1570) C.1.1.1 C.1.1.2.1 dL_law_530 (by decide) (fun _ => K M2 H2 locs2 hI2 hw2) (fun h => absurd rfl h)
theorem arm_hums (C : la_ok p s m c b L xs D ad ca A) (hi : i + 6 ≤ L) (hI : Inv M M) (hw : la_w s D ad ca A qo f M H locs) (hl : lv_has ls 7 (la_L b ad qo i)) (hcs : cells ≤ room_1.cells ∧ slots ≤ room_1.slots) (K : ∀ (M2 : fm_M) (H1 : Heap) (locs1 : List Loc), Inv M2 M2 → la_w s D ad ca A qo f M2 H1 locs1 → W p l e room_1 s m #[.ref b] below meth c H1 locs1 cells slots Qs (F0 m 1570 ls [])) : W p l e room_1 s m #[.ref b] below meth c H locs cells slots Qs (F0 m 535 ls []) := by
  refine lv_aload_n C.1.1.1 C.1.1.2.1 dL_law_535 rfl (lv_at hl 1 rfl) ?_
  refine la_rd (k := 1) C hw.2.2.1 hl hi (by decide) dL_law_536 dL_law_537 dL_law_539 dL_law_540 dL_law_541 ?_
  refine la_rd (k := 2) C hw.2.2.1 hl hi (by decide) dL_law_542 dL_law_543 dL_law_545 dL_law_546 dL_law_547 ?_
  refine la_call C hcs hl.1 mX9_hums [.int (xs (i + 1)), .int (xs (i + 2))] [] rfl (call_hums (xs (i + 1)) (xs (i + 2)) hI) cvX9_hums (fm_t4 9 rfl rfl) sh_0 rfl rfl (Nat.le_of_ble_eq_true rfl) (Nat.le_of_ble_eq_true rfl) dL_law_548 hw (fun r M1 H1 locs1 hq hw1 => ?_)
  obtain ⟨v, rfl, hq⟩ := hq
  refine lv_aload_n C.1.1.1 C.1.1.2.1 dL_law_551 rfl (lv_at hl 2 rfl) ?_
  refine la_rd (k := 1) C hw1.2.2.1 hl hi (by decide) dL_law_552 dL_law_553 dL_law_555 dL_law_556 dL_law_557 ?_
  refine la_rd (k := 2) C hw1.2.2.1 hl hi (by decide) dL_law_558 dL_law_559 dL_law_561 dL_law_562 dL_law_563 ?_
  refine la_call C hcs hl.1 mX10_hums [.int (xs (i + 1)), .int (xs (i + 2))] [.int v] rfl hq cvX10_hums (fm_t7 122 rfl rfl) sh_76 rfl rfl (Nat.le_of_ble_eq_true rfl) (Nat.le_of_ble_eq_true rfl) dL_law_564 hw1 (fun r M2 H2 locs2 hq2 hw2 => ?_)
  obtain ⟨rfl, hI2⟩ := hq2
  exact lv_icmp_eq (tgt := 1570) C.1.1.1 C.1.1.2.1 dL_law_567 (by decide) (fun _ => K M2 H2 locs2 hI2 hw2) (fun h => absurd rfl h)
theorem arm_struck (C : la_ok p s m c b L xs D ad ca A) (hi : i + 6 ≤ L) (hI : Inv M M) (hw : la_w s D ad ca A qo f M H locs) (hl : lv_has ls 7 (la_L b ad qo i)) (hcs : cells ≤ room_1.cells ∧ slots ≤ room_1.slots) (K : ∀ (M2 : fm_M) (H1 : Heap) (locs1 : List Loc), Inv M2 M2 → la_w s D ad ca A qo f M2 H1 locs1 → W p l e room_1 s m #[.ref b] below meth c H1 locs1 cells slots Qs (F0 m 1570 ls [])) : W p l e room_1 s m #[.ref b] below meth c H locs cells slots Qs (F0 m 572 ls []) := by
  refine lv_aload_n C.1.1.1 C.1.1.2.1 dL_law_572 rfl (lv_at hl 1 rfl) ?_
  refine la_rd (k := 1) C hw.2.2.1 hl hi (by decide) dL_law_573 dL_law_574 dL_law_576 dL_law_577 dL_law_578 ?_
  refine la_rd (k := 2) C hw.2.2.1 hl hi (by decide) dL_law_579 dL_law_580 dL_law_582 dL_law_583 dL_law_584 ?_
  refine la_call C hcs hl.1 mX9_struck [.int (xs (i + 1)), .int (xs (i + 2))] [] rfl (call_struck (xs (i + 1)) (xs (i + 2)) hI) cvX9_struck (fm_t4 49 rfl rfl) sh_0 rfl rfl (Nat.le_of_ble_eq_true rfl) (Nat.le_of_ble_eq_true rfl) dL_law_585 hw (fun r M1 H1 locs1 hq hw1 => ?_)
  obtain ⟨v, rfl, hq⟩ := hq
  refine lv_aload_n C.1.1.1 C.1.1.2.1 dL_law_588 rfl (lv_at hl 2 rfl) ?_
  refine la_rd (k := 1) C hw1.2.2.1 hl hi (by decide) dL_law_589 dL_law_590 dL_law_592 dL_law_593 dL_law_594 ?_
  refine la_rd (k := 2) C hw1.2.2.1 hl hi (by decide) dL_law_595 dL_law_596 dL_law_598 dL_law_599 dL_law_600 ?_
  refine la_call C hcs hl.1 mX10_struck [.int (xs (i + 1)), .int (xs (i + 2))] [.int v] rfl hq cvX10_struck (fm_t7 180 rfl rfl) sh_76 rfl rfl (Nat.le_of_ble_eq_true rfl) (Nat.le_of_ble_eq_true rfl) dL_law_601 hw1 (fun r M2 H2 locs2 hq2 hw2 => ?_)
  obtain ⟨rfl, hI2⟩ := hq2
  exact lv_icmp_eq (tgt := 1570) C.1.1.1 C.1.1.2.1 dL_law_604 (by decide) (fun _ => K M2 H2 locs2 hI2 hw2) (fun h => absurd rfl h)
theorem arm_law (C : la_ok p s m c b L xs D ad ca A) (hi : i + 6 ≤ L) (hI : Inv M M) (hw : la_w s D ad ca A qo f M H locs) (hl : lv_has ls 7 (la_L b ad qo i)) (hcs : cells ≤ room_1.cells ∧ slots ≤ room_1.slots) (K : ∀ (M2 : fm_M) (H1 : Heap) (locs1 : List Loc), Inv M2 M2 → la_w s D ad ca A qo f M2 H1 locs1 → W p l e room_1 s m #[.ref b] below meth c H1 locs1 cells slots Qs (F0 m 1570 ls [])) : W p l e room_1 s m #[.ref b] below meth c H locs cells slots Qs (F0 m 609 ls []) := by
  refine lv_aload_n C.1.1.1 C.1.1.2.1 dL_law_609 rfl (lv_at hl 1 rfl) ?_
  refine la_rd (k := 1) C hw.2.2.1 hl hi (by decide) dL_law_610 dL_law_611 dL_law_613 dL_law_614 dL_law_615 ?_
  refine la_rd (k := 2) C hw.2.2.1 hl hi (by decide) dL_law_616 dL_law_617 dL_law_619 dL_law_620 dL_law_621 ?_
  refine la_rd (k := 3) C hw.2.2.1 hl hi (by decide) dL_law_622 dL_law_623 dL_law_625 dL_law_626 dL_law_627 ?_
  refine la_call C hcs hl.1 mX9_law [.int (xs (i + 1)), .int (xs (i + 2)), .int (xs (i + 3))] [] rfl (call_law (xs (i + 1)) (xs (i + 2)) (xs (i + 3)) hI) cvX9_law (fm_t4 75 rfl rfl) sh_0 rfl rfl (Nat.le_of_ble_eq_true rfl) (Nat.le_of_ble_eq_true rfl) dL_law_628 hw (fun r M1 H1 locs1 hq hw1 => ?_)
  obtain ⟨v, rfl, hq⟩ := hq
  refine lv_aload_n C.1.1.1 C.1.1.2.1 dL_law_631 rfl (lv_at hl 2 rfl) ?_
  refine la_rd (k := 1) C hw1.2.2.1 hl hi (by decide) dL_law_632 dL_law_633 dL_law_635 dL_law_636 dL_law_637 ?_
  refine la_rd (k := 2) C hw1.2.2.1 hl hi (by decide) dL_law_638 dL_law_639 dL_law_641 dL_law_642 dL_law_643 ?_
  refine la_rd (k := 3) C hw1.2.2.1 hl hi (by decide) dL_law_644 dL_law_645 dL_law_647 dL_law_648 dL_law_649 ?_
  refine la_call C hcs hl.1 mX10_law [.int (xs (i + 1)), .int (xs (i + 2)), .int (xs (i + 3))] [.long v] rfl hq cvX10_law (fm_t7 192 rfl rfl) sh_76 rfl rfl (Nat.le_of_ble_eq_true rfl) (Nat.le_of_ble_eq_true rfl) dL_law_650 hw1 (fun r M2 H2 locs2 hq2 hw2 => ?_)
  obtain ⟨rfl, hI2⟩ := hq2
  refine W.lcmp C.1.1.1 C.1.1.2.1 dL_law_653 ?_
  exact lv_if_eq (tgt := 1570) C.1.1.1 C.1.1.2.1 dL_law_654 (by decide) (fun _ => K M2 H2 locs2 hI2 hw2) (fun h => absurd (la_cmp v) h)
theorem arm_touch (C : la_ok p s m c b L xs D ad ca A) (hi : i + 6 ≤ L) (hI : Inv M M) (hw : la_w s D ad ca A qo f M H locs) (hl : lv_has ls 7 (la_L b ad qo i)) (hcs : cells ≤ room_1.cells ∧ slots ≤ room_1.slots) (K : ∀ (M2 : fm_M) (H1 : Heap) (locs1 : List Loc), Inv M2 M2 → la_w s D ad ca A qo f M2 H1 locs1 → W p l e room_1 s m #[.ref b] below meth c H1 locs1 cells slots Qs (F0 m 1570 ls [])) : W p l e room_1 s m #[.ref b] below meth c H locs cells slots Qs (F0 m 659 ls []) := by
  refine lv_aload_n C.1.1.1 C.1.1.2.1 dL_law_659 rfl (lv_at hl 1 rfl) ?_
  refine la_rd (k := 1) C hw.2.2.1 hl hi (by decide) dL_law_660 dL_law_661 dL_law_663 dL_law_664 dL_law_665 ?_
  refine la_rd (k := 2) C hw.2.2.1 hl hi (by decide) dL_law_666 dL_law_667 dL_law_669 dL_law_670 dL_law_671 ?_
  refine la_bl (t7 := 679) (t8 := 680) C rfl rfl dL_law_672 dL_law_675 dL_law_676 dL_law_679 ?_
  refine la_call C hcs hl.1 mX9_touch [.int (xs (i + 1)), .int (la_b (xs (i + 2)))] [] rfl (call_touch (xs (i + 1)) (la_b (xs (i + 2))) hI) cvX9_touch (fm_t4 86 rfl rfl) sh_0 rfl rfl (Nat.le_of_ble_eq_true rfl) (Nat.le_of_ble_eq_true rfl) dL_law_680 hw (fun r M1 H1 locs1 hq hw1 => ?_)
  obtain ⟨v, rfl, hq⟩ := hq
  refine lv_aload_n C.1.1.1 C.1.1.2.1 dL_law_683 rfl (lv_at hl 2 rfl) ?_
  refine la_rd (k := 1) C hw1.2.2.1 hl hi (by decide) dL_law_684 dL_law_685 dL_law_687 dL_law_688 dL_law_689 ?_
  refine la_rd (k := 2) C hw1.2.2.1 hl hi (by decide) dL_law_690 dL_law_691 dL_law_693 dL_law_694 dL_law_695 ?_
  refine la_bl (t7 := 703) (t8 := 704) C rfl rfl dL_law_696 dL_law_699 dL_law_700 dL_law_703 ?_
  refine la_call C hcs hl.1 mX10_touch [.int (xs (i + 1)), .int (la_b (xs (i + 2)))] [.int v] rfl hq cvX10_touch (fm_t7 201 rfl rfl) sh_76 rfl rfl (Nat.le_of_ble_eq_true rfl) (Nat.le_of_ble_eq_true rfl) dL_law_704 hw1 (fun r M2 H2 locs2 hq2 hw2 => ?_)
  obtain ⟨rfl, hI2⟩ := hq2
  exact lv_icmp_eq (tgt := 1570) C.1.1.1 C.1.1.2.1 dL_law_707 (by decide) (fun _ => K M2 H2 locs2 hI2 hw2) (fun h => absurd rfl h)
theorem arm_file (C : la_ok p s m c b L xs D ad ca A) (hi : i + 6 ≤ L) (hI : Inv M M) (hw : la_w s D ad ca A qo f M H locs) (hl : lv_has ls 7 (la_L b ad qo i)) (hcs : cells ≤ room_1.cells ∧ slots ≤ room_1.slots) (K : ∀ (M2 : fm_M) (H1 : Heap) (locs1 : List Loc), Inv M2 M2 → la_w s D ad ca A qo f M2 H1 locs1 → W p l e room_1 s m #[.ref b] below meth c H1 locs1 cells slots Qs (F0 m 1570 ls [])) : W p l e room_1 s m #[.ref b] below meth c H locs cells slots Qs (F0 m 712 ls []) := by
  refine lv_aload_n C.1.1.1 C.1.1.2.1 dL_law_712 rfl (lv_at hl 1 rfl) ?_
  refine la_rd (k := 1) C hw.2.2.1 hl hi (by decide) dL_law_713 dL_law_714 dL_law_716 dL_law_717 dL_law_718 ?_
  refine la_rd (k := 2) C hw.2.2.1 hl hi (by decide) dL_law_719 dL_law_720 dL_law_722 dL_law_723 dL_law_724 ?_
  refine la_call C hcs hl.1 mX9_file [.int (xs (i + 1)), .int (xs (i + 2))] [] rfl (call_file (xs (i + 1)) (xs (i + 2)) hI) cvX9_file (fm_t4 99 rfl rfl) sh_0 rfl rfl (Nat.le_of_ble_eq_true rfl) (Nat.le_of_ble_eq_true rfl) dL_law_725 hw (fun r M1 H1 locs1 hq hw1 => ?_)
  obtain ⟨v, rfl, hq⟩ := hq
  refine lv_aload_n C.1.1.1 C.1.1.2.1 dL_law_728 rfl (lv_at hl 2 rfl) ?_
  refine la_rd (k := 1) C hw1.2.2.1 hl hi (by decide) dL_law_729 dL_law_730 dL_law_732 dL_law_733 dL_law_734 ?_
  refine la_rd (k := 2) C hw1.2.2.1 hl hi (by decide) dL_law_735 dL_law_736 dL_law_738 dL_law_739 dL_law_740 ?_
  refine la_call C hcs hl.1 mX10_file [.int (xs (i + 1)), .int (xs (i + 2))] [.int v] rfl hq cvX10_file (fm_t7 213 rfl rfl) sh_76 rfl rfl (Nat.le_of_ble_eq_true rfl) (Nat.le_of_ble_eq_true rfl) dL_law_741 hw1 (fun r M2 H2 locs2 hq2 hw2 => ?_)
  obtain ⟨rfl, hI2⟩ := hq2
  exact lv_icmp_eq (tgt := 1570) C.1.1.1 C.1.1.2.1 dL_law_744 (by decide) (fun _ => K M2 H2 locs2 hI2 hw2) (fun h => absurd rfl h)
theorem arm_put (C : la_ok p s m c b L xs D ad ca A) (hi : i + 6 ≤ L) (hI : Inv M M) (hw : la_w s D ad ca A qo f M H locs) (hl : lv_has ls 7 (la_L b ad qo i)) (hcs : cells ≤ room_1.cells ∧ slots ≤ room_1.slots) (K : ∀ (M2 : fm_M) (H1 : Heap) (locs1 : List Loc), Inv M2 M2 → la_w s D ad ca A qo f M2 H1 locs1 → W p l e room_1 s m #[.ref b] below meth c H1 locs1 cells slots Qs (F0 m 1570 ls [])) : W p l e room_1 s m #[.ref b] below meth c H locs cells slots Qs (F0 m 749 ls []) := by
  refine lv_aload_n C.1.1.1 C.1.1.2.1 dL_law_749 rfl (lv_at hl 1 rfl) ?_
  refine la_rd (k := 1) C hw.2.2.1 hl hi (by decide) dL_law_750 dL_law_751 dL_law_753 dL_law_754 dL_law_755 ?_
  refine la_rd (k := 2) C hw.2.2.1 hl hi (by decide) dL_law_756 dL_law_757 dL_law_759 dL_law_760 dL_law_761 ?_
  refine la_call C hcs hl.1 mX9_put [.int (xs (i + 1)), .int (xs (i + 2))] [] rfl (call_put (xs (i + 1)) (xs (i + 2)) hI) cvX9_put (fm_t4 108 rfl rfl) sh_0 rfl rfl (Nat.le_of_ble_eq_true rfl) (Nat.le_of_ble_eq_true rfl) dL_law_762 hw (fun r M1 H1 locs1 hq hw1 => ?_)
  obtain ⟨v, rfl, hq⟩ := hq
  refine lv_aload_n C.1.1.1 C.1.1.2.1 dL_law_765 rfl (lv_at hl 2 rfl) ?_
  refine la_rd (k := 1) C hw1.2.2.1 hl hi (by decide) dL_law_766 dL_law_767 dL_law_769 dL_law_770 dL_law_771 ?_
  refine la_rd (k := 2) C hw1.2.2.1 hl hi (by decide) dL_law_772 dL_law_773 dL_law_775 dL_law_776 dL_law_777 ?_
  refine la_call C hcs hl.1 mX10_put [.int (xs (i + 1)), .int (xs (i + 2))] [.int v] rfl hq cvX10_put (fm_t7 217 rfl rfl) sh_76 rfl rfl (Nat.le_of_ble_eq_true rfl) (Nat.le_of_ble_eq_true rfl) dL_law_778 hw1 (fun r M2 H2 locs2 hq2 hw2 => ?_)
  obtain ⟨rfl, hI2⟩ := hq2
  exact lv_icmp_eq (tgt := 1570) C.1.1.1 C.1.1.2.1 dL_law_781 (by decide) (fun _ => K M2 H2 locs2 hI2 hw2) (fun h => absurd rfl h)
theorem arm_earn (C : la_ok p s m c b L xs D ad ca A) (hi : i + 6 ≤ L) (hI : Inv M M) (hw : la_w s D ad ca A qo f M H locs) (hl : lv_has ls 7 (la_L b ad qo i)) (hcs : cells ≤ room_1.cells ∧ slots ≤ room_1.slots) (K : ∀ (M2 : fm_M) (H1 : Heap) (locs1 : List Loc), Inv M2 M2 → la_w s D ad ca A qo f M2 H1 locs1 → W p l e room_1 s m #[.ref b] below meth c H1 locs1 cells slots Qs (F0 m 1570 ls [])) : W p l e room_1 s m #[.ref b] below meth c H locs cells slots Qs (F0 m 786 ls []) := by
  refine lv_aload_n C.1.1.1 C.1.1.2.1 dL_law_786 rfl (lv_at hl 1 rfl) ?_
  refine la_rd (k := 1) C hw.2.2.1 hl hi (by decide) dL_law_787 dL_law_788 dL_law_790 dL_law_791 dL_law_792 ?_
  refine la_call C hcs hl.1 mX9_earn [.int (xs (i + 1))] [] rfl (call_earn (xs (i + 1)) hI) cvX9_earn (fm_t4 116 rfl rfl) sh_0 rfl rfl (Nat.le_of_ble_eq_true rfl) (Nat.le_of_ble_eq_true rfl) dL_law_793 hw (fun r M1 H1 locs1 hq hw1 => ?_)
  obtain ⟨v, rfl, hq⟩ := hq
  refine lv_aload_n C.1.1.1 C.1.1.2.1 dL_law_796 rfl (lv_at hl 2 rfl) ?_
  refine la_rd (k := 1) C hw1.2.2.1 hl hi (by decide) dL_law_797 dL_law_798 dL_law_800 dL_law_801 dL_law_802 ?_
  refine la_call C hcs hl.1 mX10_earn [.int (xs (i + 1))] [.int v] rfl hq cvX10_earn (fm_t7 221 rfl rfl) sh_76 rfl rfl (Nat.le_of_ble_eq_true rfl) (Nat.le_of_ble_eq_true rfl) dL_law_803 hw1 (fun r M2 H2 locs2 hq2 hw2 => ?_)
  obtain ⟨rfl, hI2⟩ := hq2
  exact lv_icmp_eq (tgt := 1570) C.1.1.1 C.1.1.2.1 dL_law_806 (by decide) (fun _ => K M2 H2 locs2 hI2 hw2) (fun h => absurd rfl h)
theorem arm_go (C : la_ok p s m c b L xs D ad ca A) (hi : i + 6 ≤ L) (hI : Inv M M) (hw : la_w s D ad ca A qo f M H locs) (hl : lv_has ls 7 (la_L b ad qo i)) (hcs : cells ≤ room_1.cells ∧ slots ≤ room_1.slots) (K : ∀ (M2 : fm_M) (H1 : Heap) (locs1 : List Loc), Inv M2 M2 → la_w s D ad ca A qo f M2 H1 locs1 → W p l e room_1 s m #[.ref b] below meth c H1 locs1 cells slots Qs (F0 m 1570 ls [])) : W p l e room_1 s m #[.ref b] below meth c H locs cells slots Qs (F0 m 811 ls []) := by
  refine lv_aload_n C.1.1.1 C.1.1.2.1 dL_law_811 rfl (lv_at hl 1 rfl) ?_
  refine la_rd (k := 1) C hw.2.2.1 hl hi (by decide) dL_law_812 dL_law_813 dL_law_815 dL_law_816 dL_law_817 ?_
  refine la_call C hcs hl.1 mX9_go [.int (xs (i + 1))] [] rfl (call_go (xs (i + 1)) hI) cvX9_go (fm_t4 120 rfl rfl) sh_0 rfl rfl (Nat.le_of_ble_eq_true rfl) (Nat.le_of_ble_eq_true rfl) dL_law_818 hw (fun r M1 H1 locs1 hq hw1 => ?_)
  obtain ⟨v, rfl, hq⟩ := hq
  refine lv_aload_n C.1.1.1 C.1.1.2.1 dL_law_821 rfl (lv_at hl 2 rfl) ?_
  refine la_rd (k := 1) C hw1.2.2.1 hl hi (by decide) dL_law_822 dL_law_823 dL_law_825 dL_law_826 dL_law_827 ?_
  refine la_call C hcs hl.1 mX10_go [.int (xs (i + 1))] [.int v] rfl hq cvX10_go (fm_t7 225 rfl rfl) sh_76 rfl rfl (Nat.le_of_ble_eq_true rfl) (Nat.le_of_ble_eq_true rfl) dL_law_828 hw1 (fun r M2 H2 locs2 hq2 hw2 => ?_)
  obtain ⟨rfl, hI2⟩ := hq2
  exact lv_icmp_eq (tgt := 1570) C.1.1.1 C.1.1.2.1 dL_law_831 (by decide) (fun _ => K M2 H2 locs2 hI2 hw2) (fun h => absurd rfl h)
theorem arm_ahead (C : la_ok p s m c b L xs D ad ca A) (hi : i + 6 ≤ L) (hI : Inv M M) (hw : la_w s D ad ca A qo f M H locs) (hl : lv_has ls 7 (la_L b ad qo i)) (hcs : cells ≤ room_1.cells ∧ slots ≤ room_1.slots) (K : ∀ (M2 : fm_M) (H1 : Heap) (locs1 : List Loc), Inv M2 M2 → la_w s D ad ca A qo f M2 H1 locs1 → W p l e room_1 s m #[.ref b] below meth c H1 locs1 cells slots Qs (F0 m 1570 ls [])) : W p l e room_1 s m #[.ref b] below meth c H locs cells slots Qs (F0 m 836 ls []) := by
  refine lv_aload_n C.1.1.1 C.1.1.2.1 dL_law_836 rfl (lv_at hl 1 rfl) ?_
  refine la_rd (k := 1) C hw.2.2.1 hl hi (by decide) dL_law_837 dL_law_838 dL_law_840 dL_law_841 dL_law_842 ?_
  refine la_rd (k := 2) C hw.2.2.1 hl hi (by decide) dL_law_843 dL_law_844 dL_law_846 dL_law_847 dL_law_848 ?_
  refine la_rd (k := 3) C hw.2.2.1 hl hi (by decide) dL_law_849 dL_law_850 dL_law_852 dL_law_853 dL_law_854 ?_
  refine la_call C hcs hl.1 mX9_ahead [.int (xs (i + 1)), .int (xs (i + 2)), .int (xs (i + 3))] [] rfl (call_ahead (xs (i + 1)) (xs (i + 2)) (xs (i + 3)) hI) cvX9_ahead (fm_t4 140 rfl rfl) sh_0 rfl rfl (Nat.le_of_ble_eq_true rfl) (Nat.le_of_ble_eq_true rfl) dL_law_855 hw (fun r M1 H1 locs1 hq hw1 => ?_)
  obtain ⟨v, rfl, hq⟩ := hq
  refine lv_aload_n C.1.1.1 C.1.1.2.1 dL_law_858 rfl (lv_at hl 2 rfl) ?_
  refine la_rd (k := 1) C hw1.2.2.1 hl hi (by decide) dL_law_859 dL_law_860 dL_law_862 dL_law_863 dL_law_864 ?_
  refine la_rd (k := 2) C hw1.2.2.1 hl hi (by decide) dL_law_865 dL_law_866 dL_law_868 dL_law_869 dL_law_870 ?_
  refine la_rd (k := 3) C hw1.2.2.1 hl hi (by decide) dL_law_871 dL_law_872 dL_law_874 dL_law_875 dL_law_876 ?_
  refine la_call C hcs hl.1 mX10_ahead [.int (xs (i + 1)), .int (xs (i + 2)), .int (xs (i + 3))] [.int v] rfl hq cvX10_ahead (fm_t7 237 rfl rfl) sh_76 rfl rfl (Nat.le_of_ble_eq_true rfl) (Nat.le_of_ble_eq_true rfl) dL_law_877 hw1 (fun r M2 H2 locs2 hq2 hw2 => ?_)
  obtain ⟨rfl, hI2⟩ := hq2
  exact lv_icmp_eq (tgt := 1570) C.1.1.1 C.1.1.2.1 dL_law_880 (by decide) (fun _ => K M2 H2 locs2 hI2 hw2) (fun h => absurd rfl h)
theorem arm_best (C : la_ok p s m c b L xs D ad ca A) (hi : i + 6 ≤ L) (hI : Inv M M) (hw : la_w s D ad ca A qo f M H locs) (hl : lv_has ls 7 (la_L b ad qo i)) (hcs : cells ≤ room_1.cells ∧ slots ≤ room_1.slots) (K : ∀ (M2 : fm_M) (H1 : Heap) (locs1 : List Loc), Inv M2 M2 → la_w s D ad ca A qo f M2 H1 locs1 → W p l e room_1 s m #[.ref b] below meth c H1 locs1 cells slots Qs (F0 m 1570 ls [])) : W p l e room_1 s m #[.ref b] below meth c H locs cells slots Qs (F0 m 885 ls []) := by
  refine lv_aload_n C.1.1.1 C.1.1.2.1 dL_law_885 rfl (lv_at hl 1 rfl) ?_
  refine la_rd (k := 1) C hw.2.2.1 hl hi (by decide) dL_law_886 dL_law_887 dL_law_889 dL_law_890 dL_law_891 ?_
  refine la_call C hcs hl.1 mX9_best [.int (xs (i + 1))] [] rfl (call_best (xs (i + 1)) hI) cvX9_best (fm_t4 156 rfl rfl) sh_0 rfl rfl (Nat.le_of_ble_eq_true rfl) (Nat.le_of_ble_eq_true rfl) dL_law_892 hw (fun r M1 H1 locs1 hq hw1 => ?_)
  obtain ⟨v, rfl, hq⟩ := hq
  refine lv_aload_n C.1.1.1 C.1.1.2.1 dL_law_895 rfl (lv_at hl 2 rfl) ?_
  refine la_rd (k := 1) C hw1.2.2.1 hl hi (by decide) dL_law_896 dL_law_897 dL_law_899 dL_law_900 dL_law_901 ?_
  refine la_call C hcs hl.1 mX10_best [.int (xs (i + 1))] [.int v] rfl hq cvX10_best (fm_t8 13 rfl rfl) sh_76 rfl rfl (Nat.le_of_ble_eq_true rfl) (Nat.le_of_ble_eq_true rfl) dL_law_902 hw1 (fun r M2 H2 locs2 hq2 hw2 => ?_)
  obtain ⟨rfl, hI2⟩ := hq2
  exact lv_icmp_eq (tgt := 1570) C.1.1.1 C.1.1.2.1 dL_law_905 (by decide) (fun _ => K M2 H2 locs2 hI2 hw2) (fun h => absurd rfl h)
theorem arm_open (C : la_ok p s m c b L xs D ad ca A) (hi : i + 6 ≤ L) (hI : Inv M M) (hw : la_w s D ad ca A qo f M H locs) (hl : lv_has ls 7 (la_L b ad qo i)) (hcs : cells ≤ room_1.cells ∧ slots ≤ room_1.slots) (K : ∀ (M2 : fm_M) (H1 : Heap) (locs1 : List Loc), Inv M2 M2 → la_w s D ad ca A qo f M2 H1 locs1 → W p l e room_1 s m #[.ref b] below meth c H1 locs1 cells slots Qs (F0 m 1570 ls [])) : W p l e room_1 s m #[.ref b] below meth c H locs cells slots Qs (F0 m 910 ls []) := by
  refine lv_aload_n C.1.1.1 C.1.1.2.1 dL_law_910 rfl (lv_at hl 1 rfl) ?_
  refine la_call C hcs hl.1 mX9_open [] [] rfl (call_open  hI) cvX9_open (fm_t4 160 rfl rfl) sh_0 rfl rfl (Nat.le_of_ble_eq_true rfl) (Nat.le_of_ble_eq_true rfl) dL_law_911 hw (fun r M1 H1 locs1 hq hw1 => ?_)
  obtain ⟨v, rfl, hq⟩ := hq
  refine lv_aload_n C.1.1.1 C.1.1.2.1 dL_law_914 rfl (lv_at hl 2 rfl) ?_
  refine la_call C hcs hl.1 mX10_open [] [.int v] rfl hq cvX10_open (fm_t8 17 rfl rfl) sh_76 rfl rfl (Nat.le_of_ble_eq_true rfl) (Nat.le_of_ble_eq_true rfl) dL_law_915 hw1 (fun r M2 H2 locs2 hq2 hw2 => ?_)
  obtain ⟨rfl, hI2⟩ := hq2
  exact lv_icmp_eq (tgt := 1570) C.1.1.1 C.1.1.2.1 dL_law_918 (by decide) (fun _ => K M2 H2 locs2 hI2 hw2) (fun h => absurd rfl h)
theorem arm_bribe (C : la_ok p s m c b L xs D ad ca A) (hi : i + 6 ≤ L) (hI : Inv M M) (hw : la_w s D ad ca A qo f M H locs) (hl : lv_has ls 7 (la_L b ad qo i)) (hcs : cells ≤ room_1.cells ∧ slots ≤ room_1.slots) (K : ∀ (M2 : fm_M) (H1 : Heap) (locs1 : List Loc), Inv M2 M2 → la_w s D ad ca A qo f M2 H1 locs1 → W p l e room_1 s m #[.ref b] below meth c H1 locs1 cells slots Qs (F0 m 1570 ls [])) : W p l e room_1 s m #[.ref b] below meth c H locs cells slots Qs (F0 m 923 ls []) := by
  refine lv_aload_n C.1.1.1 C.1.1.2.1 dL_law_923 rfl (lv_at hl 1 rfl) ?_
  refine la_rd (k := 1) C hw.2.2.1 hl hi (by decide) dL_law_924 dL_law_925 dL_law_927 dL_law_928 dL_law_929 ?_
  refine la_rd (k := 2) C hw.2.2.1 hl hi (by decide) dL_law_930 dL_law_931 dL_law_933 dL_law_934 dL_law_935 ?_
  refine la_call C hcs hl.1 mX9_bribe [.int (xs (i + 1)), .int (xs (i + 2))] [] rfl (call_bribe (xs (i + 1)) (xs (i + 2)) hI) cvX9_bribe (fm_t4 164 rfl rfl) sh_0 rfl rfl (Nat.le_of_ble_eq_true rfl) (Nat.le_of_ble_eq_true rfl) dL_law_936 hw (fun r M1 H1 locs1 hq hw1 => ?_)
  obtain ⟨v, rfl, hq⟩ := hq
  refine lv_aload_n C.1.1.1 C.1.1.2.1 dL_law_939 rfl (lv_at hl 2 rfl) ?_
  refine la_rd (k := 1) C hw1.2.2.1 hl hi (by decide) dL_law_940 dL_law_941 dL_law_943 dL_law_944 dL_law_945 ?_
  refine la_rd (k := 2) C hw1.2.2.1 hl hi (by decide) dL_law_946 dL_law_947 dL_law_949 dL_law_950 dL_law_951 ?_
  refine la_call C hcs hl.1 mX10_bribe [.int (xs (i + 1)), .int (xs (i + 2))] [.int v] rfl hq cvX10_bribe (fm_t8 21 rfl rfl) sh_76 rfl rfl (Nat.le_of_ble_eq_true rfl) (Nat.le_of_ble_eq_true rfl) dL_law_952 hw1 (fun r M2 H2 locs2 hq2 hw2 => ?_)
  obtain ⟨rfl, hI2⟩ := hq2
  exact lv_icmp_eq (tgt := 1570) C.1.1.1 C.1.1.2.1 dL_law_955 (by decide) (fun _ => K M2 H2 locs2 hI2 hw2) (fun h => absurd rfl h)
theorem arm_swing (C : la_ok p s m c b L xs D ad ca A) (hi : i + 6 ≤ L) (hI : Inv M M) (hw : la_w s D ad ca A qo f M H locs) (hl : lv_has ls 7 (la_L b ad qo i)) (hcs : cells ≤ room_1.cells ∧ slots ≤ room_1.slots) (K : ∀ (M2 : fm_M) (H1 : Heap) (locs1 : List Loc), Inv M2 M2 → la_w s D ad ca A qo f M2 H1 locs1 → W p l e room_1 s m #[.ref b] below meth c H1 locs1 cells slots Qs (F0 m 1570 ls [])) : W p l e room_1 s m #[.ref b] below meth c H locs cells slots Qs (F0 m 960 ls []) := by
  refine lv_aload_n C.1.1.1 C.1.1.2.1 dL_law_960 rfl (lv_at hl 1 rfl) ?_
  refine la_rd (k := 1) C hw.2.2.1 hl hi (by decide) dL_law_961 dL_law_962 dL_law_964 dL_law_965 dL_law_966 ?_
  refine la_rd (k := 2) C hw.2.2.1 hl hi (by decide) dL_law_967 dL_law_968 dL_law_970 dL_law_971 dL_law_972 ?_
  refine la_call C hcs hl.1 mX9_swing [.int (xs (i + 1)), .int (xs (i + 2))] [] rfl (call_swing (xs (i + 1)) (xs (i + 2)) hI) cvX9_swing (fm_t4 199 rfl rfl) sh_0 rfl rfl (Nat.le_of_ble_eq_true rfl) (Nat.le_of_ble_eq_true rfl) dL_law_973 hw (fun r M1 H1 locs1 hq hw1 => ?_)
  obtain ⟨v, rfl, hq⟩ := hq
  refine lv_aload_n C.1.1.1 C.1.1.2.1 dL_law_976 rfl (lv_at hl 2 rfl) ?_
  refine la_rd (k := 1) C hw1.2.2.1 hl hi (by decide) dL_law_977 dL_law_978 dL_law_980 dL_law_981 dL_law_982 ?_
  refine la_rd (k := 2) C hw1.2.2.1 hl hi (by decide) dL_law_983 dL_law_984 dL_law_986 dL_law_987 dL_law_988 ?_
  refine la_call C hcs hl.1 mX10_swing [.int (xs (i + 1)), .int (xs (i + 2))] [.int v] rfl hq cvX10_swing (fm_t8 33 rfl rfl) sh_76 rfl rfl (Nat.le_of_ble_eq_true rfl) (Nat.le_of_ble_eq_true rfl) dL_law_989 hw1 (fun r M2 H2 locs2 hq2 hw2 => ?_)
  obtain ⟨rfl, hI2⟩ := hq2
  exact lv_icmp_eq (tgt := 1570) C.1.1.1 C.1.1.2.1 dL_law_992 (by decide) (fun _ => K M2 H2 locs2 hI2 hw2) (fun h => absurd rfl h)
theorem arm_censure (C : la_ok p s m c b L xs D ad ca A) (hi : i + 6 ≤ L) (hI : Inv M M) (hw : la_w s D ad ca A qo f M H locs) (hl : lv_has ls 7 (la_L b ad qo i)) (hcs : cells ≤ room_1.cells ∧ slots ≤ room_1.slots) (K : ∀ (M2 : fm_M) (H1 : Heap) (locs1 : List Loc), Inv M2 M2 → la_w s D ad ca A qo f M2 H1 locs1 → W p l e room_1 s m #[.ref b] below meth c H1 locs1 cells slots Qs (F0 m 1570 ls [])) : W p l e room_1 s m #[.ref b] below meth c H locs cells slots Qs (F0 m 997 ls []) := by
  refine lv_aload_n C.1.1.1 C.1.1.2.1 dL_law_997 rfl (lv_at hl 1 rfl) ?_
  refine la_rd (k := 1) C hw.2.2.1 hl hi (by decide) dL_law_998 dL_law_999 dL_law_1001 dL_law_1002 dL_law_1003 ?_
  refine la_call C hcs hl.1 mX9_censure [.int (xs (i + 1))] [] rfl (call_censure (xs (i + 1)) hI) cvX9_censure (fm_t4 211 rfl rfl) sh_0 rfl rfl (Nat.le_of_ble_eq_true rfl) (Nat.le_of_ble_eq_true rfl) dL_law_1004 hw (fun r M1 H1 locs1 hq hw1 => ?_)
  obtain ⟨v, rfl, hq⟩ := hq
  refine lv_aload_n C.1.1.1 C.1.1.2.1 dL_law_1007 rfl (lv_at hl 2 rfl) ?_
  refine la_rd (k := 1) C hw1.2.2.1 hl hi (by decide) dL_law_1008 dL_law_1009 dL_law_1011 dL_law_1012 dL_law_1013 ?_
  refine la_call C hcs hl.1 mX10_censure [.int (xs (i + 1))] [.int v] rfl hq cvX10_censure (fm_t8 37 rfl rfl) sh_76 rfl rfl (Nat.le_of_ble_eq_true rfl) (Nat.le_of_ble_eq_true rfl) dL_law_1014 hw1 (fun r M2 H2 locs2 hq2 hw2 => ?_)
  obtain ⟨rfl, hI2⟩ := hq2
  exact lv_icmp_eq (tgt := 1570) C.1.1.1 C.1.1.2.1 dL_law_1017 (by decide) (fun _ => K M2 H2 locs2 hI2 hw2) (fun h => absurd rfl h)
theorem arm_party (C : la_ok p s m c b L xs D ad ca A) (hi : i + 6 ≤ L) (hI : Inv M M) (hw : la_w s D ad ca A qo f M H locs) (hl : lv_has ls 7 (la_L b ad qo i)) (hcs : cells ≤ room_1.cells ∧ slots ≤ room_1.slots) (K : ∀ (M2 : fm_M) (H1 : Heap) (locs1 : List Loc), Inv M2 M2 → la_w s D ad ca A qo f M2 H1 locs1 → W p l e room_1 s m #[.ref b] below meth c H1 locs1 cells slots Qs (F0 m 1570 ls [])) : W p l e room_1 s m #[.ref b] below meth c H locs cells slots Qs (F0 m 1022 ls []) := by
  refine lv_aload_n C.1.1.1 C.1.1.2.1 dL_law_1022 rfl (lv_at hl 1 rfl) ?_
  refine la_rd (k := 1) C hw.2.2.1 hl hi (by decide) dL_law_1023 dL_law_1024 dL_law_1026 dL_law_1027 dL_law_1028 ?_
  refine la_rd (k := 2) C hw.2.2.1 hl hi (by decide) dL_law_1029 dL_law_1030 dL_law_1032 dL_law_1033 dL_law_1034 ?_
  refine la_call C hcs hl.1 mX9_party [.int (xs (i + 1)), .int (xs (i + 2))] [] rfl (call_party (xs (i + 1)) (xs (i + 2)) hI) cvX9_party (fm_t4 222 rfl rfl) sh_0 rfl rfl (Nat.le_of_ble_eq_true rfl) (Nat.le_of_ble_eq_true rfl) dL_law_1035 hw (fun r M1 H1 locs1 hq hw1 => ?_)
  obtain ⟨v, rfl, hq⟩ := hq
  refine lv_aload_n C.1.1.1 C.1.1.2.1 dL_law_1038 rfl (lv_at hl 2 rfl) ?_
  refine la_rd (k := 1) C hw1.2.2.1 hl hi (by decide) dL_law_1039 dL_law_1040 dL_law_1042 dL_law_1043 dL_law_1044 ?_
  refine la_rd (k := 2) C hw1.2.2.1 hl hi (by decide) dL_law_1045 dL_law_1046 dL_law_1048 dL_law_1049 dL_law_1050 ?_
  refine la_call C hcs hl.1 mX10_party [.int (xs (i + 1)), .int (xs (i + 2))] [.int v] rfl hq cvX10_party (fm_t8 44 rfl rfl) sh_76 rfl rfl (Nat.le_of_ble_eq_true rfl) (Nat.le_of_ble_eq_true rfl) dL_law_1051 hw1 (fun r M2 H2 locs2 hq2 hw2 => ?_)
  obtain ⟨rfl, hI2⟩ := hq2
  exact lv_icmp_eq (tgt := 1570) C.1.1.1 C.1.1.2.1 dL_law_1054 (by decide) (fun _ => K M2 H2 locs2 hI2 hw2) (fun h => absurd rfl h)
theorem arm_rests (C : la_ok p s m c b L xs D ad ca A) (hi : i + 6 ≤ L) (hI : Inv M M) (hw : la_w s D ad ca A qo f M H locs) (hl : lv_has ls 7 (la_L b ad qo i)) (hcs : cells ≤ room_1.cells ∧ slots ≤ room_1.slots) (K : ∀ (M2 : fm_M) (H1 : Heap) (locs1 : List Loc), Inv M2 M2 → la_w s D ad ca A qo f M2 H1 locs1 → W p l e room_1 s m #[.ref b] below meth c H1 locs1 cells slots Qs (F0 m 1570 ls [])) : W p l e room_1 s m #[.ref b] below meth c H locs cells slots Qs (F0 m 1059 ls []) := by
  refine lv_aload_n C.1.1.1 C.1.1.2.1 dL_law_1059 rfl (lv_at hl 1 rfl) ?_
  refine la_rd (k := 1) C hw.2.2.1 hl hi (by decide) dL_law_1060 dL_law_1061 dL_law_1063 dL_law_1064 dL_law_1065 ?_
  refine la_rd (k := 2) C hw.2.2.1 hl hi (by decide) dL_law_1066 dL_law_1067 dL_law_1069 dL_law_1070 dL_law_1071 ?_
  refine la_rd (k := 3) C hw.2.2.1 hl hi (by decide) dL_law_1072 dL_law_1073 dL_law_1075 dL_law_1076 dL_law_1077 ?_
  refine la_call C hcs hl.1 mX9_rests [.int (xs (i + 1)), .int (xs (i + 2)), .int (xs (i + 3))] [] rfl (call_rests (xs (i + 1)) (xs (i + 2)) (xs (i + 3)) hI) cvX9_rests (fm_t4 226 rfl rfl) sh_0 rfl rfl (Nat.le_of_ble_eq_true rfl) (Nat.le_of_ble_eq_true rfl) dL_law_1078 hw (fun r M1 H1 locs1 hq hw1 => ?_)
  obtain ⟨v, rfl, hq⟩ := hq
  refine lv_aload_n C.1.1.1 C.1.1.2.1 dL_law_1081 rfl (lv_at hl 2 rfl) ?_
  refine la_rd (k := 1) C hw1.2.2.1 hl hi (by decide) dL_law_1082 dL_law_1083 dL_law_1085 dL_law_1086 dL_law_1087 ?_
  refine la_rd (k := 2) C hw1.2.2.1 hl hi (by decide) dL_law_1088 dL_law_1089 dL_law_1091 dL_law_1092 dL_law_1093 ?_
  refine la_rd (k := 3) C hw1.2.2.1 hl hi (by decide) dL_law_1094 dL_law_1095 dL_law_1097 dL_law_1098 dL_law_1099 ?_
  refine la_call C hcs hl.1 mX10_rests [.int (xs (i + 1)), .int (xs (i + 2)), .int (xs (i + 3))] [.int v] rfl hq cvX10_rests (fm_t8 48 rfl rfl) sh_76 rfl rfl (Nat.le_of_ble_eq_true rfl) (Nat.le_of_ble_eq_true rfl) dL_law_1100 hw1 (fun r M2 H2 locs2 hq2 hw2 => ?_)
  obtain ⟨rfl, hI2⟩ := hq2
  exact lv_icmp_eq (tgt := 1570) C.1.1.1 C.1.1.2.1 dL_law_1103 (by decide) (fun _ => K M2 H2 locs2 hI2 hw2) (fun h => absurd rfl h)
theorem arm_rest (C : la_ok p s m c b L xs D ad ca A) (hi : i + 6 ≤ L) (hI : Inv M M) (hw : la_w s D ad ca A qo f M H locs) (hl : lv_has ls 7 (la_L b ad qo i)) (hcs : cells ≤ room_1.cells ∧ slots ≤ room_1.slots) (K : ∀ (M2 : fm_M) (H1 : Heap) (locs1 : List Loc), Inv M2 M2 → la_w s D ad ca A qo f M2 H1 locs1 → W p l e room_1 s m #[.ref b] below meth c H1 locs1 cells slots Qs (F0 m 1570 ls [])) : W p l e room_1 s m #[.ref b] below meth c H locs cells slots Qs (F0 m 1108 ls []) := by
  refine lv_aload_n C.1.1.1 C.1.1.2.1 dL_law_1108 rfl (lv_at hl 1 rfl) ?_
  refine la_rd (k := 1) C hw.2.2.1 hl hi (by decide) dL_law_1109 dL_law_1110 dL_law_1112 dL_law_1113 dL_law_1114 ?_
  refine la_rd (k := 2) C hw.2.2.1 hl hi (by decide) dL_law_1115 dL_law_1116 dL_law_1118 dL_law_1119 dL_law_1120 ?_
  refine la_rd (k := 3) C hw.2.2.1 hl hi (by decide) dL_law_1121 dL_law_1122 dL_law_1124 dL_law_1125 dL_law_1126 ?_
  refine la_rd (k := 4) C hw.2.2.1 hl hi (by decide) dL_law_1127 dL_law_1128 dL_law_1130 dL_law_1131 dL_law_1132 ?_
  refine la_call C hcs hl.1 mX9_rest [.int (xs (i + 1)), .int (xs (i + 2)), .int (xs (i + 3)), .int (xs (i + 4))] [] rfl (call_rest (xs (i + 1)) (xs (i + 2)) (xs (i + 3)) (xs (i + 4)) hI) cvX9_rest (fm_t5 13 rfl rfl) sh_0 rfl rfl (Nat.le_of_ble_eq_true rfl) (Nat.le_of_ble_eq_true rfl) dL_law_1133 hw (fun r M1 H1 locs1 hq hw1 => ?_)
  obtain ⟨v, rfl, hq⟩ := hq
  refine lv_aload_n C.1.1.1 C.1.1.2.1 dL_law_1136 rfl (lv_at hl 2 rfl) ?_
  refine la_rd (k := 1) C hw1.2.2.1 hl hi (by decide) dL_law_1137 dL_law_1138 dL_law_1140 dL_law_1141 dL_law_1142 ?_
  refine la_rd (k := 2) C hw1.2.2.1 hl hi (by decide) dL_law_1143 dL_law_1144 dL_law_1146 dL_law_1147 dL_law_1148 ?_
  refine la_rd (k := 3) C hw1.2.2.1 hl hi (by decide) dL_law_1149 dL_law_1150 dL_law_1152 dL_law_1153 dL_law_1154 ?_
  refine la_rd (k := 4) C hw1.2.2.1 hl hi (by decide) dL_law_1155 dL_law_1156 dL_law_1158 dL_law_1159 dL_law_1160 ?_
  refine la_call C hcs hl.1 mX10_rest [.int (xs (i + 1)), .int (xs (i + 2)), .int (xs (i + 3)), .int (xs (i + 4))] [.int v] rfl hq cvX10_rest (fm_t8 71 rfl rfl) sh_76 rfl rfl (Nat.le_of_ble_eq_true rfl) (Nat.le_of_ble_eq_true rfl) dL_law_1161 hw1 (fun r M2 H2 locs2 hq2 hw2 => ?_)
  obtain ⟨rfl, hI2⟩ := hq2
  exact lv_icmp_eq (tgt := 1570) C.1.1.1 C.1.1.2.1 dL_law_1164 (by decide) (fun _ => K M2 H2 locs2 hI2 hw2) (fun h => absurd rfl h)
theorem arm_likely (C : la_ok p s m c b L xs D ad ca A) (hi : i + 6 ≤ L) (hI : Inv M M) (hw : la_w s D ad ca A qo f M H locs) (hl : lv_has ls 7 (la_L b ad qo i)) (hcs : cells ≤ room_1.cells ∧ slots ≤ room_1.slots) (K : ∀ (M2 : fm_M) (H1 : Heap) (locs1 : List Loc), Inv M2 M2 → la_w s D ad ca A qo f M2 H1 locs1 → W p l e room_1 s m #[.ref b] below meth c H1 locs1 cells slots Qs (F0 m 1570 ls [])) : W p l e room_1 s m #[.ref b] below meth c H locs cells slots Qs (F0 m 1169 ls []) := by
  refine lv_aload_n C.1.1.1 C.1.1.2.1 dL_law_1169 rfl (lv_at hl 1 rfl) ?_
  refine la_rd (k := 1) C hw.2.2.1 hl hi (by decide) dL_law_1170 dL_law_1171 dL_law_1173 dL_law_1174 dL_law_1175 ?_
  refine la_rd (k := 2) C hw.2.2.1 hl hi (by decide) dL_law_1176 dL_law_1177 dL_law_1179 dL_law_1180 dL_law_1181 ?_
  refine la_call C hcs hl.1 mX9_likely [.int (xs (i + 1)), .int (xs (i + 2))] [] rfl (call_likely (xs (i + 1)) (xs (i + 2)) hI) cvX9_likely (fm_t5 17 rfl rfl) sh_0 rfl rfl (Nat.le_of_ble_eq_true rfl) (Nat.le_of_ble_eq_true rfl) dL_law_1182 hw (fun r M1 H1 locs1 hq hw1 => ?_)
  obtain ⟨v, rfl, hq⟩ := hq
  refine lv_aload_n C.1.1.1 C.1.1.2.1 dL_law_1185 rfl (lv_at hl 2 rfl) ?_
  refine la_rd (k := 1) C hw1.2.2.1 hl hi (by decide) dL_law_1186 dL_law_1187 dL_law_1189 dL_law_1190 dL_law_1191 ?_
  refine la_rd (k := 2) C hw1.2.2.1 hl hi (by decide) dL_law_1192 dL_law_1193 dL_law_1195 dL_law_1196 dL_law_1197 ?_
  refine la_call C hcs hl.1 mX10_likely [.int (xs (i + 1)), .int (xs (i + 2))] [.int v] rfl hq cvX10_likely (fm_t8 75 rfl rfl) sh_76 rfl rfl (Nat.le_of_ble_eq_true rfl) (Nat.le_of_ble_eq_true rfl) dL_law_1198 hw1 (fun r M2 H2 locs2 hq2 hw2 => ?_)
  obtain ⟨rfl, hI2⟩ := hq2
  exact lv_icmp_eq (tgt := 1570) C.1.1.1 C.1.1.2.1 dL_law_1201 (by decide) (fun _ => K M2 H2 locs2 hI2 hw2) (fun h => absurd rfl h)
theorem arm_order (C : la_ok p s m c b L xs D ad ca A) (hi : i + 6 ≤ L) (hI : Inv M M) (hw : la_w s D ad ca A qo f M H locs) (hl : lv_has ls 7 (la_L b ad qo i)) (hcs : cells ≤ room_1.cells ∧ slots ≤ room_1.slots) (K : ∀ (M2 : fm_M) (H1 : Heap) (locs1 : List Loc), Inv M2 M2 → la_w s D ad ca A qo f M2 H1 locs1 → W p l e room_1 s m #[.ref b] below meth c H1 locs1 cells slots Qs (F0 m 1570 ls [])) : W p l e room_1 s m #[.ref b] below meth c H locs cells slots Qs (F0 m 1206 ls []) := by
  refine lv_aload_n C.1.1.1 C.1.1.2.1 dL_law_1206 rfl (lv_at hl 1 rfl) ?_
  refine la_rd (k := 1) C hw.2.2.1 hl hi (by decide) dL_law_1207 dL_law_1208 dL_law_1210 dL_law_1211 dL_law_1212 ?_
  refine la_rd (k := 2) C hw.2.2.1 hl hi (by decide) dL_law_1213 dL_law_1214 dL_law_1216 dL_law_1217 dL_law_1218 ?_
  refine la_call C hcs hl.1 mX9_order [.int (xs (i + 1)), .int (xs (i + 2))] [] rfl (call_order (xs (i + 1)) (xs (i + 2)) hI) cvX9_order (fm_t5 21 rfl rfl) sh_0 rfl rfl (Nat.le_of_ble_eq_true rfl) (Nat.le_of_ble_eq_true rfl) dL_law_1219 hw (fun r M1 H1 locs1 hq hw1 => ?_)
  obtain ⟨v, rfl, hq⟩ := hq
  refine lv_aload_n C.1.1.1 C.1.1.2.1 dL_law_1222 rfl (lv_at hl 2 rfl) ?_
  refine la_rd (k := 1) C hw1.2.2.1 hl hi (by decide) dL_law_1223 dL_law_1224 dL_law_1226 dL_law_1227 dL_law_1228 ?_
  refine la_rd (k := 2) C hw1.2.2.1 hl hi (by decide) dL_law_1229 dL_law_1230 dL_law_1232 dL_law_1233 dL_law_1234 ?_
  refine la_call C hcs hl.1 mX10_order [.int (xs (i + 1)), .int (xs (i + 2))] [.int v] rfl hq cvX10_order (fm_t8 82 rfl rfl) sh_76 rfl rfl (Nat.le_of_ble_eq_true rfl) (Nat.le_of_ble_eq_true rfl) dL_law_1235 hw1 (fun r M2 H2 locs2 hq2 hw2 => ?_)
  obtain ⟨rfl, hI2⟩ := hq2
  exact lv_icmp_eq (tgt := 1570) C.1.1.1 C.1.1.2.1 dL_law_1238 (by decide) (fun _ => K M2 H2 locs2 hI2 hw2) (fun h => absurd rfl h)
theorem arm_room (C : la_ok p s m c b L xs D ad ca A) (hi : i + 6 ≤ L) (hI : Inv M M) (hw : la_w s D ad ca A qo f M H locs) (hl : lv_has ls 7 (la_L b ad qo i)) (hcs : cells ≤ room_1.cells ∧ slots ≤ room_1.slots) (K : ∀ (M2 : fm_M) (H1 : Heap) (locs1 : List Loc), Inv M2 M2 → la_w s D ad ca A qo f M2 H1 locs1 → W p l e room_1 s m #[.ref b] below meth c H1 locs1 cells slots Qs (F0 m 1570 ls [])) : W p l e room_1 s m #[.ref b] below meth c H locs cells slots Qs (F0 m 1243 ls []) := by
  refine lv_aload_n C.1.1.1 C.1.1.2.1 dL_law_1243 rfl (lv_at hl 1 rfl) ?_
  refine la_rd (k := 1) C hw.2.2.1 hl hi (by decide) dL_law_1244 dL_law_1245 dL_law_1247 dL_law_1248 dL_law_1249 ?_
  refine la_rd (k := 2) C hw.2.2.1 hl hi (by decide) dL_law_1250 dL_law_1251 dL_law_1253 dL_law_1254 dL_law_1255 ?_
  refine la_call C hcs hl.1 mX9_room [.int (xs (i + 1)), .int (xs (i + 2))] [] rfl (call_room (xs (i + 1)) (xs (i + 2)) hI) cvX9_room (fm_t5 37 rfl rfl) sh_0 rfl rfl (Nat.le_of_ble_eq_true rfl) (Nat.le_of_ble_eq_true rfl) dL_law_1256 hw (fun r M1 H1 locs1 hq hw1 => ?_)
  obtain ⟨v, rfl, hq⟩ := hq
  refine lv_aload_n C.1.1.1 C.1.1.2.1 dL_law_1259 rfl (lv_at hl 2 rfl) ?_
  refine la_rd (k := 1) C hw1.2.2.1 hl hi (by decide) dL_law_1260 dL_law_1261 dL_law_1263 dL_law_1264 dL_law_1265 ?_
  refine la_rd (k := 2) C hw1.2.2.1 hl hi (by decide) dL_law_1266 dL_law_1267 dL_law_1269 dL_law_1270 dL_law_1271 ?_
  refine la_call C hcs hl.1 mX10_room [.int (xs (i + 1)), .int (xs (i + 2))] [.int v] rfl hq cvX10_room (fm_t8 93 rfl rfl) sh_76 rfl rfl (Nat.le_of_ble_eq_true rfl) (Nat.le_of_ble_eq_true rfl) dL_law_1272 hw1 (fun r M2 H2 locs2 hq2 hw2 => ?_)
  obtain ⟨rfl, hI2⟩ := hq2
  exact lv_icmp_eq (tgt := 1570) C.1.1.1 C.1.1.2.1 dL_law_1275 (by decide) (fun _ => K M2 H2 locs2 hI2 hw2) (fun h => absurd rfl h)
theorem arm_minute (C : la_ok p s m c b L xs D ad ca A) (hi : i + 6 ≤ L) (hI : Inv M M) (hw : la_w s D ad ca A qo f M H locs) (hl : lv_has ls 7 (la_L b ad qo i)) (hcs : cells ≤ room_1.cells ∧ slots ≤ room_1.slots) (K : ∀ (M2 : fm_M) (H1 : Heap) (locs1 : List Loc), Inv M2 M2 → la_w s D ad ca A qo f M2 H1 locs1 → W p l e room_1 s m #[.ref b] below meth c H1 locs1 cells slots Qs (F0 m 1570 ls [])) : W p l e room_1 s m #[.ref b] below meth c H locs cells slots Qs (F0 m 1280 ls []) := by
  refine lv_aload_n C.1.1.1 C.1.1.2.1 dL_law_1280 rfl (lv_at hl 1 rfl) ?_
  refine la_rd (k := 1) C hw.2.2.1 hl hi (by decide) dL_law_1281 dL_law_1282 dL_law_1284 dL_law_1285 dL_law_1286 ?_
  refine la_rd (k := 2) C hw.2.2.1 hl hi (by decide) dL_law_1287 dL_law_1288 dL_law_1290 dL_law_1291 dL_law_1292 ?_
  refine la_bl (t7 := 1300) (t8 := 1301) C rfl rfl dL_law_1293 dL_law_1296 dL_law_1297 dL_law_1300 ?_
  refine la_call C hcs hl.1 mX9_minute [.int (xs (i + 1)), .int (la_b (xs (i + 2)))] [] rfl (call_minute (xs (i + 1)) (la_b (xs (i + 2))) (la_b01 _) hI) cvX9_minute (fm_t5 46 rfl rfl) sh_0 rfl rfl (Nat.le_of_ble_eq_true rfl) (Nat.le_of_ble_eq_true rfl) dL_law_1301 hw (fun r M1 H1 locs1 hq hw1 => ?_)
  obtain ⟨v, rfl, hq⟩ := hq
  refine lv_aload_n C.1.1.1 C.1.1.2.1 dL_law_1304 rfl (lv_at hl 2 rfl) ?_
  refine la_rd (k := 1) C hw1.2.2.1 hl hi (by decide) dL_law_1305 dL_law_1306 dL_law_1308 dL_law_1309 dL_law_1310 ?_
  refine la_rd (k := 2) C hw1.2.2.1 hl hi (by decide) dL_law_1311 dL_law_1312 dL_law_1314 dL_law_1315 dL_law_1316 ?_
  refine la_bl (t7 := 1324) (t8 := 1325) C rfl rfl dL_law_1317 dL_law_1320 dL_law_1321 dL_law_1324 ?_
  refine la_call C hcs hl.1 mX10_minute [.int (xs (i + 1)), .int (la_b (xs (i + 2)))] [.int v] rfl hq cvX10_minute (fm_t8 97 rfl rfl) sh_76 rfl rfl (Nat.le_of_ble_eq_true rfl) (Nat.le_of_ble_eq_true rfl) dL_law_1325 hw1 (fun r M2 H2 locs2 hq2 hw2 => ?_)
  obtain ⟨rfl, hI2⟩ := hq2
  exact lv_icmp_eq (tgt := 1570) C.1.1.1 C.1.1.2.1 dL_law_1328 (by decide) (fun _ => K M2 H2 locs2 hI2 hw2) (fun h => absurd rfl h)
theorem arm_out (C : la_ok p s m c b L xs D ad ca A) (hi : i + 6 ≤ L) (hI : Inv M M) (hw : la_w s D ad ca A qo f M H locs) (hl : lv_has ls 7 (la_L b ad qo i)) (hcs : cells ≤ room_1.cells ∧ slots ≤ room_1.slots) (K : ∀ (M2 : fm_M) (H1 : Heap) (locs1 : List Loc), Inv M2 M2 → la_w s D ad ca A qo f M2 H1 locs1 → W p l e room_1 s m #[.ref b] below meth c H1 locs1 cells slots Qs (F0 m 1570 ls [])) : W p l e room_1 s m #[.ref b] below meth c H locs cells slots Qs (F0 m 1333 ls []) := by
  refine lv_aload_n C.1.1.1 C.1.1.2.1 dL_law_1333 rfl (lv_at hl 1 rfl) ?_
  refine la_rd (k := 1) C hw.2.2.1 hl hi (by decide) dL_law_1334 dL_law_1335 dL_law_1337 dL_law_1338 dL_law_1339 ?_
  refine la_call C hcs hl.1 mX9_out [.int (xs (i + 1))] [] rfl (call_out (xs (i + 1)) hI) cvX9_out (fm_t5 54 rfl rfl) sh_0 rfl rfl (Nat.le_of_ble_eq_true rfl) (Nat.le_of_ble_eq_true rfl) dL_law_1340 hw (fun r M1 H1 locs1 hq hw1 => ?_)
  obtain ⟨v, rfl, hq⟩ := hq
  refine lv_aload_n C.1.1.1 C.1.1.2.1 dL_law_1343 rfl (lv_at hl 2 rfl) ?_
  refine la_rd (k := 1) C hw1.2.2.1 hl hi (by decide) dL_law_1344 dL_law_1345 dL_law_1347 dL_law_1348 dL_law_1349 ?_
  refine la_call C hcs hl.1 mX10_out [.int (xs (i + 1))] [.int v] rfl hq cvX10_out (fm_t8 101 rfl rfl) sh_76 rfl rfl (Nat.le_of_ble_eq_true rfl) (Nat.le_of_ble_eq_true rfl) dL_law_1350 hw1 (fun r M2 H2 locs2 hq2 hw2 => ?_)
  obtain ⟨rfl, hI2⟩ := hq2
  exact lv_icmp_eq (tgt := 1570) C.1.1.1 C.1.1.2.1 dL_law_1353 (by decide) (fun _ => K M2 H2 locs2 hI2 hw2) (fun h => absurd rfl h)
theorem arm_known (C : la_ok p s m c b L xs D ad ca A) (hi : i + 6 ≤ L) (hI : Inv M M) (hw : la_w s D ad ca A qo f M H locs) (hl : lv_has ls 7 (la_L b ad qo i)) (hcs : cells ≤ room_1.cells ∧ slots ≤ room_1.slots) (K : ∀ (M2 : fm_M) (H1 : Heap) (locs1 : List Loc), Inv M2 M2 → la_w s D ad ca A qo f M2 H1 locs1 → W p l e room_1 s m #[.ref b] below meth c H1 locs1 cells slots Qs (F0 m 1570 ls [])) : W p l e room_1 s m #[.ref b] below meth c H locs cells slots Qs (F0 m 1358 ls []) := by
  refine lv_aload_n C.1.1.1 C.1.1.2.1 dL_law_1358 rfl (lv_at hl 1 rfl) ?_
  refine la_rd (k := 1) C hw.2.2.1 hl hi (by decide) dL_law_1359 dL_law_1360 dL_law_1362 dL_law_1363 dL_law_1364 ?_
  refine la_call C hcs hl.1 mX9_known [.int (xs (i + 1))] [] rfl (call_known (xs (i + 1)) hI) cvX9_known (fm_t5 58 rfl rfl) sh_0 rfl rfl (Nat.le_of_ble_eq_true rfl) (Nat.le_of_ble_eq_true rfl) dL_law_1365 hw (fun r M1 H1 locs1 hq hw1 => ?_)
  obtain ⟨v, rfl, hq⟩ := hq
  refine lv_aload_n C.1.1.1 C.1.1.2.1 dL_law_1368 rfl (lv_at hl 2 rfl) ?_
  refine la_rd (k := 1) C hw1.2.2.1 hl hi (by decide) dL_law_1369 dL_law_1370 dL_law_1372 dL_law_1373 dL_law_1374 ?_
  refine la_call C hcs hl.1 mX10_known [.int (xs (i + 1))] [.int v] rfl hq cvX10_known (fm_t8 105 rfl rfl) sh_76 rfl rfl (Nat.le_of_ble_eq_true rfl) (Nat.le_of_ble_eq_true rfl) dL_law_1375 hw1 (fun r M2 H2 locs2 hq2 hw2 => ?_)
  obtain ⟨rfl, hI2⟩ := hq2
  exact lv_icmp_eq (tgt := 1570) C.1.1.1 C.1.1.2.1 dL_law_1378 (by decide) (fun _ => K M2 H2 locs2 hI2 hw2) (fun h => absurd rfl h)
theorem arm_widths (C : la_ok p s m c b L xs D ad ca A) (hi : i + 6 ≤ L) (hI : Inv M M) (hw : la_w s D ad ca A qo f M H locs) (hl : lv_has ls 7 (la_L b ad qo i)) (hcs : cells ≤ room_1.cells ∧ slots ≤ room_1.slots) (K : ∀ (M2 : fm_M) (H1 : Heap) (locs1 : List Loc), Inv M2 M2 → la_w s D ad ca A qo f M2 H1 locs1 → W p l e room_1 s m #[.ref b] below meth c H1 locs1 cells slots Qs (F0 m 1570 ls [])) : W p l e room_1 s m #[.ref b] below meth c H locs cells slots Qs (F0 m 1383 ls []) := by
  refine lv_aload_n C.1.1.1 C.1.1.2.1 dL_law_1383 rfl (lv_at hl 1 rfl) ?_
  refine la_rd (k := 1) C hw.2.2.1 hl hi (by decide) dL_law_1384 dL_law_1385 dL_law_1387 dL_law_1388 dL_law_1389 ?_
  refine la_call C hcs hl.1 mX9_widths [.int (xs (i + 1))] [] rfl (call_widths (xs (i + 1)) hI) cvX9_widths (fm_t5 62 rfl rfl) sh_0 rfl rfl (Nat.le_of_ble_eq_true rfl) (Nat.le_of_ble_eq_true rfl) dL_law_1390 hw (fun r M1 H1 locs1 hq hw1 => ?_)
  obtain ⟨v, rfl, hq⟩ := hq
  refine lv_aload_n C.1.1.1 C.1.1.2.1 dL_law_1393 rfl (lv_at hl 2 rfl) ?_
  refine la_rd (k := 1) C hw1.2.2.1 hl hi (by decide) dL_law_1394 dL_law_1395 dL_law_1397 dL_law_1398 dL_law_1399 ?_
  refine la_call C hcs hl.1 mX10_widths [.int (xs (i + 1))] [.int v] rfl hq cvX10_widths (fm_t8 109 rfl rfl) sh_76 rfl rfl (Nat.le_of_ble_eq_true rfl) (Nat.le_of_ble_eq_true rfl) dL_law_1400 hw1 (fun r M2 H2 locs2 hq2 hw2 => ?_)
  obtain ⟨rfl, hI2⟩ := hq2
  exact lv_icmp_eq (tgt := 1570) C.1.1.1 C.1.1.2.1 dL_law_1403 (by decide) (fun _ => K M2 H2 locs2 hI2 hw2) (fun h => absurd rfl h)
theorem arm_chance (C : la_ok p s m c b L xs D ad ca A) (hi : i + 6 ≤ L) (hI : Inv M M) (hw : la_w s D ad ca A qo f M H locs) (hl : lv_has ls 7 (la_L b ad qo i)) (hcs : cells ≤ room_1.cells ∧ slots ≤ room_1.slots) (K : ∀ (M2 : fm_M) (H1 : Heap) (locs1 : List Loc), Inv M2 M2 → la_w s D ad ca A qo f M2 H1 locs1 → W p l e room_1 s m #[.ref b] below meth c H1 locs1 cells slots Qs (F0 m 1570 ls [])) : W p l e room_1 s m #[.ref b] below meth c H locs cells slots Qs (F0 m 1408 ls []) := by
  refine lv_aload_n C.1.1.1 C.1.1.2.1 dL_law_1408 rfl (lv_at hl 1 rfl) ?_
  refine la_rd (k := 1) C hw.2.2.1 hl hi (by decide) dL_law_1409 dL_law_1410 dL_law_1412 dL_law_1413 dL_law_1414 ?_
  refine la_rd (k := 2) C hw.2.2.1 hl hi (by decide) dL_law_1415 dL_law_1416 dL_law_1418 dL_law_1419 dL_law_1420 ?_
  refine la_rd (k := 3) C hw.2.2.1 hl hi (by decide) dL_law_1421 dL_law_1422 dL_law_1424 dL_law_1425 dL_law_1426 ?_
  refine la_call C hcs hl.1 mX9_chance [.int (xs (i + 1)), .int (xs (i + 2)), .int (xs (i + 3))] [] rfl (call_chance (xs (i + 1)) (xs (i + 2)) (xs (i + 3)) hI) cvX9_chance (fm_t5 88 rfl rfl) sh_0 rfl rfl (Nat.le_of_ble_eq_true rfl) (Nat.le_of_ble_eq_true rfl) dL_law_1427 hw (fun r M1 H1 locs1 hq hw1 => ?_)
  obtain ⟨v, rfl, hq⟩ := hq
  refine lv_aload_n C.1.1.1 C.1.1.2.1 dL_law_1430 rfl (lv_at hl 2 rfl) ?_
  refine la_rd (k := 1) C hw1.2.2.1 hl hi (by decide) dL_law_1431 dL_law_1432 dL_law_1434 dL_law_1435 dL_law_1436 ?_
  refine la_rd (k := 2) C hw1.2.2.1 hl hi (by decide) dL_law_1437 dL_law_1438 dL_law_1440 dL_law_1441 dL_law_1442 ?_
  refine la_rd (k := 3) C hw1.2.2.1 hl hi (by decide) dL_law_1443 dL_law_1444 dL_law_1446 dL_law_1447 dL_law_1448 ?_
  refine la_call C hcs hl.1 mX10_chance [.int (xs (i + 1)), .int (xs (i + 2)), .int (xs (i + 3))] [.int v] rfl hq cvX10_chance (fm_t8 121 rfl rfl) sh_76 rfl rfl (Nat.le_of_ble_eq_true rfl) (Nat.le_of_ble_eq_true rfl) dL_law_1449 hw1 (fun r M2 H2 locs2 hq2 hw2 => ?_)
  obtain ⟨rfl, hI2⟩ := hq2
  exact lv_icmp_eq (tgt := 1570) C.1.1.1 C.1.1.2.1 dL_law_1452 (by decide) (fun _ => K M2 H2 locs2 hI2 hw2) (fun h => absurd rfl h)
theorem arm_tried (C : la_ok p s m c b L xs D ad ca A) (hi : i + 6 ≤ L) (hI : Inv M M) (hw : la_w s D ad ca A qo f M H locs) (hl : lv_has ls 7 (la_L b ad qo i)) (hcs : cells ≤ room_1.cells ∧ slots ≤ room_1.slots) (K : ∀ (M2 : fm_M) (H1 : Heap) (locs1 : List Loc), Inv M2 M2 → la_w s D ad ca A qo f M2 H1 locs1 → W p l e room_1 s m #[.ref b] below meth c H1 locs1 cells slots Qs (F0 m 1570 ls [])) : W p l e room_1 s m #[.ref b] below meth c H locs cells slots Qs (F0 m 1457 ls []) := by
  refine lv_aload_n C.1.1.1 C.1.1.2.1 dL_law_1457 rfl (lv_at hl 1 rfl) ?_
  refine la_rd (k := 1) C hw.2.2.1 hl hi (by decide) dL_law_1458 dL_law_1459 dL_law_1461 dL_law_1462 dL_law_1463 ?_
  refine la_rd (k := 2) C hw.2.2.1 hl hi (by decide) dL_law_1464 dL_law_1465 dL_law_1467 dL_law_1468 dL_law_1469 ?_
  refine la_rd (k := 3) C hw.2.2.1 hl hi (by decide) dL_law_1470 dL_law_1471 dL_law_1473 dL_law_1474 dL_law_1475 ?_
  refine la_call C hcs hl.1 mX9_tried [.int (xs (i + 1)), .int (xs (i + 2)), .int (xs (i + 3))] [] rfl (call_tried (xs (i + 1)) (xs (i + 2)) (xs (i + 3)) hI) cvX9_tried (fm_t5 99 rfl rfl) sh_0 rfl rfl (Nat.le_of_ble_eq_true rfl) (Nat.le_of_ble_eq_true rfl) dL_law_1476 hw (fun r M1 H1 locs1 hq hw1 => ?_)
  obtain ⟨v, rfl, hq⟩ := hq
  refine lv_aload_n C.1.1.1 C.1.1.2.1 dL_law_1479 rfl (lv_at hl 2 rfl) ?_
  refine la_rd (k := 1) C hw1.2.2.1 hl hi (by decide) dL_law_1480 dL_law_1481 dL_law_1483 dL_law_1484 dL_law_1485 ?_
  refine la_rd (k := 2) C hw1.2.2.1 hl hi (by decide) dL_law_1486 dL_law_1487 dL_law_1489 dL_law_1490 dL_law_1491 ?_
  refine la_rd (k := 3) C hw1.2.2.1 hl hi (by decide) dL_law_1492 dL_law_1493 dL_law_1495 dL_law_1496 dL_law_1497 ?_
  refine la_call C hcs hl.1 mX10_tried [.int (xs (i + 1)), .int (xs (i + 2)), .int (xs (i + 3))] [.int v] rfl hq cvX10_tried (fm_t8 127 rfl rfl) sh_76 rfl rfl (Nat.le_of_ble_eq_true rfl) (Nat.le_of_ble_eq_true rfl) dL_law_1498 hw1 (fun r M2 H2 locs2 hq2 hw2 => ?_)
  obtain ⟨rfl, hI2⟩ := hq2
  exact lv_icmp_eq (tgt := 1570) C.1.1.1 C.1.1.2.1 dL_law_1501 (by decide) (fun _ => K M2 H2 locs2 hI2 hw2) (fun h => absurd rfl h)
theorem arm_undo (C : la_ok p s m c b L xs D ad ca A) (hi : i + 6 ≤ L) (hI : Inv M M) (hw : la_w s D ad ca A qo f M H locs) (hl : lv_has ls 7 (la_L b ad qo i)) (hcs : cells ≤ room_1.cells ∧ slots ≤ room_1.slots) (K : ∀ (M2 : fm_M) (H1 : Heap) (locs1 : List Loc), Inv M2 M2 → la_w s D ad ca A qo f M2 H1 locs1 → W p l e room_1 s m #[.ref b] below meth c H1 locs1 cells slots Qs (F0 m 1570 ls [])) : W p l e room_1 s m #[.ref b] below meth c H locs cells slots Qs (F0 m 1506 ls []) := by
  refine lv_aload_n C.1.1.1 C.1.1.2.1 dL_law_1506 rfl (lv_at hl 1 rfl) ?_
  refine la_call C hcs hl.1 mX9_undo [] [] rfl (call_undo  hI) cvX9_undo (fm_t5 107 rfl rfl) sh_0 rfl rfl (Nat.le_of_ble_eq_true rfl) (Nat.le_of_ble_eq_true rfl) dL_law_1507 hw (fun r M1 H1 locs1 hq hw1 => ?_)
  obtain ⟨v, rfl, hq⟩ := hq
  refine lv_aload_n C.1.1.1 C.1.1.2.1 dL_law_1510 rfl (lv_at hl 2 rfl) ?_
  refine la_call C hcs hl.1 mX10_undo [] [.int v] rfl hq cvX10_undo (fm_t8 131 rfl rfl) sh_76 rfl rfl (Nat.le_of_ble_eq_true rfl) (Nat.le_of_ble_eq_true rfl) dL_law_1511 hw1 (fun r M2 H2 locs2 hq2 hw2 => ?_)
  obtain ⟨rfl, hI2⟩ := hq2
  exact lv_icmp_eq (tgt := 1570) C.1.1.1 C.1.1.2.1 dL_law_1514 (by decide) (fun _ => K M2 H2 locs2 hI2 hw2) (fun h => absurd rfl h)
theorem arm_keep (C : la_ok p s m c b L xs D ad ca A) (hi : i + 6 ≤ L) (hI : Inv M M) (hw : la_w s D ad ca A qo f M H locs) (hl : lv_has ls 7 (la_L b ad qo i)) (hcs : cells ≤ room_1.cells ∧ slots ≤ room_1.slots) (K : ∀ (M2 : fm_M) (H1 : Heap) (locs1 : List Loc), Inv M2 M2 → la_w s D ad ca A qo f M2 H1 locs1 → W p l e room_1 s m #[.ref b] below meth c H1 locs1 cells slots Qs (F0 m 1570 ls [])) : W p l e room_1 s m #[.ref b] below meth c H locs cells slots Qs (F0 m 1519 ls []) := by
  refine lv_aload_n C.1.1.1 C.1.1.2.1 dL_law_1519 rfl (lv_at hl 1 rfl) ?_
  refine la_call C hcs hl.1 mX9_keep [] [] rfl (call_keep  hI) cvX9_keep (fm_t5 111 rfl rfl) sh_0 rfl rfl (Nat.le_of_ble_eq_true rfl) (Nat.le_of_ble_eq_true rfl) dL_law_1520 hw (fun r M1 H1 locs1 hq hw1 => ?_)
  obtain ⟨v, rfl, hq⟩ := hq
  refine lv_aload_n C.1.1.1 C.1.1.2.1 dL_law_1523 rfl (lv_at hl 2 rfl) ?_
  refine la_call C hcs hl.1 mX10_keep [] [.int v] rfl hq cvX10_keep (fm_t8 135 rfl rfl) sh_76 rfl rfl (Nat.le_of_ble_eq_true rfl) (Nat.le_of_ble_eq_true rfl) dL_law_1524 hw1 (fun r M2 H2 locs2 hq2 hw2 => ?_)
  obtain ⟨rfl, hI2⟩ := hq2
  exact lv_icmp_eq (tgt := 1570) C.1.1.1 C.1.1.2.1 dL_law_1527 (by decide) (fun _ => K M2 H2 locs2 hI2 hw2) (fun h => absurd rfl h)
theorem arm_back (C : la_ok p s m c b L xs D ad ca A) (hi : i + 6 ≤ L) (hI : Inv M M) (hw : la_w s D ad ca A qo f M H locs) (hl : lv_has ls 7 (la_L b ad qo i)) (hcs : cells ≤ room_1.cells ∧ slots ≤ room_1.slots) (K : ∀ (M2 : fm_M) (H1 : Heap) (locs1 : List Loc), Inv M2 M2 → la_w s D ad ca A qo f M2 H1 locs1 → W p l e room_1 s m #[.ref b] below meth c H1 locs1 cells slots Qs (F0 m 1570 ls [])) : W p l e room_1 s m #[.ref b] below meth c H locs cells slots Qs (F0 m 1532 ls []) := by
  refine lv_aload_n C.1.1.1 C.1.1.2.1 dL_law_1532 rfl (lv_at hl 1 rfl) ?_
  refine la_call C hcs hl.1 mX9_back [] [] rfl (call_back  hI) cvX9_back (fm_t5 115 rfl rfl) sh_0 rfl rfl (Nat.le_of_ble_eq_true rfl) (Nat.le_of_ble_eq_true rfl) dL_law_1533 hw (fun r M1 H1 locs1 hq hw1 => ?_)
  obtain ⟨v, rfl, hq⟩ := hq
  refine lv_aload_n C.1.1.1 C.1.1.2.1 dL_law_1536 rfl (lv_at hl 2 rfl) ?_
  refine la_call C hcs hl.1 mX10_back [] [.int v] rfl hq cvX10_back (fm_t8 139 rfl rfl) sh_76 rfl rfl (Nat.le_of_ble_eq_true rfl) (Nat.le_of_ble_eq_true rfl) dL_law_1537 hw1 (fun r M2 H2 locs2 hq2 hw2 => ?_)
  obtain ⟨rfl, hI2⟩ := hq2
  exact lv_icmp_eq (tgt := 1570) C.1.1.1 C.1.1.2.1 dL_law_1540 (by decide) (fun _ => K M2 H2 locs2 hI2 hw2) (fun h => absurd rfl h)
theorem arm_count (C : la_ok p s m c b L xs D ad ca A) (hi : i + 6 ≤ L) (hI : Inv M M) (hw : la_w s D ad ca A qo f M H locs) (hl : lv_has ls 7 (la_L b ad qo i)) (hcs : cells ≤ room_1.cells ∧ slots ≤ room_1.slots) (K : ∀ (M2 : fm_M) (H1 : Heap) (locs1 : List Loc), Inv M2 M2 → la_w s D ad ca A qo f M2 H1 locs1 → W p l e room_1 s m #[.ref b] below meth c H1 locs1 cells slots Qs (F0 m 1570 ls [])) : W p l e room_1 s m #[.ref b] below meth c H locs cells slots Qs (F0 m 1545 ls []) := by
  refine lv_aload_n C.1.1.1 C.1.1.2.1 dL_law_1545 rfl (lv_at hl 1 rfl) ?_
  refine la_rd (k := 1) C hw.2.2.1 hl hi (by decide) dL_law_1546 dL_law_1547 dL_law_1549 dL_law_1550 dL_law_1551 ?_
  refine la_call C hcs hl.1 mX9_count [.int (xs (i + 1))] [] rfl (call_count (xs (i + 1)) hI) cvX9_count (fm_t5 119 rfl rfl) sh_0 rfl rfl (Nat.le_of_ble_eq_true rfl) (Nat.le_of_ble_eq_true rfl) dL_law_1552 hw (fun r M1 H1 locs1 hq hw1 => ?_)
  obtain ⟨v, rfl, hq⟩ := hq
  refine lv_aload_n C.1.1.1 C.1.1.2.1 dL_law_1555 rfl (lv_at hl 2 rfl) ?_
  refine la_rd (k := 1) C hw1.2.2.1 hl hi (by decide) dL_law_1556 dL_law_1557 dL_law_1559 dL_law_1560 dL_law_1561 ?_
  refine la_call C hcs hl.1 mX10_count [.int (xs (i + 1))] [.int v] rfl hq cvX10_count (fm_t8 143 rfl rfl) sh_76 rfl rfl (Nat.le_of_ble_eq_true rfl) (Nat.le_of_ble_eq_true rfl) dL_law_1562 hw1 (fun r M2 H2 locs2 hq2 hw2 => ?_)
  obtain ⟨rfl, hI2⟩ := hq2
  exact lv_icmp_eq (tgt := 1570) C.1.1.1 C.1.1.2.1 dL_law_1565 (by decide) (fun _ => K M2 H2 locs2 hI2 hw2) (fun h => absurd rfl h)
end ARM
