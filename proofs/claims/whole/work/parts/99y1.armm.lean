/-! the arm of motion -/
theorem lo_blind (M : fm_M) (a1 a2 : Int32) (f : Nat → Int64) (qo : Nat) (D : va_G) (ad : Nat → Nat) (ca : FieldType → ClassId) (sz : Nat) : FrameBlind (lo_Pc M a1 a2 f qo D ad ca sz) := fun a U g mk q => by
  obtain ⟨q0, q1, qP, qK, qD, qN, qG, qT, qC⟩ := q
  exact ⟨q0, q1, qP, va_K.moved (u := U) (U := U.calling g mk a) (Vm.Alike.refl U.vm) qK, qD, fun w hw => va_Nw.same (fm_nw_tab hw) (u := U) (U := U.calling g mk a) rfl (qN w hw), qG.go (U := U.calling g mk a) (fun _ _ _ => rfl) (Vm.Alike.refl U.vm) (vk_R.same (u := U) rfl qG.2.2.2.2.1) (fun _ h => h), qT.same rfl, va_Nc.moved (u := U) (U := U.calling g mk a) (Vm.Alike.refl U.vm) qC⟩
theorem lo_w1 : Cond.methodLink RL 39 yL_motion ∈ fm_gw ∧ Cond.static yL_motion ∈ fm_gw ∧ Cond.initialized RL ∈ fm_gw ∧ Cond.codeWith yL_motion cL_motion 5 (some .int) lo_hh ∈ fm_gw := by decide +kernel
theorem lo_good : GoodIn fm_gw (va_wsS RL 39 yL_motion lo_wy) := by
  intro w hw
  have hm : w ∈ fm_gw := by
    rcases List.mem_append.mp hw with h | h
    · simp only [List.mem_cons, List.not_mem_nil, or_false] at h
      rcases h with rfl | rfl | rfl
      · exact lo_w1.1
      · exact lo_w1.2.1
      · exact lo_w1.2.2.1
    · rcases List.mem_cons.mp h with rfl | h
      · exact lo_w1.2.2.2
      · exact h
  exact ⟨hm, good_of_word (List.mem_filter.mp hm).2⟩
theorem mo_of {M : fm_M} (h : Inv M M) (a1 a2 : Int32) : ∃ (t : Nat) (w : Int32) (k : Nat), k < 3 ∧ mo_k M t a1 a2 w k ∧ F_X10_motion a1 a2 M = some (w, fm_up M 76 0 (nI k)) ∧ Inv (fm_up M 76 0 (nI k)) (fm_up M 76 0 (nI k)) := by
  obtain ⟨t, w, s, ht, h01, hF, hI, hk⟩ := on_motion h a1 a2
  rcases hk with ⟨rfl, h1⟩ | ⟨rfl, h1⟩ | ⟨rfl, h1⟩
  · exact ⟨t, w, 1, by omega, ⟨ht, h01, Or.inl ⟨rfl, h1⟩⟩, hF, hI⟩
  · exact ⟨t, w, 2, by omega, ⟨ht, h01, Or.inr (Or.inl ⟨rfl, h1⟩)⟩, hF, hI⟩
  · exact ⟨t, w, 0, by omega, ⟨ht, h01, Or.inr (Or.inr ⟨rfl, h1⟩)⟩, hF, hI⟩
set_option maxHeartbeats 4000000 in
theorem arm_motion {p : Program} {l : Launch} {e : Env} {s : State} {m : MethodId} {below : List Frame} {meth : Method} {c : Code} {b L : Nat} {xs : Nat → Int32} {D : va_G} {ad : Nat → Nat} {ca : FieldType → ClassId} {A : Nat → Prop} {qo i : Nat} {f : Nat → Int64} {M : fm_M} {H : Heap} {locs : List Loc} {cells slots : Nat} {Qs : State → Prop} {ls : Array Slot} (hst : l.stackTraces = false) (hT : mo_tw ad A s s.heap) (hN : va_Nc xN xI s)
    (C : la_ok p s m c b L xs D ad ca A) (hi : i + 6 ≤ L) (hI : Inv M M) (hw : la_w s D ad ca A qo f M H locs) (hl : lv_has ls 7 (la_L b ad qo i)) (hcs : cells + 1 ≤ room_1.cells ∧ slots + 6 ≤ room_1.slots) (K : ∀ (f2 : Nat → Int64) (M2 : fm_M) (H1 : Heap) (locs1 : List Loc) (ls2 : Array Slot), lv_has ls2 7 (la_L b ad qo i) → Inv M2 M2 → la_w s D ad ca A qo f2 M2 H1 locs1 → W p l e room_1 s m #[.ref b] below meth c H1 locs1 (cells + 1) (slots + 6) Qs (F0 m 1570 ls2 [])) : W p l e room_1 s m #[.ref b] below meth c H locs cells slots Qs (F0 m 368 ls []) := by
  obtain ⟨t, w, k, hk3, hk, hF, hI2⟩ := mo_of hI (xs (i + 1)) (xs (i + 2))
  have hx := C.1.1.1
  have hb := C.1.1.2.1
  have hg := C.1.1.2.2.2.2
  have hK := C.1.2.1
  have hA := C.1.2.2.1
  have hN2 := C.1.2.2.2.1
  have hG := C.1.2.2.2.2
  refine lv_aload_n hx hb dL_law_368 rfl (lv_at hl 1 rfl) ?_
  refine la_rd (k := 1) C hw.2.2.1 hl hi (by decide) dL_law_369 dL_law_370 dL_law_372 dL_law_373 dL_law_374 ?_
  refine la_rd (k := 2) C hw.2.2.1 hl hi (by decide) dL_law_375 dL_law_376 dL_law_378 dL_law_379 dL_law_380 ?_
  refine lv_aload_n hx hb dL_law_381 rfl (lv_at hl 3 rfl) ?_
  have hPa : va_P D vwCl (lo_ws ad ca M qo f) H := lo_app hw.1 hw.2.2.2
  have hsub : ∀ q, va_A (lo_ws ad ca M qo f) H.size q → A q := fun q h => by
    rcases h with ⟨k, x, h⟩ | h
    · exact hw.2.1.2 k (q, x) h
    · exact hA q (Nat.le_trans hw.2.2.1.1 h)
  have hp : PreS s H (lo_Pc M (xs (i + 1)) (xs (i + 2)) f qo D ad ca H.size) [.ref (ad 0), .int (xs (i + 1)), .int (xs (i + 2)), .ref qo] := ⟨lo_blind _ _ _ _ _ _ _ _ _, fun U hU hW => ⟨rfl, by rw [hU], by rw [hU]; exact hPa, va_K.moved hW.alike hK, hw.2.1.weaken (fun _ _ _ _ => trivial), fun w hw => fm_nw_warm hw hW (hN2 w hw), by rw [hU]; exact hG.go hw.2.2.1.2.1 hW.alike (vk_R.warm hW hG.2.2.2.2.1) hsub, by rw [hU]; exact hT.go hw.2.2.1.2.1 hW hsub, va_Nc.moved hW.alike hN⟩⟩
  refine va_calli (vx_runSW (hh := lo_hh) (As := [.ref (ad 0), .int (xs (i + 1)), .int (xs (i + 2)), .ref qo]) (rest := []) C.1.1 (law_motion l hst D ad ca H.size qo f hk) (vx_cwSW 4 hg lo_good rfl rfl rfl (by decide +kernel) ⟨Nat.le_of_ble_eq_true rfl, Nat.le_of_ble_eq_true rfl⟩) hp rfl rfl hl.1 rfl (lv_room (Nat.le_of_ble_eq_true rfl)) dL_law_382 hcs) hw.2.2.1 (fun q _ h => hsub q h) hsub (fun r f2 t2 H1 locs1 ht hvm hq hB hz hk1 hS1 => ?_)
  obtain ⟨rfl, hf2⟩ := hq
  obtain ⟨hP1, hK1⟩ := hB
  rw [ht] at hP1
  have hw1 : la_w s D ad ca A qo f2 M H1 locs1 := ⟨lo_pre hP1, la_D hw.2.1, hS1, lo_suf hP1⟩
  have hcs1 : cells + 1 ≤ room_1.cells ∧ slots + 6 ≤ room_1.slots := hcs
  refine lv_istore (lv' := [(5, .int (nI k)), (0, .ref b), (1, .ref (ad 0)), (2, .ref (ad 76)), (3, .ref qo), (4, .int (nI i))]) hx hb dL_law_385 hl (by decide) rfl (fun ls hl => ?_)
  have hl1 : lv_has ls 7 (la_L b ad qo i) := lv_sub hl [1, 2, 3, 4, 5] rfl
  refine lv_aload_n hx hb dL_law_387 rfl (lv_at hl 3 rfl) ?_
  refine la_rd (k := 1) C hw1.2.2.1 hl1 hi (by decide) dL_law_388 dL_law_389 dL_law_391 dL_law_392 dL_law_393 ?_
  refine la_rd (k := 2) C hw1.2.2.1 hl1 hi (by decide) dL_law_394 dL_law_395 dL_law_397 dL_law_398 dL_law_399 ?_
  refine la_call C hcs1 hl.1 mX10_motion [.int (xs (i + 1)), .int (xs (i + 2))] [] rfl (call_motionM (xs (i + 1)) (xs (i + 2)) hF) cvX10_motion (fm_t7 72 rfl rfl) sh_76 rfl rfl (Nat.le_of_ble_eq_true rfl) (Nat.le_of_ble_eq_true rfl) dL_law_400 hw1 (fun r M2 H2 locs2 hq2 hw2 => ?_)
  obtain ⟨rfl, rfl⟩ := hq2
  refine lv_istore (lv' := [(6, .int w), (5, .int (nI k)), (0, .ref b), (1, .ref (ad 0)), (2, .ref (ad 76)), (3, .ref qo), (4, .int (nI i))]) hx hb dL_law_403 hl (by decide) rfl (fun ls hl => ?_)
  refine lv_aload_n hx hb dL_law_405 rfl (lv_at hl 4 rfl) ?_
  refine la_call C hcs1 hl.1 mX10_thrown [] [] rfl call_thrown cvX10_thrown (fm_t6 173 rfl rfl) sh_76 rfl rfl (Nat.le_of_ble_eq_true rfl) (Nat.le_of_ble_eq_true rfl) dL_law_406 hw2 (fun r M3 H3 locs3 hq3 hw3 => ?_)
  obtain ⟨rfl, rfl⟩ := hq3
  refine lv_iload hx hb dL_law_409 (lv_at hl 1 rfl) ?_
  have hKK : W p l e room_1 s m #[.ref b] below meth c H3 locs3 (cells + 1) (slots + 6) Qs (F0 m 433 ls []) := lv_goto (tgt := 1570) hx hb dL_law_433 (by decide) (K f2 _ H3 locs3 ls (lv_sub hl [2, 3, 4, 5, 6] rfl) hI2 hw3)
  refine lv_icmp_eq (tgt := 416) hx hb dL_law_411 (by decide) (fun _ => ?_) (fun h => absurd fm_up_eq h)
  refine lv_iload hx hb dL_law_416 (lv_at hl 1 rfl) ?_
  refine lv_if_ne (tgt := 433) hx hb dL_law_418 (by decide) (fun _ => hKK) (fun h0 => ?_)
  have hk0 : k = 0 := by
    have : k = 0 ∨ k = 1 ∨ k = 2 := by omega
    rcases this with rfl | rfl | rfl
    · rfl
    · exact absurd h0 (by decide)
    · exact absurd h0 (by decide)
  refine lv_aload_n hx hb dL_law_421 rfl (lv_at hl 5 rfl) ?_
  refine lv_iconst (v := 0) hx hb dL_law_422 (by decide) ?_
  refine va_lald hx hb hK hw3.2.2.2 0 1 rfl rfl (show ¬ ((0 : Int32) < 0 ∨ 1 ≤ (0 : Int32).toNatClampNeg) by decide) dL_law_423 ?_
  refine lv_iload hx hb dL_law_424 (lv_at hl 0 rfl) ?_
  refine lv_i2l hx hb dL_law_426 rfl ?_
  refine W.lcmp hx hb dL_law_427 ?_
  exact lv_if_eq (tgt := 433) hx hb dL_law_428 (by decide) (fun _ => hKK) (fun h => absurd (by rw [show f2 (0 : Int32).toNatClampNeg = w.toInt64 from hf2 hk0]; exact la_cmp _) h)
