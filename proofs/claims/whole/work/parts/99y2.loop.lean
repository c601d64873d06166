/-! THE LAW'S LOOP (by program: wip/tools/loop.py) -/
theorem la_38 {j : Nat} (h : j < 38) : j = 0 ∨ j = 1 ∨ j = 2 ∨ j = 3 ∨ j = 4 ∨ j = 5 ∨ j = 6 ∨ j = 7 ∨ j = 8 ∨ j = 9 ∨ j = 10 ∨ j = 11 ∨ j = 12 ∨ j = 13 ∨ j = 14 ∨ j = 15 ∨ j = 16 ∨ j = 17 ∨ j = 18 ∨ j = 19 ∨ j = 20 ∨ j = 21 ∨ j = 22 ∨ j = 23 ∨ j = 24 ∨ j = 25 ∨ j = 26 ∨ j = 27 ∨ j = 28 ∨ j = 29 ∨ j = 30 ∨ j = 31 ∨ j = 32 ∨ j = 33 ∨ j = 34 ∨ j = 35 ∨ j = 36 ∨ j = 37 := by omega
set_option maxHeartbeats 8000000 in
set_option maxRecDepth 100000 in
theorem la_loop {p : Program} {l : Launch} {e : Env} {s : State} {m : MethodId} {below : List Frame} {meth : Method} {c : Code} {b L : Nat} {xs : Nat → Int32} {D : va_G} {ad : Nat → Nat} {ca : FieldType → ClassId} {qo : Nat} (hst : l.stackTraces = false) (hT : mo_tw ad (fun q : Nat => s.heap.size ≤ q) s s.heap) (hN : va_Nc xN xI s) (C : la_ok p s m c b L xs D ad ca (fun q : Nat => s.heap.size ≤ q)) (hr : meth.sig.returnType = ret) (hlocks : meth.locks = false) :
    ∀ (n i : Nat) (f : Nat → Int64) (M : fm_M) (H : Heap) (locs : List Loc) (ls : Array Slot), i ≤ L → L - i < n → Inv M M → la_w s D ad ca (fun q : Nat => s.heap.size ≤ q) qo f M H locs → lv_has ls 7 (la_L b ad qo i) → W p l e room_1 s m #[.ref b] below meth c H locs (1000 + i) (100000 + i) (lw_Z below #[.ref b] s) (F0 m 23 ls []) := by
  intro n
  have hx := C.1.1.1
  have hb := C.1.1.2.1
  obtain ⟨-, hX, hbl, hbA, hL⟩ := id C
  induction n with
  | zero => intro i f M H locs ls h1 h2; exact absurd h2 (by omega)
  | succ n ih =>
    intro i f M H locs ls hiL hn hI hw hl
    have hS := hw.2.2.1
    refine lv_iload hx hb dL_law_23 (lv_at hl 4 rfl) ?_
    refine lv_aload_n hx hb dL_law_25 rfl (lv_at hl 0 rfl) ?_
    refine va_slen hx hb hX hbl hbA hS dL_law_26 ?_
    refine lv_bipush (v := nI 6) hx hb dL_law_27 (by decide) ?_
    refine lv_isub hx hb dL_law_29 ?_
    refine lv_icmp_gt (tgt := 1576) hx hb dL_law_30 (by decide) (fun _ => ?_) (fun hng => ?_)
    · refine lv_iconst (v := 1) hx hb dL_law_1576 (by decide) ?_
      refine va_forget (fun q hq => hS.2.2 q hq) ?_
      refine W.widen (k := 601024) (n := 7293034) (by omega) (by omega) ?_
      exact lw_ret hx hb hr hlocks dL_law_1577
    · have hi : i + 6 ≤ L := by
        rcases Nat.lt_or_ge L (i + 6) with h | h
        · refine absurd (Int32.lt_iff_toInt_lt.mpr ?_) hng
          have e1 := pk_sub_toInt (a := L) (b := 6) (by omega) (by omega)
          have e2 := nI_toInt (n := i) (by omega)
          show (nI L - nI 6).toInt < (nI i).toInt
          rw [e1, e2]
          omega
        · exact h
      refine lv_aload_n hx hb dL_law_33 rfl (lv_at hl 0 rfl) ?_
      refine lv_iload hx hb dL_law_34 (lv_at hl 4 rfl) ?_
      refine va_sld hx hb hX hbl hbA hS (vp_in_nI (show i < L by omega) (by omega)) dL_law_36 ?_
      refine lv_bipush (v := 63) hx hb dL_law_37 (by decide) ?_
      refine lv_iand hx hb dL_law_39 ?_
      refine lv_topi (fun v ev => ?_)
      have K : ∀ (k n2 : Nat) (f2 : Nat → Int64) (M2 : fm_M) (H1 : Heap) (locs1 : List Loc) (ls2 : Array Slot), k ≤ 1000 + i + 1 → n2 ≤ 100000 + i + 6 → lv_has ls2 7 (la_L b ad qo i) → Inv M2 M2 → la_w s D ad ca (fun q : Nat => s.heap.size ≤ q) qo f2 M2 H1 locs1 → W p l e room_1 s m #[.ref b] below meth c H1 locs1 k n2 (lw_Z below #[.ref b] s) (F0 m 1570 ls2 []) := by
        intro k n2 f2 M2 H1 locs1 ls2 hk1 hk2 hl2 hI2 hw2
        refine lv_iinc (v := nI (i + 6)) (lv' := [(4, .int (nI (i + 6))), (0, .ref b), (1, .ref (ad 0)), (2, .ref (ad 76)), (3, .ref qo)]) hx hb dL_law_1570 hl2 (k := 4) rfl (by first | exact nI_add i 6 | exact (nI_add i 6).symm) (by decide) rfl (fun ls3 hl3 => ?_)
        refine lv_goto (tgt := 23) hx hb dL_law_1573 (by decide) ?_
        refine W.widen (k := 1000 + (i + 6)) (n := 100000 + (i + 6)) (by omega) (by omega) ?_
        exact ih (i + 6) f2 M2 H1 locs1 ls3 (by omega) (by omega) hI2 hw2 (lv_sub hl3 [1, 2, 3, 4, 0] rfl)
      have hcs : 1000 + i ≤ room_1.cells ∧ 100000 + i ≤ room_1.slots := ⟨show 1000 + i ≤ 601024 by omega, show 100000 + i ≤ 7293034 by omega⟩
      have hcs1 : 1000 + i + 1 ≤ room_1.cells ∧ 100000 + i + 6 ≤ room_1.slots := ⟨show 1000 + i + 1 ≤ 601024 by omega, show 100000 + i + 6 ≤ 7293034 by omega⟩
      have K1 := fun (M2 : fm_M) (H1 : Heap) (locs1 : List Loc) (a : Inv M2 M2) (b2 : la_w s D ad ca (fun q : Nat => s.heap.size ≤ q) qo f M2 H1 locs1) => K (1000 + i) (100000 + i) f M2 H1 locs1 ls (by omega) (by omega) hl a b2
      by_cases hv : ∃ j : Nat, j < 38 ∧ v = nI j
      · obtain ⟨j, hj, rfl⟩ := hv
        rcases la_38 hj with rfl | rfl | rfl | rfl | rfl | rfl | rfl | rfl | rfl | rfl | rfl | rfl | rfl | rfl | rfl | rfl | rfl | rfl | rfl | rfl | rfl | rfl | rfl | rfl | rfl | rfl | rfl | rfl | rfl | rfl | rfl | rfl | rfl | rfl | rfl | rfl | rfl | rfl
        · refine lv_tableIn (off := 168) (tgt := 208) hx hb dL_law_40 (by decide) (by decide) (by decide) (by decide) ?_
          exact arm_feed C hi hI hw hl hcs K1
        · refine lv_tableIn (off := 241) (tgt := 281) hx hb dL_law_40 (by decide) (by decide) (by decide) (by decide) ?_
          exact arm_text C hi hI hw hl hcs K1
        · refine lv_tableIn (off := 266) (tgt := 306) hx hb dL_law_40 (by decide) (by decide) (by decide) (by decide) ?_
          exact arm_fault C hi hI hw hl hcs K1
        · refine lv_tableIn (off := 291) (tgt := 331) hx hb dL_law_40 (by decide) (by decide) (by decide) (by decide) ?_
          exact arm_named C hi hI hw hl hcs K1
        · refine lv_tableIn (off := 328) (tgt := 368) hx hb dL_law_40 (by decide) (by decide) (by decide) (by decide) ?_
          exact arm_motion hst hT hN C hi hI hw hl hcs1 (fun f2 M2 H1 locs1 ls2 a1 a2 a3 => K (1000 + i + 1) (100000 + i + 6) f2 M2 H1 locs1 ls2 (Nat.le_refl _) (Nat.le_refl _) a1 a2 a3)
        · refine lv_tableIn (off := 396) (tgt := 436) hx hb dL_law_40 (by decide) (by decide) (by decide) (by decide) ?_
          exact arm_fork C hi hI hw hl hcs K1
        · refine lv_tableIn (off := 433) (tgt := 473) hx hb dL_law_40 (by decide) (by decide) (by decide) (by decide) ?_
          exact arm_wet C hi hI hw hl hcs K1
        · refine lv_tableIn (off := 458) (tgt := 498) hx hb dL_law_40 (by decide) (by decide) (by decide) (by decide) ?_
          exact arm_beats C hi hI hw hl hcs K1
        · refine lv_tableIn (off := 495) (tgt := 535) hx hb dL_law_40 (by decide) (by decide) (by decide) (by decide) ?_
          exact arm_hums C hi hI hw hl hcs K1
        · refine lv_tableIn (off := 532) (tgt := 572) hx hb dL_law_40 (by decide) (by decide) (by decide) (by decide) ?_
          exact arm_struck C hi hI hw hl hcs K1
        · refine lv_tableIn (off := 569) (tgt := 609) hx hb dL_law_40 (by decide) (by decide) (by decide) (by decide) ?_
          exact arm_law C hi hI hw hl hcs K1
        · refine lv_tableIn (off := 619) (tgt := 659) hx hb dL_law_40 (by decide) (by decide) (by decide) (by decide) ?_
          exact arm_touch C hi hI hw hl hcs K1
        · refine lv_tableIn (off := 672) (tgt := 712) hx hb dL_law_40 (by decide) (by decide) (by decide) (by decide) ?_
          exact arm_file C hi hI hw hl hcs K1
        · refine lv_tableIn (off := 709) (tgt := 749) hx hb dL_law_40 (by decide) (by decide) (by decide) (by decide) ?_
          exact arm_put C hi hI hw hl hcs K1
        · refine lv_tableIn (off := 746) (tgt := 786) hx hb dL_law_40 (by decide) (by decide) (by decide) (by decide) ?_
          exact arm_earn C hi hI hw hl hcs K1
        · refine lv_tableIn (off := 771) (tgt := 811) hx hb dL_law_40 (by decide) (by decide) (by decide) (by decide) ?_
          exact arm_go C hi hI hw hl hcs K1
        · refine lv_tableIn (off := 796) (tgt := 836) hx hb dL_law_40 (by decide) (by decide) (by decide) (by decide) ?_
          exact arm_ahead C hi hI hw hl hcs K1
        · refine lv_tableIn (off := 845) (tgt := 885) hx hb dL_law_40 (by decide) (by decide) (by decide) (by decide) ?_
          exact arm_best C hi hI hw hl hcs K1
        · refine lv_tableIn (off := 870) (tgt := 910) hx hb dL_law_40 (by decide) (by decide) (by decide) (by decide) ?_
          exact arm_open C hi hI hw hl hcs K1
        · refine lv_tableIn (off := 883) (tgt := 923) hx hb dL_law_40 (by decide) (by decide) (by decide) (by decide) ?_
          exact arm_bribe C hi hI hw hl hcs K1
        · refine lv_tableIn (off := 920) (tgt := 960) hx hb dL_law_40 (by decide) (by decide) (by decide) (by decide) ?_
          exact arm_swing C hi hI hw hl hcs K1
        · refine lv_tableIn (off := 957) (tgt := 997) hx hb dL_law_40 (by decide) (by decide) (by decide) (by decide) ?_
          exact arm_censure C hi hI hw hl hcs K1
        · refine lv_tableIn (off := 982) (tgt := 1022) hx hb dL_law_40 (by decide) (by decide) (by decide) (by decide) ?_
          exact arm_party C hi hI hw hl hcs K1
        · refine lv_tableIn (off := 1019) (tgt := 1059) hx hb dL_law_40 (by decide) (by decide) (by decide) (by decide) ?_
          exact arm_rests C hi hI hw hl hcs K1
        · refine lv_tableIn (off := 1068) (tgt := 1108) hx hb dL_law_40 (by decide) (by decide) (by decide) (by decide) ?_
          exact arm_rest C hi hI hw hl hcs K1
        · refine lv_tableIn (off := 1129) (tgt := 1169) hx hb dL_law_40 (by decide) (by decide) (by decide) (by decide) ?_
          exact arm_likely C hi hI hw hl hcs K1
        · refine lv_tableIn (off := 1166) (tgt := 1206) hx hb dL_law_40 (by decide) (by decide) (by decide) (by decide) ?_
          exact arm_order C hi hI hw hl hcs K1
        · refine lv_tableIn (off := 1203) (tgt := 1243) hx hb dL_law_40 (by decide) (by decide) (by decide) (by decide) ?_
          exact arm_room C hi hI hw hl hcs K1
        · refine lv_tableIn (off := 1240) (tgt := 1280) hx hb dL_law_40 (by decide) (by decide) (by decide) (by decide) ?_
          exact arm_minute C hi hI hw hl hcs K1
        · refine lv_tableIn (off := 1293) (tgt := 1333) hx hb dL_law_40 (by decide) (by decide) (by decide) (by decide) ?_
          exact arm_out C hi hI hw hl hcs K1
        · refine lv_tableIn (off := 1318) (tgt := 1358) hx hb dL_law_40 (by decide) (by decide) (by decide) (by decide) ?_
          exact arm_known C hi hI hw hl hcs K1
        · refine lv_tableIn (off := 1343) (tgt := 1383) hx hb dL_law_40 (by decide) (by decide) (by decide) (by decide) ?_
          exact arm_widths C hi hI hw hl hcs K1
        · refine lv_tableIn (off := 1368) (tgt := 1408) hx hb dL_law_40 (by decide) (by decide) (by decide) (by decide) ?_
          exact arm_chance C hi hI hw hl hcs K1
        · refine lv_tableIn (off := 1417) (tgt := 1457) hx hb dL_law_40 (by decide) (by decide) (by decide) (by decide) ?_
          exact arm_tried C hi hI hw hl hcs K1
        · refine lv_tableIn (off := 1466) (tgt := 1506) hx hb dL_law_40 (by decide) (by decide) (by decide) (by decide) ?_
          exact arm_undo C hi hI hw hl hcs K1
        · refine lv_tableIn (off := 1479) (tgt := 1519) hx hb dL_law_40 (by decide) (by decide) (by decide) (by decide) ?_
          exact arm_keep C hi hI hw hl hcs K1
        · refine lv_tableIn (off := 1492) (tgt := 1532) hx hb dL_law_40 (by decide) (by decide) (by decide) (by decide) ?_
          exact arm_back C hi hI hw hl hcs K1
        · refine lv_tableIn (off := 1505) (tgt := 1545) hx hb dL_law_40 (by decide) (by decide) (by decide) (by decide) ?_
          exact arm_count C hi hI hw hl hcs K1
      · have hout : v.toInt < 0 ∨ 37 < v.toInt := fm_swo v 38 (fun j hj h => hv ⟨j, hj, Int32.toInt_inj.mp (by rw [h, nI_toInt (by omega)])⟩)
        refine lv_tableOut (tgt := 1570) hx hb dL_law_40 hout (by decide) ?_
        exact K1 M H locs hI hw
