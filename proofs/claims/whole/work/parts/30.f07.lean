/-! X10_begins -/
def F_X10_begins  (M : fm_M) : Option (Unit × fm_M) :=
    fm_bd (F_X10_starts 0 M) (fun v1 M2 =>
    some ((), M2))
theorem sp_X10_begins {d : Nat}  {M : fm_M} {x : Unit × fm_M} {Q : Option Value → fm_M → Prop} (h : F_X10_begins  M = some x) (hq : Q none x.2) : fm_ct (d + 1) mX10_begins [.ref 76] M Q := by
  rw [F_X10_begins] at h
  show fm_mw (d + 1) mX10_begins Q 0 [some (.ref 76)] [] M
  refine fl_aload0 (pc := 0) dX10_begins_0 ?_
  refine fm_iconstv (pc := 1) 0 (by decide) dX10_begins_1 ?_
  obtain ⟨v1, M2, ev1, h⟩ := fm_bdp h
  refine fm_callV (pc := 2) mX10_starts [_] _ rfl cvX10_starts ml_10_313 sh_76 rfl rfl (Nat.le_of_ble_eq_true rfl) (Nat.le_of_ble_eq_true rfl) dX10_begins_2 ?_
  refine sp_X10_starts ev1 ?_
  refine fm_ret0 ?_
  refine fm_vret (pc := 5) rfl ?_ dX10_begins_5
  cases h
  exact hq
/-! X10_fault -/
def F_X10_fault (a1 : Int32) (M : fm_M) : Option (Int32 × fm_M) :=
    fm_lt (fm_up M 76 0 0) (fun M1 =>
    if a1 = 0 then (
      some ((M1.1 76 26), M1)
    ) else (
      if a1 = 1 then (
        some ((M1.1 76 27), M1)
      ) else (
        some ((-1), M1)
      )
    ))
theorem sp_X10_fault {d : Nat} {a1 : Int32} {M : fm_M} {x : Int32 × fm_M} {Q : Option Value → fm_M → Prop} (h : F_X10_fault a1 M = some x) (hq : Q (some (.int x.1)) x.2) : fm_ct d mX10_fault [.ref 76, .int a1] M Q := by
  rw [F_X10_fault] at h
  show fm_mw d mX10_fault Q 0 [some (.ref 76), some (.int a1)] [] M
  refine fl_aload0 (pc := 0) dX10_fault_0 ?_
  refine fm_iconstv (pc := 1) 0 (by decide) dX10_fault_1 ?_
  refine fm_puti (pc := 2) lp_10_130 sh_76 rfl dX10_fault_2 ?_
  obtain ⟨M1, eM1, h⟩ := fm_ltp h
  refine fm_cgm eM1 ?_
  refine fl_iload1 (pc := 5) dX10_fault_5 ?_
  refine fm_if_ne (pc := 6) 16 (by decide) dX10_fault_6 (fun c6 => ?_) (fun c6 => ?_)
  · replace h := fm_itn c6 h
    refine fl_iload1 (pc := 16) dX10_fault_16 ?_
    refine fm_iconstv (pc := 17) 1 (by decide) dX10_fault_17 ?_
    refine fm_icmp_ne (pc := 18) 28 (by decide) dX10_fault_18 (fun c18 => ?_) (fun c18 => ?_)
    · replace h := fm_itn c18 h
      refine fm_iconstv (pc := 28) (-1) (by decide) dX10_fault_28 ?_
      refine fm_iret (pc := 29) rfl ?_ dX10_fault_29
      cases h
      exact hq
    · replace h := fm_itp c18 h
      refine fl_aload0 (pc := 21) dX10_fault_21 ?_
      refine fm_geti (pc := 22) lk_10_55 sh_76 rfl dX10_fault_22 ?_
      refine fm_goto (pc := 25) 29 (by decide) dX10_fault_25 ?_
      refine fm_iret (pc := 29) rfl ?_ dX10_fault_29
      cases h
      exact hq
  · replace h := fm_itp c6 h
    refine fl_aload0 (pc := 9) dX10_fault_9 ?_
    refine fm_geti (pc := 10) lk_10_276 sh_76 rfl dX10_fault_10 ?_
    refine fm_goto (pc := 13) 29 (by decide) dX10_fault_13 ?_
    refine fm_iret (pc := 29) rfl ?_ dX10_fault_29
    cases h
    exact hq
/-! X10_named -/
def F_X10_named (a1 : Int32) (a2 : Int32) (M : fm_M) : Option (Int32 × fm_M) :=
    fm_lt (fm_up M 76 0 0) (fun M1 =>
    if a1 = 0 then (
      fm_gd (fm_inb 0 20) (
      fm_bd (F_X10_found 79 0 (M1.1 78 (Int32.toNatClampNeg 0)) a2 M1) (fun v3 M4 =>
      some (v3, M4)))
    ) else (
    if a1 = 1 then (
      fm_gd (fm_inb 1 20) (
      fm_bd (F_X10_found 84 0 (M1.1 78 (Int32.toNatClampNeg 1)) a2 M1) (fun v6 M7 =>
      some (v6, M7)))
    ) else (
    some ((-1), M1))))
theorem sp_X10_named {d : Nat} {a1 : Int32} {a2 : Int32} {M : fm_M} {x : Int32 × fm_M} {Q : Option Value → fm_M → Prop} (h : F_X10_named a1 a2 M = some x) (hq : Q (some (.int x.1)) x.2) : fm_ct (d + 1) mX10_named [.ref 76, .int a1, .int a2] M Q := by
  rw [F_X10_named] at h
  show fm_mw (d + 1) mX10_named Q 0 [some (.ref 76), some (.int a1), some (.int a2)] [] M
  refine fl_aload0 (pc := 0) dX10_named_0 ?_
  refine fm_iconstv (pc := 1) 0 (by decide) dX10_named_1 ?_
  refine fm_puti (pc := 2) lp_10_130 sh_76 rfl dX10_named_2 ?_
  obtain ⟨M1, eM1, h⟩ := fm_ltp h
  refine fm_cgm eM1 ?_
  refine fl_iload1 (pc := 5) dX10_named_5 ?_
  by_cases s6_0 : a1 = 0
  · replace h := fm_itp s6_0 h
    refine fm_lsw (pc := 6) 32 (26) (by decide) (by rw [s6_0]; rfl) (by decide) dX10_named_6 ?_
    refine fl_aload0 (pc := 32) dX10_named_32 ?_
    refine fm_getr (pc := 33) lk_10_16 sh_76 rfl dX10_named_33 ?_
    refine fm_iconstv (pc := 36) 0 (by decide) dX10_named_36 ?_
    refine fl_aload0 (pc := 37) dX10_named_37 ?_
    refine fm_getr (pc := 38) lk_10_13 sh_76 rfl dX10_named_38 ?_
    refine fm_iconstv (pc := 41) 0 (by decide) dX10_named_41 ?_
    obtain ⟨g2, h⟩ := fm_gdp h
    refine fm_iald (pc := 42) sh_78 (fm_inb_ok g2) dX10_named_42 ?_
    refine fl_iload2 (pc := 43) dX10_named_43 ?_
    obtain ⟨v3, M4, ev3, h⟩ := fm_bdp h
    refine fm_callS (pc := 44) mX10_found [_, _, _, _] _ rfl csX10_found ml_10_196 rfl (Nat.le_of_ble_eq_true rfl) (Nat.le_of_ble_eq_true rfl) dX10_named_44 ?_
    refine sp_X10_found ev3 ?_
    refine fm_ret1 ?_
    refine fm_iret (pc := 47) rfl ?_ dX10_named_47
    cases h
    exact hq
  · replace h := fm_itn s6_0 h
    by_cases s6_1 : a1 = 1
    · replace h := fm_itp s6_1 h
      refine fm_lsw (pc := 6) 48 (42) (by decide) (by rw [s6_1]; rfl) (by decide) dX10_named_6 ?_
      refine fl_aload0 (pc := 48) dX10_named_48 ?_
      refine fm_getr (pc := 49) lk_10_31 sh_76 rfl dX10_named_49 ?_
      refine fm_iconstv (pc := 52) 0 (by decide) dX10_named_52 ?_
      refine fl_aload0 (pc := 53) dX10_named_53 ?_
      refine fm_getr (pc := 54) lk_10_13 sh_76 rfl dX10_named_54 ?_
      refine fm_iconstv (pc := 57) 1 (by decide) dX10_named_57 ?_
      obtain ⟨g5, h⟩ := fm_gdp h
      refine fm_iald (pc := 58) sh_78 (fm_inb_ok g5) dX10_named_58 ?_
      refine fl_iload2 (pc := 59) dX10_named_59 ?_
      obtain ⟨v6, M7, ev6, h⟩ := fm_bdp h
      refine fm_callS (pc := 60) mX10_found [_, _, _, _] _ rfl csX10_found ml_10_196 rfl (Nat.le_of_ble_eq_true rfl) (Nat.le_of_ble_eq_true rfl) dX10_named_60 ?_
      refine sp_X10_found ev6 ?_
      refine fm_ret1 ?_
      refine fm_iret (pc := 63) rfl ?_ dX10_named_63
      cases h
      exact hq
    · replace h := fm_itn s6_1 h
      refine fm_lsw (pc := 6) 64 (58) (by decide) (by show Op.lookupswitch.offset [(0, 26), (1, 42)] (58) _ = _; rw [lv_osw (k := 0) (a := 0) s6_0 rfl]; rw [lv_osw (k := 1) (a := 1) s6_1 rfl]; rfl) (by decide) dX10_named_6 ?_
      refine fm_iconstv (pc := 64) (-1) (by decide) dX10_named_64 ?_
      refine fm_iret (pc := 65) rfl ?_ dX10_named_65
      cases h
      exact hq
/-! X10_is -/
def F_X10_is (a0 : Int32) (M : fm_M) : Option (Int64 × fm_M) :=
    if a0 = 0 then (
      some (0, M)
    ) else (
      some (1, M)
    )
theorem sp_X10_is {d : Nat} {a0 : Int32} {M : fm_M} {x : Int64 × fm_M} {Q : Option Value → fm_M → Prop} (h : F_X10_is a0 M = some x) (hq : Q (some (.long x.1)) x.2) : fm_ct d mX10_is [.int a0] M Q := by
  rw [F_X10_is] at h
  show fm_mw d mX10_is Q 0 [some (.int a0)] [] M
  refine fl_iload0 (pc := 0) dX10_is_0 ?_
  refine fm_if_eq (pc := 1) 8 (by decide) dX10_is_1 (fun c1 => ?_) (fun c1 => ?_)
  · replace h := fm_itp c1 h
    refine fm_lconstv (pc := 8) 0 (by decide) dX10_is_8 ?_
    refine fm_lret (pc := 9) rfl ?_ dX10_is_9
    cases h
    exact hq
  · replace h := fm_itn c1 h
    refine fm_lconstv (pc := 4) 1 (by decide) dX10_is_4 ?_
    refine fm_goto (pc := 5) 9 (by decide) dX10_is_5 ?_
    refine fm_lret (pc := 9) rfl ?_ dX10_is_9
    cases h
    exact hq
/-! X10_works -/
def J_X10_works_407 (l1 : Int32) (l2 : Int64) (l4 : Int64) (l6 : Int64) (M : fm_M) : Option (Int32 × fm_M) :=
    fm_gd (fm_inb ((M.1 76 32) - 1) 64) (
    fm_lt (fm_upL M 93 (Int32.toNatClampNeg ((M.1 76 32) - 1)) l6) (fun M8 =>
    if 0 < (lg_cmp l6 1000000000000) then (
      some (0, M8)
    ) else (
      if (lg_cmp l6 (-1000000000000)) < 0 then (
        some (0, M8)
      ) else (
        some (1, M8)
      )
    )))
def J_X10_works_212 (l1 : Int32) (l2 : Int64) (l4 : Int64) (M : fm_M) : Option (Int32 × fm_M) :=
    fm_lt ((l4 * l2)) (fun x6 =>
    J_X10_works_407 l1 l2 l4 x6 M)
def J_X10_works_250 (l1 : Int32) (l2 : Int64) (l4 : Int64) (s0 : Int32) (M : fm_M) : Option (Int32 × fm_M) :=
    fm_bd (F_X10_is s0 M) (fun v14 M15 =>
    J_X10_works_407 l1 l2 l4 v14 M15)
def J_X10_works_290 (l1 : Int32) (l2 : Int64) (l4 : Int64) (s0 : Int32) (M : fm_M) : Option (Int32 × fm_M) :=
    fm_bd (F_X10_is s0 M) (fun v16 M17 =>
    J_X10_works_407 l1 l2 l4 v16 M17)
def J_X10_works_270 (l1 : Int32) (l2 : Int64) (l4 : Int64) (s0 : Int32) (M : fm_M) : Option (Int32 × fm_M) :=
    fm_bd (F_X10_is s0 M) (fun v18 M19 =>
    J_X10_works_407 l1 l2 l4 v18 M19)
def J_X10_works_310 (l1 : Int32) (l2 : Int64) (l4 : Int64) (s0 : Int32) (M : fm_M) : Option (Int32 × fm_M) :=
    fm_bd (F_X10_is s0 M) (fun v20 M21 =>
    J_X10_works_407 l1 l2 l4 v20 M21)
def J_X10_works_350 (l1 : Int32) (l2 : Int64) (l4 : Int64) (s0 : Int32) (M : fm_M) : Option (Int32 × fm_M) :=
    fm_bd (F_X10_is s0 M) (fun v22 M23 =>
    J_X10_works_407 l1 l2 l4 v22 M23)
def J_X10_works_330 (l1 : Int32) (l2 : Int64) (l4 : Int64) (s0 : Int32) (M : fm_M) : Option (Int32 × fm_M) :=
    fm_bd (F_X10_is s0 M) (fun v24 M25 =>
    J_X10_works_407 l1 l2 l4 v24 M25)
def J_X10_works_376 (l1 : Int32) (l2 : Int64) (l4 : Int64) (s0 : Int32) (M : fm_M) : Option (Int32 × fm_M) :=
    fm_bd (F_X10_is s0 M) (fun v26 M27 =>
    J_X10_works_407 l1 l2 l4 v26 M27)
def J_X10_works_375 (l1 : Int32) (l2 : Int64) (l4 : Int64) (M : fm_M) : Option (Int32 × fm_M) :=
    J_X10_works_376 l1 l2 l4 0 M
def J_X10_works_402 (l1 : Int32) (l2 : Int64) (l4 : Int64) (s0 : Int32) (M : fm_M) : Option (Int32 × fm_M) :=
    fm_bd (F_X10_is s0 M) (fun v28 M29 =>
    J_X10_works_407 l1 l2 l4 v28 M29)
def J_X10_works_397 (l1 : Int32) (l2 : Int64) (l4 : Int64) (M : fm_M) : Option (Int32 × fm_M) :=
    J_X10_works_402 l1 l2 l4 1 M
def F_X10_works (a1 : Int32) (M : fm_M) : Option (Int32 × fm_M) :=
    fm_gd (fm_inb ((M.1 76 32) - 1) 64) (
    fm_lt ((M.2 93 (Int32.toNatClampNeg ((M.1 76 32) - 1)))) (fun x2 =>
    if a1 = 260 then (
      if (lg_cmp x2 0) = 0 then (
        fm_bd (F_X10_is 1 M) (fun v34 M35 =>
        fm_gd (fm_inb ((M.1 76 32) - 1) 64) (
        fm_lt (fm_upL M35 93 (Int32.toNatClampNeg ((M.1 76 32) - 1)) v34) (fun M37 =>
        some (1, M37))))
      ) else (
        fm_bd (F_X10_is 0 M) (fun v30 M31 =>
        fm_gd (fm_inb ((M.1 76 32) - 1) 64) (
        fm_lt (fm_upL M31 93 (Int32.toNatClampNeg ((M.1 76 32) - 1)) v30) (fun M33 =>
        some (1, M33))))
      )
    ) else (
      fm_gd (fm_inb ((M.1 76 32) - 2) 64) (
      fm_lt ((M.2 93 (Int32.toNatClampNeg ((M.1 76 32) - 2)))) (fun x4 =>
      fm_lt (fm_up M 76 32 ((M.1 76 32) - 1)) (fun M5 =>
      if a1 = 42 then (
        if (lg_cmp x4 0) = 0 then (
          J_X10_works_212 a1 x2 x4 M5
        ) else (
          fm_gd (fm_nzl (l_abs x4)) (
          if (lg_cmp (l_abs x2) (1000000000000 / (l_abs x4))) ≤ 0 then (
            J_X10_works_212 a1 x2 x4 M5
          ) else (
            some (0, M5)
          ))
        )
      ) else (
      if a1 = 43 then (
        fm_lt ((x4 + x2)) (fun x10 =>
        J_X10_works_407 a1 x2 x4 x10 M5)
      ) else (
      if a1 = 45 then (
        fm_lt ((x4 - x2)) (fun x11 =>
        J_X10_works_407 a1 x2 x4 x11 M5)
      ) else (
      if a1 = 47 then (
        if (lg_cmp x2 0) = 0 then (
          some (0, M5)
        ) else (
          fm_gd (fm_nzl x2) (
          fm_lt ((x4 / x2)) (fun x13 =>
          J_X10_works_407 a1 x2 x4 x13 M5))
        )
      ) else (
      if a1 = 60 then (
        if 0 ≤ (lg_cmp x4 x2) then (
          J_X10_works_250 a1 x2 x4 0 M5
        ) else (
          J_X10_works_250 a1 x2 x4 1 M5
        )
      ) else (
      if a1 = 61 then (
        if (lg_cmp x4 x2) = 0 then (
          J_X10_works_290 a1 x2 x4 1 M5
        ) else (
          J_X10_works_290 a1 x2 x4 0 M5
        )
      ) else (
      if a1 = 62 then (
        if (lg_cmp x4 x2) ≤ 0 then (
          J_X10_works_270 a1 x2 x4 0 M5
        ) else (
          J_X10_works_270 a1 x2 x4 1 M5
        )
      ) else (
      if a1 = 256 then (
        if 0 < (lg_cmp x4 x2) then (
          J_X10_works_310 a1 x2 x4 0 M5
        ) else (
          J_X10_works_310 a1 x2 x4 1 M5
        )
      ) else (
      if a1 = 257 then (
        if (lg_cmp x4 x2) = 0 then (
          J_X10_works_350 a1 x2 x4 0 M5
        ) else (
          J_X10_works_350 a1 x2 x4 1 M5
        )
      ) else (
      if a1 = 258 then (
        if (lg_cmp x4 x2) < 0 then (
          J_X10_works_330 a1 x2 x4 0 M5
        ) else (
          J_X10_works_330 a1 x2 x4 1 M5
        )
      ) else (
      if a1 = 261 then (
        if (lg_cmp x4 0) = 0 then (
          J_X10_works_375 a1 x2 x4 M5
        ) else (
          if (lg_cmp x2 0) = 0 then (
            J_X10_works_375 a1 x2 x4 M5
          ) else (
            J_X10_works_376 a1 x2 x4 1 M5
          )
        )
      ) else (
      if (lg_cmp x4 0) = 0 then (
        if (lg_cmp x2 0) = 0 then (
          J_X10_works_402 a1 x2 x4 0 M5
        ) else (
          J_X10_works_397 a1 x2 x4 M5
        )
      ) else (
        J_X10_works_397 a1 x2 x4 M5
      )))))))))))))))
    )))
theorem jn_X10_works_407 {d : Nat} {Q : Option Value → fm_M → Prop}  (l1 : Int32) (l2 : Int64) (l4 : Int64) (l6 : Int64) {x : Int32 × fm_M}  (hq : Q (some (.int x.1)) x.2) (M : fm_M) (h : J_X10_works_407 l1 l2 l4 l6 M = some x) : fm_mw (d + 1) mX10_works Q 407 [some (.ref 76), some (.int l1), some (.long l2), none, some (.long l4), none, some (.long l6), none] [] M := by
  rw [J_X10_works_407] at h
  refine fl_aload0 (pc := 407) dX10_works_407 ?_
  refine fm_getr (pc := 408) lk_10_63 sh_76 rfl dX10_works_408 ?_
  refine fl_aload0 (pc := 411) dX10_works_411 ?_
  refine fm_geti (pc := 412) lk_10_293 sh_76 rfl dX10_works_412 ?_
  refine fm_iconstv (pc := 415) 1 (by decide) dX10_works_415 ?_
  refine fm_isub (pc := 416) dX10_works_416 ?_
  refine fl_lload6 (pc := 417) dX10_works_417 ?_
  obtain ⟨g7, h⟩ := fm_gdp h
  refine fm_last (pc := 419) sh_93 (fm_inb_ok g7) dX10_works_419 ?_
  obtain ⟨M8, eM8, h⟩ := fm_ltp h
  refine fm_cgm eM8 ?_
  refine fl_lload6 (pc := 420) dX10_works_420 ?_
  refine fm_ldc2 (pc := 422) kc_10_306 dX10_works_422 ?_
  refine fm_lcmp (pc := 425) dX10_works_425 ?_
  refine fm_if_gt (pc := 426) 442 (by decide) dX10_works_426 (fun c426 => ?_) (fun c426 => ?_)
  · replace h := fm_itp c426 h
    refine fm_iconstv (pc := 442) 0 (by decide) dX10_works_442 ?_
    refine fm_zret (pc := 443) rfl (by decide) ?_ dX10_works_443
    cases h
    exact hq
  · replace h := fm_itn c426 h
    refine fl_lload6 (pc := 429) dX10_works_429 ?_
    refine fm_ldc2 (pc := 431) kc_10_308 dX10_works_431 ?_
    refine fm_lcmp (pc := 434) dX10_works_434 ?_
    refine fm_if_lt (pc := 435) 442 (by decide) dX10_works_435 (fun c435 => ?_) (fun c435 => ?_)
    · replace h := fm_itp c435 h
      refine fm_iconstv (pc := 442) 0 (by decide) dX10_works_442 ?_
      refine fm_zret (pc := 443) rfl (by decide) ?_ dX10_works_443
      cases h
      exact hq
    · replace h := fm_itn c435 h
      refine fm_iconstv (pc := 438) 1 (by decide) dX10_works_438 ?_
      refine fm_goto (pc := 439) 443 (by decide) dX10_works_439 ?_
      refine fm_zret (pc := 443) rfl (by decide) ?_ dX10_works_443
      cases h
      exact hq
theorem jn_X10_works_212 {d : Nat} {Q : Option Value → fm_M → Prop}  (l1 : Int32) (l2 : Int64) (l4 : Int64) {x : Int32 × fm_M}  (hq : Q (some (.int x.1)) x.2) (M : fm_M) (h : J_X10_works_212 l1 l2 l4 M = some x) : fm_mw (d + 1) mX10_works Q 212 [some (.ref 76), some (.int l1), some (.long l2), none, some (.long l4), none, none, none] [] M := by
  rw [J_X10_works_212] at h
  refine fl_lload4 (pc := 212) dX10_works_212 ?_
  refine fl_lload2 (pc := 214) dX10_works_214 ?_
  refine fm_lmul (pc := 215) dX10_works_215 ?_
  obtain ⟨x6, ex6, h⟩ := fm_ltp h
  refine fm_cgl ex6 ?_
  refine fl_lstore6 (pc := 216) rfl (by decide) dX10_works_216 ?_
  refine fm_goto (pc := 218) 407 (by decide) dX10_works_218 ?_
  exact jn_X10_works_407 _ _ _ _  hq _ h
theorem jn_X10_works_250 {d : Nat} {Q : Option Value → fm_M → Prop}  (l1 : Int32) (l2 : Int64) (l4 : Int64) (s0 : Int32) {x : Int32 × fm_M}  (hq : Q (some (.int x.1)) x.2) (M : fm_M) (h : J_X10_works_250 l1 l2 l4 s0 M = some x) : fm_mw (d + 1) mX10_works Q 250 [some (.ref 76), some (.int l1), some (.long l2), none, some (.long l4), none, none, none] [(.int s0)] M := by
  rw [J_X10_works_250] at h
  obtain ⟨v14, M15, ev14, h⟩ := fm_bdp h
  refine fm_callS (pc := 250) mX10_is [_] _ rfl csX10_is ml_10_296 rfl (Nat.le_of_ble_eq_true rfl) (Nat.le_of_ble_eq_true rfl) dX10_works_250 ?_
  refine sp_X10_is ev14 ?_
  refine fm_ret1 ?_
  refine fl_lstore6 (pc := 253) rfl (by decide) dX10_works_253 ?_
  refine fm_goto (pc := 255) 407 (by decide) dX10_works_255 ?_
  exact jn_X10_works_407 _ _ _ _  hq _ h
theorem jn_X10_works_290 {d : Nat} {Q : Option Value → fm_M → Prop}  (l1 : Int32) (l2 : Int64) (l4 : Int64) (s0 : Int32) {x : Int32 × fm_M}  (hq : Q (some (.int x.1)) x.2) (M : fm_M) (h : J_X10_works_290 l1 l2 l4 s0 M = some x) : fm_mw (d + 1) mX10_works Q 290 [some (.ref 76), some (.int l1), some (.long l2), none, some (.long l4), none, none, none] [(.int s0)] M := by
  rw [J_X10_works_290] at h
  obtain ⟨v16, M17, ev16, h⟩ := fm_bdp h
  refine fm_callS (pc := 290) mX10_is [_] _ rfl csX10_is ml_10_296 rfl (Nat.le_of_ble_eq_true rfl) (Nat.le_of_ble_eq_true rfl) dX10_works_290 ?_
  refine sp_X10_is ev16 ?_
  refine fm_ret1 ?_
  refine fl_lstore6 (pc := 293) rfl (by decide) dX10_works_293 ?_
  refine fm_goto (pc := 295) 407 (by decide) dX10_works_295 ?_
  exact jn_X10_works_407 _ _ _ _  hq _ h
theorem jn_X10_works_270 {d : Nat} {Q : Option Value → fm_M → Prop}  (l1 : Int32) (l2 : Int64) (l4 : Int64) (s0 : Int32) {x : Int32 × fm_M}  (hq : Q (some (.int x.1)) x.2) (M : fm_M) (h : J_X10_works_270 l1 l2 l4 s0 M = some x) : fm_mw (d + 1) mX10_works Q 270 [some (.ref 76), some (.int l1), some (.long l2), none, some (.long l4), none, none, none] [(.int s0)] M := by
  rw [J_X10_works_270] at h
  obtain ⟨v18, M19, ev18, h⟩ := fm_bdp h
  refine fm_callS (pc := 270) mX10_is [_] _ rfl csX10_is ml_10_296 rfl (Nat.le_of_ble_eq_true rfl) (Nat.le_of_ble_eq_true rfl) dX10_works_270 ?_
  refine sp_X10_is ev18 ?_
  refine fm_ret1 ?_
  refine fl_lstore6 (pc := 273) rfl (by decide) dX10_works_273 ?_
  refine fm_goto (pc := 275) 407 (by decide) dX10_works_275 ?_
  exact jn_X10_works_407 _ _ _ _  hq _ h
theorem jn_X10_works_310 {d : Nat} {Q : Option Value → fm_M → Prop}  (l1 : Int32) (l2 : Int64) (l4 : Int64) (s0 : Int32) {x : Int32 × fm_M}  (hq : Q (some (.int x.1)) x.2) (M : fm_M) (h : J_X10_works_310 l1 l2 l4 s0 M = some x) : fm_mw (d + 1) mX10_works Q 310 [some (.ref 76), some (.int l1), some (.long l2), none, some (.long l4), none, none, none] [(.int s0)] M := by
  rw [J_X10_works_310] at h
  obtain ⟨v20, M21, ev20, h⟩ := fm_bdp h
  refine fm_callS (pc := 310) mX10_is [_] _ rfl csX10_is ml_10_296 rfl (Nat.le_of_ble_eq_true rfl) (Nat.le_of_ble_eq_true rfl) dX10_works_310 ?_
  refine sp_X10_is ev20 ?_
  refine fm_ret1 ?_
  refine fl_lstore6 (pc := 313) rfl (by decide) dX10_works_313 ?_
  refine fm_goto (pc := 315) 407 (by decide) dX10_works_315 ?_
  exact jn_X10_works_407 _ _ _ _  hq _ h
theorem jn_X10_works_350 {d : Nat} {Q : Option Value → fm_M → Prop}  (l1 : Int32) (l2 : Int64) (l4 : Int64) (s0 : Int32) {x : Int32 × fm_M}  (hq : Q (some (.int x.1)) x.2) (M : fm_M) (h : J_X10_works_350 l1 l2 l4 s0 M = some x) : fm_mw (d + 1) mX10_works Q 350 [some (.ref 76), some (.int l1), some (.long l2), none, some (.long l4), none, none, none] [(.int s0)] M := by
  rw [J_X10_works_350] at h
  obtain ⟨v22, M23, ev22, h⟩ := fm_bdp h
  refine fm_callS (pc := 350) mX10_is [_] _ rfl csX10_is ml_10_296 rfl (Nat.le_of_ble_eq_true rfl) (Nat.le_of_ble_eq_true rfl) dX10_works_350 ?_
  refine sp_X10_is ev22 ?_
  refine fm_ret1 ?_
  refine fl_lstore6 (pc := 353) rfl (by decide) dX10_works_353 ?_
  refine fm_goto (pc := 355) 407 (by decide) dX10_works_355 ?_
  exact jn_X10_works_407 _ _ _ _  hq _ h
theorem jn_X10_works_330 {d : Nat} {Q : Option Value → fm_M → Prop}  (l1 : Int32) (l2 : Int64) (l4 : Int64) (s0 : Int32) {x : Int32 × fm_M}  (hq : Q (some (.int x.1)) x.2) (M : fm_M) (h : J_X10_works_330 l1 l2 l4 s0 M = some x) : fm_mw (d + 1) mX10_works Q 330 [some (.ref 76), some (.int l1), some (.long l2), none, some (.long l4), none, none, none] [(.int s0)] M := by
  rw [J_X10_works_330] at h
  obtain ⟨v24, M25, ev24, h⟩ := fm_bdp h
  refine fm_callS (pc := 330) mX10_is [_] _ rfl csX10_is ml_10_296 rfl (Nat.le_of_ble_eq_true rfl) (Nat.le_of_ble_eq_true rfl) dX10_works_330 ?_
  refine sp_X10_is ev24 ?_
  refine fm_ret1 ?_
  refine fl_lstore6 (pc := 333) rfl (by decide) dX10_works_333 ?_
  refine fm_goto (pc := 335) 407 (by decide) dX10_works_335 ?_
  exact jn_X10_works_407 _ _ _ _  hq _ h
theorem jn_X10_works_376 {d : Nat} {Q : Option Value → fm_M → Prop}  (l1 : Int32) (l2 : Int64) (l4 : Int64) (s0 : Int32) {x : Int32 × fm_M}  (hq : Q (some (.int x.1)) x.2) (M : fm_M) (h : J_X10_works_376 l1 l2 l4 s0 M = some x) : fm_mw (d + 1) mX10_works Q 376 [some (.ref 76), some (.int l1), some (.long l2), none, some (.long l4), none, none, none] [(.int s0)] M := by
  rw [J_X10_works_376] at h
  obtain ⟨v26, M27, ev26, h⟩ := fm_bdp h
  refine fm_callS (pc := 376) mX10_is [_] _ rfl csX10_is ml_10_296 rfl (Nat.le_of_ble_eq_true rfl) (Nat.le_of_ble_eq_true rfl) dX10_works_376 ?_
  refine sp_X10_is ev26 ?_
  refine fm_ret1 ?_
  refine fl_lstore6 (pc := 379) rfl (by decide) dX10_works_379 ?_
  refine fm_goto (pc := 381) 407 (by decide) dX10_works_381 ?_
  exact jn_X10_works_407 _ _ _ _  hq _ h
theorem jn_X10_works_375 {d : Nat} {Q : Option Value → fm_M → Prop}  (l1 : Int32) (l2 : Int64) (l4 : Int64) {x : Int32 × fm_M}  (hq : Q (some (.int x.1)) x.2) (M : fm_M) (h : J_X10_works_375 l1 l2 l4 M = some x) : fm_mw (d + 1) mX10_works Q 375 [some (.ref 76), some (.int l1), some (.long l2), none, some (.long l4), none, none, none] [] M := by
  rw [J_X10_works_375] at h
  refine fm_iconstv (pc := 375) 0 (by decide) dX10_works_375 ?_
  exact jn_X10_works_376 _ _ _ _  hq _ h
theorem jn_X10_works_402 {d : Nat} {Q : Option Value → fm_M → Prop}  (l1 : Int32) (l2 : Int64) (l4 : Int64) (s0 : Int32) {x : Int32 × fm_M}  (hq : Q (some (.int x.1)) x.2) (M : fm_M) (h : J_X10_works_402 l1 l2 l4 s0 M = some x) : fm_mw (d + 1) mX10_works Q 402 [some (.ref 76), some (.int l1), some (.long l2), none, some (.long l4), none, none, none] [(.int s0)] M := by
  rw [J_X10_works_402] at h
  obtain ⟨v28, M29, ev28, h⟩ := fm_bdp h
  refine fm_callS (pc := 402) mX10_is [_] _ rfl csX10_is ml_10_296 rfl (Nat.le_of_ble_eq_true rfl) (Nat.le_of_ble_eq_true rfl) dX10_works_402 ?_
  refine sp_X10_is ev28 ?_
  refine fm_ret1 ?_
  refine fl_lstore6 (pc := 405) rfl (by decide) dX10_works_405 ?_
  exact jn_X10_works_407 _ _ _ _  hq _ h
theorem jn_X10_works_397 {d : Nat} {Q : Option Value → fm_M → Prop}  (l1 : Int32) (l2 : Int64) (l4 : Int64) {x : Int32 × fm_M}  (hq : Q (some (.int x.1)) x.2) (M : fm_M) (h : J_X10_works_397 l1 l2 l4 M = some x) : fm_mw (d + 1) mX10_works Q 397 [some (.ref 76), some (.int l1), some (.long l2), none, some (.long l4), none, none, none] [] M := by
  rw [J_X10_works_397] at h
  refine fm_iconstv (pc := 397) 1 (by decide) dX10_works_397 ?_
  refine fm_goto (pc := 398) 402 (by decide) dX10_works_398 ?_
  exact jn_X10_works_402 _ _ _ _  hq _ h
theorem sp_X10_works {d : Nat} {a1 : Int32} {M : fm_M} {x : Int32 × fm_M} {Q : Option Value → fm_M → Prop} (h : F_X10_works a1 M = some x) (hq : Q (some (.int x.1)) x.2) : fm_ct (d + 1) mX10_works [.ref 76, .int a1] M Q := by
  rw [F_X10_works] at h
  show fm_mw (d + 1) mX10_works Q 0 [some (.ref 76), some (.int a1), none, none, none, none, none, none] [] M
  refine fl_aload0 (pc := 0) dX10_works_0 ?_
  refine fm_getr (pc := 1) lk_10_63 sh_76 rfl dX10_works_1 ?_
  refine fl_aload0 (pc := 4) dX10_works_4 ?_
  refine fm_geti (pc := 5) lk_10_293 sh_76 rfl dX10_works_5 ?_
  refine fm_iconstv (pc := 8) 1 (by decide) dX10_works_8 ?_
  refine fm_isub (pc := 9) dX10_works_9 ?_
  obtain ⟨g1, h⟩ := fm_gdp h
  refine fm_lald (pc := 10) sh_93 (fm_inb_ok g1) dX10_works_10 ?_
  obtain ⟨x2, ex2, h⟩ := fm_ltp h
  refine fm_cgl ex2 ?_
  refine fl_lstore2 (pc := 11) rfl (by decide) dX10_works_11 ?_
  refine fl_iload1 (pc := 12) dX10_works_12 ?_
  refine fm_sipushv (pc := 13) 260 (by decide) dX10_works_13 ?_
  refine fm_icmp_ne (pc := 16) 46 (by decide) dX10_works_16 (fun c16 => ?_) (fun c16 => ?_)
  · replace h := fm_itn c16 h
    refine fl_aload0 (pc := 46) dX10_works_46 ?_
    refine fm_getr (pc := 47) lk_10_63 sh_76 rfl dX10_works_47 ?_
    refine fl_aload0 (pc := 50) dX10_works_50 ?_
    refine fm_geti (pc := 51) lk_10_293 sh_76 rfl dX10_works_51 ?_
    refine fm_iconstv (pc := 54) 2 (by decide) dX10_works_54 ?_
    refine fm_isub (pc := 55) dX10_works_55 ?_
    obtain ⟨g3, h⟩ := fm_gdp h
    refine fm_lald (pc := 56) sh_93 (fm_inb_ok g3) dX10_works_56 ?_
    obtain ⟨x4, ex4, h⟩ := fm_ltp h
    refine fm_cgl ex4 ?_
    refine fl_lstore4 (pc := 57) rfl (by decide) dX10_works_57 ?_
    refine fl_aload0 (pc := 59) dX10_works_59 ?_
    refine fm_dup (pc := 60) rfl dX10_works_60 ?_
    refine fm_geti (pc := 61) lk_10_293 sh_76 rfl dX10_works_61 ?_
    refine fm_iconstv (pc := 64) 1 (by decide) dX10_works_64 ?_
    refine fm_isub (pc := 65) dX10_works_65 ?_
    refine fm_puti (pc := 66) lp_10_293 sh_76 rfl dX10_works_66 ?_
    obtain ⟨M5, eM5, h⟩ := fm_ltp h
    refine fm_cgm eM5 ?_
    refine fl_iload1 (pc := 69) dX10_works_69 ?_
    by_cases s70_0 : a1 = 42
    · replace h := fm_itp s70_0 h
      refine fm_lsw (pc := 70) 186 (116) (by decide) (by rw [s70_0]; rfl) (by decide) dX10_works_70 ?_
      refine fl_lload4 (pc := 186) dX10_works_186 ?_
      refine fm_lconstv (pc := 188) 0 (by decide) dX10_works_188 ?_
      refine fm_lcmp (pc := 189) dX10_works_189 ?_
      refine fm_if_eq (pc := 190) 212 (by decide) dX10_works_190 (fun c190 => ?_) (fun c190 => ?_)
      · replace h := fm_itp c190 h
        exact jn_X10_works_212 _ _ _  hq _ h
      · replace h := fm_itn c190 h
        refine fl_lload2 (pc := 193) dX10_works_193 ?_
        refine fq_mabsl (pc := 194) ml_10_300 (Nat.le_of_ble_eq_true rfl) dX10_works_194 ?_
        refine fm_ldc2 (pc := 197) kc_10_306 dX10_works_197 ?_
        refine fl_lload4 (pc := 200) dX10_works_200 ?_
        refine fq_mabsl (pc := 202) ml_10_300 (Nat.le_of_ble_eq_true rfl) dX10_works_202 ?_
        obtain ⟨g9, h⟩ := fm_gdp h
        refine fm_ldiv (pc := 205) (fm_nzl_ok g9) dX10_works_205 ?_
        refine fm_lcmp (pc := 206) dX10_works_206 ?_
        refine fm_if_le (pc := 207) 212 (by decide) dX10_works_207 (fun c207 => ?_) (fun c207 => ?_)
        · replace h := fm_itp c207 h
          exact jn_X10_works_212 _ _ _  hq _ h
        · replace h := fm_itn c207 h
          refine fm_iconstv (pc := 210) 0 (by decide) dX10_works_210 ?_
          refine fm_zret (pc := 211) rfl (by decide) ?_ dX10_works_211
          cases h
          exact hq
    · replace h := fm_itn s70_0 h
      by_cases s70_1 : a1 = 43
      · replace h := fm_itp s70_1 h
        refine fm_lsw (pc := 70) 168 (98) (by decide) (by rw [s70_1]; rfl) (by decide) dX10_works_70 ?_
        refine fl_lload4 (pc := 168) dX10_works_168 ?_
        refine fl_lload2 (pc := 170) dX10_works_170 ?_
        refine fm_ladd (pc := 171) dX10_works_171 ?_
        obtain ⟨x10, ex10, h⟩ := fm_ltp h
        refine fm_cgl ex10 ?_
        refine fl_lstore6 (pc := 172) rfl (by decide) dX10_works_172 ?_
        refine fm_goto (pc := 174) 407 (by decide) dX10_works_174 ?_
        exact jn_X10_works_407 _ _ _ _  hq _ h
      · replace h := fm_itn s70_1 h
        by_cases s70_2 : a1 = 45
        · replace h := fm_itp s70_2 h
          refine fm_lsw (pc := 70) 177 (107) (by decide) (by rw [s70_2]; rfl) (by decide) dX10_works_70 ?_
          refine fl_lload4 (pc := 177) dX10_works_177 ?_
          refine fl_lload2 (pc := 179) dX10_works_179 ?_
          refine fm_lsub (pc := 180) dX10_works_180 ?_
          obtain ⟨x11, ex11, h⟩ := fm_ltp h
          refine fm_cgl ex11 ?_
          refine fl_lstore6 (pc := 181) rfl (by decide) dX10_works_181 ?_
          refine fm_goto (pc := 183) 407 (by decide) dX10_works_183 ?_
          exact jn_X10_works_407 _ _ _ _  hq _ h
        · replace h := fm_itn s70_2 h
          by_cases s70_3 : a1 = 47
          · replace h := fm_itp s70_3 h
            refine fm_lsw (pc := 70) 221 (151) (by decide) (by rw [s70_3]; rfl) (by decide) dX10_works_70 ?_
            refine fl_lload2 (pc := 221) dX10_works_221 ?_
            refine fm_lconstv (pc := 222) 0 (by decide) dX10_works_222 ?_
            refine fm_lcmp (pc := 223) dX10_works_223 ?_
            refine fm_if_ne (pc := 224) 229 (by decide) dX10_works_224 (fun c224 => ?_) (fun c224 => ?_)
            · replace h := fm_itn c224 h
              refine fl_lload4 (pc := 229) dX10_works_229 ?_
              refine fl_lload2 (pc := 231) dX10_works_231 ?_
              obtain ⟨g12, h⟩ := fm_gdp h
              refine fm_ldiv (pc := 232) (fm_nzl_ok g12) dX10_works_232 ?_
              obtain ⟨x13, ex13, h⟩ := fm_ltp h
              refine fm_cgl ex13 ?_
              refine fl_lstore6 (pc := 233) rfl (by decide) dX10_works_233 ?_
              refine fm_goto (pc := 235) 407 (by decide) dX10_works_235 ?_
              exact jn_X10_works_407 _ _ _ _  hq _ h
            · replace h := fm_itp c224 h
              refine fm_iconstv (pc := 227) 0 (by decide) dX10_works_227 ?_
              refine fm_zret (pc := 228) rfl (by decide) ?_ dX10_works_228
              cases h
              exact hq
          · replace h := fm_itn s70_3 h
            by_cases s70_4 : a1 = 60
            · replace h := fm_itp s70_4 h
              refine fm_lsw (pc := 70) 238 (168) (by decide) (by rw [s70_4]; rfl) (by decide) dX10_works_70 ?_
              refine fl_lload4 (pc := 238) dX10_works_238 ?_
              refine fl_lload2 (pc := 240) dX10_works_240 ?_
              refine fm_lcmp (pc := 241) dX10_works_241 ?_
              refine fm_if_ge (pc := 242) 249 (by decide) dX10_works_242 (fun c242 => ?_) (fun c242 => ?_)
              · replace h := fm_itp c242 h
                refine fm_iconstv (pc := 249) 0 (by decide) dX10_works_249 ?_
                exact jn_X10_works_250 _ _ _ _  hq _ h
              · replace h := fm_itn c242 h
                refine fm_iconstv (pc := 245) 1 (by decide) dX10_works_245 ?_
                refine fm_goto (pc := 246) 250 (by decide) dX10_works_246 ?_
                exact jn_X10_works_250 _ _ _ _  hq _ h
            · replace h := fm_itn s70_4 h
              by_cases s70_5 : a1 = 61
              · replace h := fm_itp s70_5 h
                refine fm_lsw (pc := 70) 278 (208) (by decide) (by rw [s70_5]; rfl) (by decide) dX10_works_70 ?_
                refine fl_lload4 (pc := 278) dX10_works_278 ?_
                refine fl_lload2 (pc := 280) dX10_works_280 ?_
                refine fm_lcmp (pc := 281) dX10_works_281 ?_
                refine fm_if_ne (pc := 282) 289 (by decide) dX10_works_282 (fun c282 => ?_) (fun c282 => ?_)
                · replace h := fm_itn c282 h
                  refine fm_iconstv (pc := 289) 0 (by decide) dX10_works_289 ?_
                  exact jn_X10_works_290 _ _ _ _  hq _ h
                · replace h := fm_itp c282 h
                  refine fm_iconstv (pc := 285) 1 (by decide) dX10_works_285 ?_
                  refine fm_goto (pc := 286) 290 (by decide) dX10_works_286 ?_
                  exact jn_X10_works_290 _ _ _ _  hq _ h
              · replace h := fm_itn s70_5 h
                by_cases s70_6 : a1 = 62
                · replace h := fm_itp s70_6 h
                  refine fm_lsw (pc := 70) 258 (188) (by decide) (by rw [s70_6]; rfl) (by decide) dX10_works_70 ?_
                  refine fl_lload4 (pc := 258) dX10_works_258 ?_
                  refine fl_lload2 (pc := 260) dX10_works_260 ?_
                  refine fm_lcmp (pc := 261) dX10_works_261 ?_
                  refine fm_if_le (pc := 262) 269 (by decide) dX10_works_262 (fun c262 => ?_) (fun c262 => ?_)
                  · replace h := fm_itp c262 h
                    refine fm_iconstv (pc := 269) 0 (by decide) dX10_works_269 ?_
                    exact jn_X10_works_270 _ _ _ _  hq _ h
                  · replace h := fm_itn c262 h
                    refine fm_iconstv (pc := 265) 1 (by decide) dX10_works_265 ?_
                    refine fm_goto (pc := 266) 270 (by decide) dX10_works_266 ?_
                    exact jn_X10_works_270 _ _ _ _  hq _ h
                · replace h := fm_itn s70_6 h
                  by_cases s70_7 : a1 = 256
                  · replace h := fm_itp s70_7 h
                    refine fm_lsw (pc := 70) 298 (228) (by decide) (by rw [s70_7]; rfl) (by decide) dX10_works_70 ?_
                    refine fl_lload4 (pc := 298) dX10_works_298 ?_
                    refine fl_lload2 (pc := 300) dX10_works_300 ?_
                    refine fm_lcmp (pc := 301) dX10_works_301 ?_
                    refine fm_if_gt (pc := 302) 309 (by decide) dX10_works_302 (fun c302 => ?_) (fun c302 => ?_)
                    · replace h := fm_itp c302 h
                      refine fm_iconstv (pc := 309) 0 (by decide) dX10_works_309 ?_
                      exact jn_X10_works_310 _ _ _ _  hq _ h
                    · replace h := fm_itn c302 h
                      refine fm_iconstv (pc := 305) 1 (by decide) dX10_works_305 ?_
                      refine fm_goto (pc := 306) 310 (by decide) dX10_works_306 ?_
                      exact jn_X10_works_310 _ _ _ _  hq _ h
                  · replace h := fm_itn s70_7 h
                    by_cases s70_8 : a1 = 257
                    · replace h := fm_itp s70_8 h
                      refine fm_lsw (pc := 70) 338 (268) (by decide) (by rw [s70_8]; rfl) (by decide) dX10_works_70 ?_
                      refine fl_lload4 (pc := 338) dX10_works_338 ?_
                      refine fl_lload2 (pc := 340) dX10_works_340 ?_
                      refine fm_lcmp (pc := 341) dX10_works_341 ?_
                      refine fm_if_eq (pc := 342) 349 (by decide) dX10_works_342 (fun c342 => ?_) (fun c342 => ?_)
                      · replace h := fm_itp c342 h
                        refine fm_iconstv (pc := 349) 0 (by decide) dX10_works_349 ?_
                        exact jn_X10_works_350 _ _ _ _  hq _ h
                      · replace h := fm_itn c342 h
                        refine fm_iconstv (pc := 345) 1 (by decide) dX10_works_345 ?_
                        refine fm_goto (pc := 346) 350 (by decide) dX10_works_346 ?_
                        exact jn_X10_works_350 _ _ _ _  hq _ h
                    · replace h := fm_itn s70_8 h
                      by_cases s70_9 : a1 = 258
                      · replace h := fm_itp s70_9 h
                        refine fm_lsw (pc := 70) 318 (248) (by decide) (by rw [s70_9]; rfl) (by decide) dX10_works_70 ?_
                        refine fl_lload4 (pc := 318) dX10_works_318 ?_
                        refine fl_lload2 (pc := 320) dX10_works_320 ?_
                        refine fm_lcmp (pc := 321) dX10_works_321 ?_
                        refine fm_if_lt (pc := 322) 329 (by decide) dX10_works_322 (fun c322 => ?_) (fun c322 => ?_)
                        · replace h := fm_itp c322 h
                          refine fm_iconstv (pc := 329) 0 (by decide) dX10_works_329 ?_
                          exact jn_X10_works_330 _ _ _ _  hq _ h
                        · replace h := fm_itn c322 h
                          refine fm_iconstv (pc := 325) 1 (by decide) dX10_works_325 ?_
                          refine fm_goto (pc := 326) 330 (by decide) dX10_works_326 ?_
                          exact jn_X10_works_330 _ _ _ _  hq _ h
                      · replace h := fm_itn s70_9 h
                        by_cases s70_10 : a1 = 261
                        · replace h := fm_itp s70_10 h
                          refine fm_lsw (pc := 70) 358 (288) (by decide) (by rw [s70_10]; rfl) (by decide) dX10_works_70 ?_
                          refine fl_lload4 (pc := 358) dX10_works_358 ?_
                          refine fm_lconstv (pc := 360) 0 (by decide) dX10_works_360 ?_
                          refine fm_lcmp (pc := 361) dX10_works_361 ?_
                          refine fm_if_eq (pc := 362) 375 (by decide) dX10_works_362 (fun c362 => ?_) (fun c362 => ?_)
                          · replace h := fm_itp c362 h
                            exact jn_X10_works_375 _ _ _  hq _ h
                          · replace h := fm_itn c362 h
                            refine fl_lload2 (pc := 365) dX10_works_365 ?_
                            refine fm_lconstv (pc := 366) 0 (by decide) dX10_works_366 ?_
                            refine fm_lcmp (pc := 367) dX10_works_367 ?_
                            refine fm_if_eq (pc := 368) 375 (by decide) dX10_works_368 (fun c368 => ?_) (fun c368 => ?_)
                            · replace h := fm_itp c368 h
                              exact jn_X10_works_375 _ _ _  hq _ h
                            · replace h := fm_itn c368 h
                              refine fm_iconstv (pc := 371) 1 (by decide) dX10_works_371 ?_
                              refine fm_goto (pc := 372) 376 (by decide) dX10_works_372 ?_
                              exact jn_X10_works_376 _ _ _ _  hq _ h
                        · replace h := fm_itn s70_10 h
                          refine fm_lsw (pc := 70) 384 (314) (by decide) (by show Op.lookupswitch.offset [(42, 116), (43, 98), (45, 107), (47, 151), (60, 168), (61, 208), (62, 188), (256, 228), (257, 268), (258, 248), (261, 288)] (314) _ = _; rw [lv_osw (k := 42) (a := 42) s70_0 rfl]; rw [lv_osw (k := 43) (a := 43) s70_1 rfl]; rw [lv_osw (k := 45) (a := 45) s70_2 rfl]; rw [lv_osw (k := 47) (a := 47) s70_3 rfl]; rw [lv_osw (k := 60) (a := 60) s70_4 rfl]; rw [lv_osw (k := 61) (a := 61) s70_5 rfl]; rw [lv_osw (k := 62) (a := 62) s70_6 rfl]; rw [lv_osw (k := 256) (a := 256) s70_7 rfl]; rw [lv_osw (k := 257) (a := 257) s70_8 rfl]; rw [lv_osw (k := 258) (a := 258) s70_9 rfl]; rw [lv_osw (k := 261) (a := 261) s70_10 rfl]; rfl) (by decide) dX10_works_70 ?_
                          refine fl_lload4 (pc := 384) dX10_works_384 ?_
                          refine fm_lconstv (pc := 386) 0 (by decide) dX10_works_386 ?_
                          refine fm_lcmp (pc := 387) dX10_works_387 ?_
                          refine fm_if_ne (pc := 388) 397 (by decide) dX10_works_388 (fun c388 => ?_) (fun c388 => ?_)
                          · replace h := fm_itn c388 h
                            exact jn_X10_works_397 _ _ _  hq _ h
                          · replace h := fm_itp c388 h
                            refine fl_lload2 (pc := 391) dX10_works_391 ?_
                            refine fm_lconstv (pc := 392) 0 (by decide) dX10_works_392 ?_
                            refine fm_lcmp (pc := 393) dX10_works_393 ?_
                            refine fm_if_eq (pc := 394) 401 (by decide) dX10_works_394 (fun c394 => ?_) (fun c394 => ?_)
                            · replace h := fm_itp c394 h
                              refine fm_iconstv (pc := 401) 0 (by decide) dX10_works_401 ?_
                              exact jn_X10_works_402 _ _ _ _  hq _ h
                            · replace h := fm_itn c394 h
                              exact jn_X10_works_397 _ _ _  hq _ h
  · replace h := fm_itp c16 h
    refine fl_aload0 (pc := 19) dX10_works_19 ?_
    refine fm_getr (pc := 20) lk_10_63 sh_76 rfl dX10_works_20 ?_
    refine fl_aload0 (pc := 23) dX10_works_23 ?_
    refine fm_geti (pc := 24) lk_10_293 sh_76 rfl dX10_works_24 ?_
    refine fm_iconstv (pc := 27) 1 (by decide) dX10_works_27 ?_
    refine fm_isub (pc := 28) dX10_works_28 ?_
    refine fl_lload2 (pc := 29) dX10_works_29 ?_
    refine fm_lconstv (pc := 30) 0 (by decide) dX10_works_30 ?_
    refine fm_lcmp (pc := 31) dX10_works_31 ?_
    refine fm_if_ne (pc := 32) 39 (by decide) dX10_works_32 (fun c32 => ?_) (fun c32 => ?_)
    · replace h := fm_itn c32 h
      refine fm_iconstv (pc := 39) 0 (by decide) dX10_works_39 ?_
      obtain ⟨v30, M31, ev30, h⟩ := fm_bdp h
      refine fm_callS (pc := 40) mX10_is [_] _ rfl csX10_is ml_10_296 rfl (Nat.le_of_ble_eq_true rfl) (Nat.le_of_ble_eq_true rfl) dX10_works_40 ?_
      refine sp_X10_is ev30 ?_
      refine fm_ret1 ?_
      obtain ⟨g32, h⟩ := fm_gdp h
      refine fm_last (pc := 43) sh_93 (fm_inb_ok g32) dX10_works_43 ?_
      obtain ⟨M33, eM33, h⟩ := fm_ltp h
      refine fm_cgm eM33 ?_
      refine fm_iconstv (pc := 44) 1 (by decide) dX10_works_44 ?_
      refine fm_zret (pc := 45) rfl (by decide) ?_ dX10_works_45
      cases h
      exact hq
    · replace h := fm_itp c32 h
      refine fm_iconstv (pc := 35) 1 (by decide) dX10_works_35 ?_
      refine fm_goto (pc := 36) 40 (by decide) dX10_works_36 ?_
      obtain ⟨v34, M35, ev34, h⟩ := fm_bdp h
      refine fm_callS (pc := 40) mX10_is [_] _ rfl csX10_is ml_10_296 rfl (Nat.le_of_ble_eq_true rfl) (Nat.le_of_ble_eq_true rfl) dX10_works_40 ?_
      refine sp_X10_is ev34 ?_
      refine fm_ret1 ?_
      obtain ⟨g36, h⟩ := fm_gdp h
      refine fm_last (pc := 43) sh_93 (fm_inb_ok g36) dX10_works_43 ?_
      obtain ⟨M37, eM37, h⟩ := fm_ltp h
      refine fm_cgm eM37 ?_
      refine fm_iconstv (pc := 44) 1 (by decide) dX10_works_44 ?_
      refine fm_zret (pc := 45) rfl (by decide) ?_ dX10_works_45
      cases h
      exact hq
/-! X10_goes -/
def J_X10_goes_85 (rec : Int32 → fm_M → Option (((Int32) ⊕ Int32) × fm_M)) (l1 : Int32) (l2 : Int32) (s1 : Int32) (s2 : Int64) (M : fm_M) : Option (((Int32) ⊕ Int32) × fm_M) :=
    fm_gd (fm_inb s1 64) (
    fm_lt (fm_upL M 93 (Int32.toNatClampNeg s1) s2) (fun M10 =>
    fm_lt (fm_up M10 76 32 ((M10.1 76 32) + 1)) (fun M11 =>
    rec (l2 + 1) M11)))
def G_X10_goes_12 : Nat → Int32 → Int32 → fm_M → Option (((Int32) ⊕ Int32) × fm_M)
  | 0, _, _, _ => none
  | n + 1, l1, l2, M =>
    fm_gd (fm_inb l1 6) (
    if (M.1 89 (Int32.toNatClampNeg l1)) ≤ l2 then (
      some (.inl l2, M)
    ) else (
      fm_gd (fm_inb l2 128) (
      if (M.1 90 (Int32.toNatClampNeg l2)) = 2 then (
        fm_gd (fm_inb l2 128) (
        fm_bd (F_X10_works (M.1 91 (Int32.toNatClampNeg l2)) M) (fun v14 M15 =>
        if v14 = 0 then (
          some (.inr 0, M15)
        ) else (
          G_X10_goes_12 n l1 (l2 + 1) M15
        )))
      ) else (
        fm_gd (fm_inb l2 128) (
        if (M.1 90 (Int32.toNatClampNeg l2)) = 0 then (
          fm_gd (fm_inb l2 128) (
          J_X10_goes_85 (G_X10_goes_12 n l1) l1 l2 (M.1 76 32) (Int32.toInt64 (M.1 91 (Int32.toNatClampNeg l2))) M)
        ) else (
          fm_gd (fm_inb l2 128) (
          fm_gd (fm_inb (M.1 91 (Int32.toNatClampNeg l2)) 7) (
          J_X10_goes_85 (G_X10_goes_12 n l1) l1 l2 (M.1 76 32) (M.2 92 (Int32.toNatClampNeg (M.1 91 (Int32.toNatClampNeg l2)))) M))
        ))
      ))
    ))
def F_X10_goes (a1 : Int32) (M : fm_M) : Option (Int32 × fm_M) :=
    fm_lt (fm_up M 76 32 0) (fun M1 =>
    fm_gd (fm_inb a1 6) (
    fm_lt ((M1.1 88 (Int32.toNatClampNeg a1))) (fun x3 =>
    fm_bs (G_X10_goes_12 fm_fuel a1 x3 M1) (fun w16 M17 =>
      some (1, M17)) (fun r18 M => some (r18, M)))))
theorem jn_X10_goes_85 {d : Nat} {Q : Option Value → fm_M → Prop} (rec : Int32 → fm_M → Option (((Int32) ⊕ Int32) × fm_M))  (l1 : Int32) (l2 : Int32) (s1 : Int32) (s2 : Int64) {x : ((Int32) ⊕ Int32) × fm_M}  (ih : ∀ (l2 : Int32) (M : fm_M), rec l2 M = some x → fm_mw (d + 2) mX10_goes Q 12 [some (.ref 76), some (.int l1), some (.int l2)] [] M) (k1 : ∀ (v : Int32) (M2 : fm_M), x = (.inl v, M2) → fm_mw (d + 2) mX10_goes Q 102 [some (.ref 76), some (.int l1), some (.int v)] [] M2) (k2 : ∀ (r : Int32) (M2 : fm_M), x = (.inr r, M2) → Q (some (.int r)) M2) (M : fm_M) (h : J_X10_goes_85 rec l1 l2 s1 s2 M = some x) : fm_mw (d + 2) mX10_goes Q 85 [some (.ref 76), some (.int l1), some (.int l2)] [(.long s2), (.int s1), (.ref 93)] M := by
  rw [J_X10_goes_85] at h
  obtain ⟨g9, h⟩ := fm_gdp h
  refine fm_last (pc := 85) sh_93 (fm_inb_ok g9) dX10_goes_85 ?_
  obtain ⟨M10, eM10, h⟩ := fm_ltp h
  refine fm_cgm eM10 ?_
  refine fl_aload0 (pc := 86) dX10_goes_86 ?_
  refine fm_dup (pc := 87) rfl dX10_goes_87 ?_
  refine fm_geti (pc := 88) lk_10_293 sh_76 rfl dX10_goes_88 ?_
  refine fm_iconstv (pc := 91) 1 (by decide) dX10_goes_91 ?_
  refine fm_iadd (pc := 92) dX10_goes_92 ?_
  refine fm_puti (pc := 93) lp_10_293 sh_76 rfl dX10_goes_93 ?_
  obtain ⟨M11, eM11, h⟩ := fm_ltp h
  refine fm_cgm eM11 ?_
  refine fl_iinc2 (pc := 96) rfl 1 (by decide) (by decide) dX10_goes_96 ?_
  refine fm_goto (pc := 99) 12 (by decide) dX10_goes_99 ?_
  refine fm_fgt [some (.ref 76), some (.int l1), some (.int (l2 + 1))] (by simp [fm_sub]) ?_
  exact ih _ _ h
theorem lp_X10_goes_12 {d : Nat} {Q : Option Value → fm_M → Prop} {l1 : Int32}   {x : ((Int32) ⊕ Int32) × fm_M} (k1 : ∀ (v : Int32) (M2 : fm_M), x = (.inl v, M2) → fm_mw (d + 2) mX10_goes Q 102 [some (.ref 76), some (.int l1), some (.int v)] [] M2) (k2 : ∀ (r : Int32) (M2 : fm_M), x = (.inr r, M2) → Q (some (.int r)) M2) : ∀ (n : Nat) (l2 : Int32) (M : fm_M), G_X10_goes_12 n l1 l2 M = some x → fm_mw (d + 2) mX10_goes Q 12 [some (.ref 76), some (.int l1), some (.int l2)] [] M := by
  intro n
  induction n with
  | zero => intro l2 M h; simp [G_X10_goes_12] at h
  | succ n ih =>
    intro l2 M h
    rw [G_X10_goes_12] at h
    refine fl_iload2 (pc := 12) dX10_goes_12 ?_
    refine fl_aload0 (pc := 13) dX10_goes_13 ?_
    refine fm_getr (pc := 14) lk_10_46 sh_76 rfl dX10_goes_14 ?_
    refine fl_iload1 (pc := 17) dX10_goes_17 ?_
    obtain ⟨g4, h⟩ := fm_gdp h
    refine fm_iald (pc := 18) sh_89 (fm_inb_ok g4) dX10_goes_18 ?_
    refine fm_icmp_ge (pc := 19) 102 (by decide) dX10_goes_19 (fun c19 => ?_) (fun c19 => ?_)
    · replace h := fm_itp c19 h
      refine fm_fgt [some (.ref 76), some (.int l1), some (.int l2)] (by simp [fm_sub]) ?_
      cases h
      exact k1 _ _ rfl
    · replace h := fm_itn c19 h
      refine fl_aload0 (pc := 22) dX10_goes_22 ?_
      refine fm_getr (pc := 23) lk_10_49 sh_76 rfl dX10_goes_23 ?_
      refine fl_iload2 (pc := 26) dX10_goes_26 ?_
      obtain ⟨g5, h⟩ := fm_gdp h
      refine fm_iald (pc := 27) sh_90 (fm_inb_ok g5) dX10_goes_27 ?_
      refine fm_iconstv (pc := 28) 2 (by decide) dX10_goes_28 ?_
      refine fm_icmp_ne (pc := 29) 47 (by decide) dX10_goes_29 (fun c29 => ?_) (fun c29 => ?_)
      · replace h := fm_itn c29 h
        refine fl_aload0 (pc := 47) dX10_goes_47 ?_
        refine fm_getr (pc := 48) lk_10_63 sh_76 rfl dX10_goes_48 ?_
        refine fl_aload0 (pc := 51) dX10_goes_51 ?_
        refine fm_geti (pc := 52) lk_10_293 sh_76 rfl dX10_goes_52 ?_
        refine fl_aload0 (pc := 55) dX10_goes_55 ?_
        refine fm_getr (pc := 56) lk_10_49 sh_76 rfl dX10_goes_56 ?_
        refine fl_iload2 (pc := 59) dX10_goes_59 ?_
        obtain ⟨g6, h⟩ := fm_gdp h
        refine fm_iald (pc := 60) sh_90 (fm_inb_ok g6) dX10_goes_60 ?_
        refine fm_if_ne (pc := 61) 74 (by decide) dX10_goes_61 (fun c61 => ?_) (fun c61 => ?_)
        · replace h := fm_itn c61 h
          refine fl_aload0 (pc := 74) dX10_goes_74 ?_
          refine fm_getr (pc := 75) lk_10_59 sh_76 rfl dX10_goes_75 ?_
          refine fl_aload0 (pc := 78) dX10_goes_78 ?_
          refine fm_getr (pc := 79) lk_10_52 sh_76 rfl dX10_goes_79 ?_
          refine fl_iload2 (pc := 82) dX10_goes_82 ?_
          obtain ⟨g7, h⟩ := fm_gdp h
          refine fm_iald (pc := 83) sh_91 (fm_inb_ok g7) dX10_goes_83 ?_
          obtain ⟨g8, h⟩ := fm_gdp h
          refine fm_lald (pc := 84) sh_92 (fm_inb_ok g8) dX10_goes_84 ?_
          exact jn_X10_goes_85 _ _ _ _ _  ih k1 k2 _ h
        · replace h := fm_itp c61 h
          refine fl_aload0 (pc := 64) dX10_goes_64 ?_
          refine fm_getr (pc := 65) lk_10_52 sh_76 rfl dX10_goes_65 ?_
          refine fl_iload2 (pc := 68) dX10_goes_68 ?_
          obtain ⟨g12, h⟩ := fm_gdp h
          refine fm_iald (pc := 69) sh_91 (fm_inb_ok g12) dX10_goes_69 ?_
          refine fm_i2l (pc := 70) dX10_goes_70 ?_
          refine fm_goto (pc := 71) 85 (by decide) dX10_goes_71 ?_
          exact jn_X10_goes_85 _ _ _ _ _  ih k1 k2 _ h
      · replace h := fm_itp c29 h
        refine fl_aload0 (pc := 32) dX10_goes_32 ?_
        refine fl_aload0 (pc := 33) dX10_goes_33 ?_
        refine fm_getr (pc := 34) lk_10_52 sh_76 rfl dX10_goes_34 ?_
        refine fl_iload2 (pc := 37) dX10_goes_37 ?_
        obtain ⟨g13, h⟩ := fm_gdp h
        refine fm_iald (pc := 38) sh_91 (fm_inb_ok g13) dX10_goes_38 ?_
        obtain ⟨v14, M15, ev14, h⟩ := fm_bdp h
        refine fm_callV (pc := 39) mX10_works [_] _ rfl cvX10_works ml_10_310 sh_76 rfl rfl (Nat.le_of_ble_eq_true rfl) (Nat.le_of_ble_eq_true rfl) dX10_goes_39 ?_
        refine sp_X10_works ev14 ?_
        refine fm_ret1 ?_
        refine fm_if_ne (pc := 42) 96 (by decide) dX10_goes_42 (fun c42 => ?_) (fun c42 => ?_)
        · replace h := fm_itn c42 h
          refine fl_iinc2 (pc := 96) rfl 1 (by decide) (by decide) dX10_goes_96 ?_
          refine fm_goto (pc := 99) 12 (by decide) dX10_goes_99 ?_
          refine fm_fgt [some (.ref 76), some (.int l1), some (.int (l2 + 1))] (by simp [fm_sub]) ?_
          exact ih _ _ h
        · replace h := fm_itp c42 h
          refine fm_iconstv (pc := 45) 0 (by decide) dX10_goes_45 ?_
          refine fm_zret (pc := 46) rfl (by decide) ?_ dX10_goes_46
          cases h
          exact k2 _ _ rfl
theorem sp_X10_goes {d : Nat} {a1 : Int32} {M : fm_M} {x : Int32 × fm_M} {Q : Option Value → fm_M → Prop} (h : F_X10_goes a1 M = some x) (hq : Q (some (.int x.1)) x.2) : fm_ct (d + 2) mX10_goes [.ref 76, .int a1] M Q := by
  rw [F_X10_goes] at h
  show fm_mw (d + 2) mX10_goes Q 0 [some (.ref 76), some (.int a1), none] [] M
  refine fl_aload0 (pc := 0) dX10_goes_0 ?_
  refine fm_iconstv (pc := 1) 0 (by decide) dX10_goes_1 ?_
  refine fm_puti (pc := 2) lp_10_293 sh_76 rfl dX10_goes_2 ?_
  obtain ⟨M1, eM1, h⟩ := fm_ltp h
  refine fm_cgm eM1 ?_
  refine fl_aload0 (pc := 5) dX10_goes_5 ?_
  refine fm_getr (pc := 6) lk_10_43 sh_76 rfl dX10_goes_6 ?_
  refine fl_iload1 (pc := 9) dX10_goes_9 ?_
  obtain ⟨g2, h⟩ := fm_gdp h
  refine fm_iald (pc := 10) sh_88 (fm_inb_ok g2) dX10_goes_10 ?_
  obtain ⟨x3, ex3, h⟩ := fm_ltp h
  refine fm_cgi ex3 ?_
  refine fl_istore2 (pc := 11) rfl (by decide) dX10_goes_11 ?_
  obtain ⟨w9, M17, ew16, hl9, hr9⟩ := fm_bsp h
  refine lp_X10_goes_12  ?_ ?_ _ _ _ ew16
  · intro w16 M9 q9
    cases q9
    replace h := hl9 _ rfl
    refine fm_iconstv (pc := 102) 1 (by decide) dX10_goes_102 ?_
    refine fm_zret (pc := 103) rfl (by decide) ?_ dX10_goes_103
    cases h
    exact hq
  · intro r9 M9 q9
    cases q9
    replace h := hr9 _ rfl
    cases h
    exact hq
/-! X10_hasLaw -/
def F_X10_hasLaw (a1 : Int32) (M : fm_M) : Option (Int32 × fm_M) :=
    fm_gd (fm_inb a1 6) (
    fm_gd (fm_inb a1 6) (
    if (M.1 89 (Int32.toNatClampNeg a1)) ≤ (M.1 88 (Int32.toNatClampNeg a1)) then (
      some (0, M)
    ) else (
      some (1, M)
    )))
theorem sp_X10_hasLaw {d : Nat} {a1 : Int32} {M : fm_M} {x : Int32 × fm_M} {Q : Option Value → fm_M → Prop} (h : F_X10_hasLaw a1 M = some x) (hq : Q (some (.int x.1)) x.2) : fm_ct d mX10_hasLaw [.ref 76, .int a1] M Q := by
  rw [F_X10_hasLaw] at h
  show fm_mw d mX10_hasLaw Q 0 [some (.ref 76), some (.int a1)] [] M
  refine fl_aload0 (pc := 0) dX10_hasLaw_0 ?_
  refine fm_getr (pc := 1) lk_10_46 sh_76 rfl dX10_hasLaw_1 ?_
  refine fl_iload1 (pc := 4) dX10_hasLaw_4 ?_
  obtain ⟨g1, h⟩ := fm_gdp h
  refine fm_iald (pc := 5) sh_89 (fm_inb_ok g1) dX10_hasLaw_5 ?_
  refine fl_aload0 (pc := 6) dX10_hasLaw_6 ?_
  refine fm_getr (pc := 7) lk_10_43 sh_76 rfl dX10_hasLaw_7 ?_
  refine fl_iload1 (pc := 10) dX10_hasLaw_10 ?_
  obtain ⟨g2, h⟩ := fm_gdp h
  refine fm_iald (pc := 11) sh_88 (fm_inb_ok g2) dX10_hasLaw_11 ?_
  refine fm_icmp_le (pc := 12) 19 (by decide) dX10_hasLaw_12 (fun c12 => ?_) (fun c12 => ?_)
  · replace h := fm_itp c12 h
    refine fm_iconstv (pc := 19) 0 (by decide) dX10_hasLaw_19 ?_
    refine fm_zret (pc := 20) rfl (by decide) ?_ dX10_hasLaw_20
    cases h
    exact hq
  · replace h := fm_itn c12 h
    refine fm_iconstv (pc := 15) 1 (by decide) dX10_hasLaw_15 ?_
    refine fm_goto (pc := 16) 20 (by decide) dX10_hasLaw_16 ?_
    refine fm_zret (pc := 20) rfl (by decide) ?_ dX10_hasLaw_20
    cases h
    exact hq
/-! X10_copies -/
def G_X10_copies_50 : Nat → Int32 → Int32 → Int32 → fm_M → Option ((Int32) × fm_M)
  | 0, _, _, _, _ => none
  | n + 1, l1, l2, l3, M =>
    if 8 ≤ l3 then (
      some (l3, M)
    ) else (
      fm_gd (fm_inb ((8 * l2) + l3) 184) (
      fm_gd (fm_inb ((8 * l1) + l3) 184) (
      fm_lt (fm_up M 98 (Int32.toNatClampNeg ((8 * l1) + l3)) (M.1 98 (Int32.toNatClampNeg ((8 * l2) + l3)))) (fun M15 =>
      G_X10_copies_50 n l1 l2 (l3 + 1) M15)))
    )
def G_X10_copies_86 : Nat → Int32 → Int32 → Int32 → fm_M → Option ((Int32) × fm_M)
  | 0, _, _, _, _ => none
  | n + 1, l1, l2, l3, M =>
    if 10 ≤ l3 then (
      some (l3, M)
    ) else (
      fm_gd (fm_inb ((10 * l2) + l3) 230) (
      fm_gd (fm_inb ((10 * l1) + l3) 230) (
      fm_lt (fm_up M 99 (Int32.toNatClampNeg ((10 * l1) + l3)) (M.1 99 (Int32.toNatClampNeg ((10 * l2) + l3)))) (fun M20 =>
      fm_gd (fm_inb ((10 * l2) + l3) 230) (
      fm_gd (fm_inb ((10 * l1) + l3) 230) (
      fm_lt (fm_up M20 100 (Int32.toNatClampNeg ((10 * l1) + l3)) (M20.1 100 (Int32.toNatClampNeg ((10 * l2) + l3)))) (fun M23 =>
      fm_gd (fm_inb ((10 * l2) + l3) 230) (
      fm_gd (fm_inb ((10 * l1) + l3) 230) (
      fm_lt (fm_up M23 101 (Int32.toNatClampNeg ((10 * l1) + l3)) (M23.1 101 (Int32.toNatClampNeg ((10 * l2) + l3)))) (fun M26 =>
      G_X10_copies_86 n l1 l2 (l3 + 1) M26)))))))))
    )
def F_X10_copies (a1 : Int32) (a2 : Int32) (M : fm_M) : Option (Unit × fm_M) :=
    fm_gd (fm_inb a2 23) (
    fm_gd (fm_inb a1 23) (
    fm_lt (fm_up M 94 (Int32.toNatClampNeg a1) (M.1 94 (Int32.toNatClampNeg a2))) (fun M3 =>
    fm_gd (fm_inb a2 23) (
    fm_gd (fm_inb a1 23) (
    fm_lt (fm_up M3 95 (Int32.toNatClampNeg a1) (M3.1 95 (Int32.toNatClampNeg a2))) (fun M6 =>
    fm_gd (fm_inb a2 23) (
    fm_gd (fm_inb a1 23) (
    fm_lt (fm_up M6 96 (Int32.toNatClampNeg a1) (M6.1 96 (Int32.toNatClampNeg a2))) (fun M9 =>
    fm_gd (fm_inb a2 23) (
    fm_gd (fm_inb a1 23) (
    fm_lt (fm_up M9 97 (Int32.toNatClampNeg a1) (M9.1 97 (Int32.toNatClampNeg a2))) (fun M12 =>
    fm_bd (G_X10_copies_50 fm_fuel a1 a2 0 M12) (fun w16 M17 =>
      fm_bd (G_X10_copies_86 fm_fuel a1 a2 0 M17) (fun w27 M28 =>
        some ((), M28)))))))))))))))
theorem lp_X10_copies_50 {d : Nat} {Q : Option Value → fm_M → Prop} {l1 : Int32} {l2 : Int32}   {x : (Int32) × fm_M} (k1 : ∀ (v : Int32) (M2 : fm_M), x = (v, M2) → fm_mw d mX10_copies Q 84 [some (.ref 76), some (.int l1), some (.int l2), some (.int v)] [] M2) : ∀ (n : Nat) (l3 : Int32) (M : fm_M), G_X10_copies_50 n l1 l2 l3 M = some x → fm_mw d mX10_copies Q 50 [some (.ref 76), some (.int l1), some (.int l2), some (.int l3)] [] M := by
  intro n
  induction n with
  | zero => intro l3 M h; simp [G_X10_copies_50] at h
  | succ n ih =>
    intro l3 M h
    rw [G_X10_copies_50] at h
    refine fl_iload3 (pc := 50) dX10_copies_50 ?_
    refine fm_bipushv (pc := 51) 8 (by decide) dX10_copies_51 ?_
    refine fm_icmp_ge (pc := 53) 84 (by decide) dX10_copies_53 (fun c53 => ?_) (fun c53 => ?_)
    · replace h := fm_itp c53 h
      refine fm_fgt [some (.ref 76), some (.int l1), some (.int l2), some (.int l3)] (by simp [fm_sub]) ?_
      cases h
      exact k1 _ _ rfl
    · replace h := fm_itn c53 h
      refine fl_aload0 (pc := 56) dX10_copies_56 ?_
      refine fm_getr (pc := 57) lk_10_78 sh_76 rfl dX10_copies_57 ?_
      refine fm_bipushv (pc := 60) 8 (by decide) dX10_copies_60 ?_
      refine fl_iload1 (pc := 62) dX10_copies_62 ?_
      refine fm_imul (pc := 63) dX10_copies_63 ?_
      refine fl_iload3 (pc := 64) dX10_copies_64 ?_
      refine fm_iadd (pc := 65) dX10_copies_65 ?_
      refine fl_aload0 (pc := 66) dX10_copies_66 ?_
      refine fm_getr (pc := 67) lk_10_78 sh_76 rfl dX10_copies_67 ?_
      refine fm_bipushv (pc := 70) 8 (by decide) dX10_copies_70 ?_
      refine fl_iload2 (pc := 72) dX10_copies_72 ?_
      refine fm_imul (pc := 73) dX10_copies_73 ?_
      refine fl_iload3 (pc := 74) dX10_copies_74 ?_
      refine fm_iadd (pc := 75) dX10_copies_75 ?_
      obtain ⟨g13, h⟩ := fm_gdp h
      refine fm_iald (pc := 76) sh_98 (fm_inb_ok g13) dX10_copies_76 ?_
      obtain ⟨g14, h⟩ := fm_gdp h
      refine fm_iast (pc := 77) sh_98 (fm_inb_ok g14) dX10_copies_77 ?_
      obtain ⟨M15, eM15, h⟩ := fm_ltp h
      refine fm_cgm eM15 ?_
      refine fl_iinc3 (pc := 78) rfl 1 (by decide) (by decide) dX10_copies_78 ?_
      refine fm_goto (pc := 81) 50 (by decide) dX10_copies_81 ?_
      refine fm_fgt [some (.ref 76), some (.int l1), some (.int l2), some (.int (l3 + 1))] (by simp [fm_sub]) ?_
      exact ih _ _ h
theorem lp_X10_copies_86 {d : Nat} {Q : Option Value → fm_M → Prop} {l1 : Int32} {l2 : Int32}   {x : (Int32) × fm_M} (k1 : ∀ (v : Int32) (M2 : fm_M), x = (v, M2) → fm_mw d mX10_copies Q 164 [some (.ref 76), some (.int l1), some (.int l2), some (.int v)] [] M2) : ∀ (n : Nat) (l3 : Int32) (M : fm_M), G_X10_copies_86 n l1 l2 l3 M = some x → fm_mw d mX10_copies Q 86 [some (.ref 76), some (.int l1), some (.int l2), some (.int l3)] [] M := by
  intro n
  induction n with
  | zero => intro l3 M h; simp [G_X10_copies_86] at h
  | succ n ih =>
    intro l3 M h
    rw [G_X10_copies_86] at h
    refine fl_iload3 (pc := 86) dX10_copies_86 ?_
    refine fm_bipushv (pc := 87) 10 (by decide) dX10_copies_87 ?_
    refine fm_icmp_ge (pc := 89) 164 (by decide) dX10_copies_89 (fun c89 => ?_) (fun c89 => ?_)
    · replace h := fm_itp c89 h
      refine fm_fgt [some (.ref 76), some (.int l1), some (.int l2), some (.int l3)] (by simp [fm_sub]) ?_
      cases h
      exact k1 _ _ rfl
    · replace h := fm_itn c89 h
      refine fl_aload0 (pc := 92) dX10_copies_92 ?_
      refine fm_getr (pc := 93) lk_10_81 sh_76 rfl dX10_copies_93 ?_
      refine fm_bipushv (pc := 96) 10 (by decide) dX10_copies_96 ?_
      refine fl_iload1 (pc := 98) dX10_copies_98 ?_
      refine fm_imul (pc := 99) dX10_copies_99 ?_
      refine fl_iload3 (pc := 100) dX10_copies_100 ?_
      refine fm_iadd (pc := 101) dX10_copies_101 ?_
      refine fl_aload0 (pc := 102) dX10_copies_102 ?_
      refine fm_getr (pc := 103) lk_10_81 sh_76 rfl dX10_copies_103 ?_
      refine fm_bipushv (pc := 106) 10 (by decide) dX10_copies_106 ?_
      refine fl_iload2 (pc := 108) dX10_copies_108 ?_
      refine fm_imul (pc := 109) dX10_copies_109 ?_
      refine fl_iload3 (pc := 110) dX10_copies_110 ?_
      refine fm_iadd (pc := 111) dX10_copies_111 ?_
      obtain ⟨g18, h⟩ := fm_gdp h
      refine fm_iald (pc := 112) sh_99 (fm_inb_ok g18) dX10_copies_112 ?_
      obtain ⟨g19, h⟩ := fm_gdp h
      refine fm_iast (pc := 113) sh_99 (fm_inb_ok g19) dX10_copies_113 ?_
      obtain ⟨M20, eM20, h⟩ := fm_ltp h
      refine fm_cgm eM20 ?_
      refine fl_aload0 (pc := 114) dX10_copies_114 ?_
      refine fm_getr (pc := 115) lk_10_84 sh_76 rfl dX10_copies_115 ?_
      refine fm_bipushv (pc := 118) 10 (by decide) dX10_copies_118 ?_
      refine fl_iload1 (pc := 120) dX10_copies_120 ?_
      refine fm_imul (pc := 121) dX10_copies_121 ?_
      refine fl_iload3 (pc := 122) dX10_copies_122 ?_
      refine fm_iadd (pc := 123) dX10_copies_123 ?_
      refine fl_aload0 (pc := 124) dX10_copies_124 ?_
      refine fm_getr (pc := 125) lk_10_84 sh_76 rfl dX10_copies_125 ?_
      refine fm_bipushv (pc := 128) 10 (by decide) dX10_copies_128 ?_
      refine fl_iload2 (pc := 130) dX10_copies_130 ?_
      refine fm_imul (pc := 131) dX10_copies_131 ?_
      refine fl_iload3 (pc := 132) dX10_copies_132 ?_
      refine fm_iadd (pc := 133) dX10_copies_133 ?_
      obtain ⟨g21, h⟩ := fm_gdp h
      refine fm_iald (pc := 134) sh_100 (fm_inb_ok g21) dX10_copies_134 ?_
      obtain ⟨g22, h⟩ := fm_gdp h
      refine fm_iast (pc := 135) sh_100 (fm_inb_ok g22) dX10_copies_135 ?_
      obtain ⟨M23, eM23, h⟩ := fm_ltp h
      refine fm_cgm eM23 ?_
      refine fl_aload0 (pc := 136) dX10_copies_136 ?_
      refine fm_getr (pc := 137) lk_10_87 sh_76 rfl dX10_copies_137 ?_
      refine fm_bipushv (pc := 140) 10 (by decide) dX10_copies_140 ?_
      refine fl_iload1 (pc := 142) dX10_copies_142 ?_
      refine fm_imul (pc := 143) dX10_copies_143 ?_
      refine fl_iload3 (pc := 144) dX10_copies_144 ?_
      refine fm_iadd (pc := 145) dX10_copies_145 ?_
      refine fl_aload0 (pc := 146) dX10_copies_146 ?_
      refine fm_getr (pc := 147) lk_10_87 sh_76 rfl dX10_copies_147 ?_
      refine fm_bipushv (pc := 150) 10 (by decide) dX10_copies_150 ?_
      refine fl_iload2 (pc := 152) dX10_copies_152 ?_
      refine fm_imul (pc := 153) dX10_copies_153 ?_
      refine fl_iload3 (pc := 154) dX10_copies_154 ?_
      refine fm_iadd (pc := 155) dX10_copies_155 ?_
      obtain ⟨g24, h⟩ := fm_gdp h
      refine fm_iald (pc := 156) sh_101 (fm_inb_ok g24) dX10_copies_156 ?_
      obtain ⟨g25, h⟩ := fm_gdp h
      refine fm_iast (pc := 157) sh_101 (fm_inb_ok g25) dX10_copies_157 ?_
      obtain ⟨M26, eM26, h⟩ := fm_ltp h
      refine fm_cgm eM26 ?_
      refine fl_iinc3 (pc := 158) rfl 1 (by decide) (by decide) dX10_copies_158 ?_
      refine fm_goto (pc := 161) 86 (by decide) dX10_copies_161 ?_
      refine fm_fgt [some (.ref 76), some (.int l1), some (.int l2), some (.int (l3 + 1))] (by simp [fm_sub]) ?_
      exact ih _ _ h
theorem sp_X10_copies {d : Nat} {a1 : Int32} {a2 : Int32} {M : fm_M} {x : Unit × fm_M} {Q : Option Value → fm_M → Prop} (h : F_X10_copies a1 a2 M = some x) (hq : Q none x.2) : fm_ct d mX10_copies [.ref 76, .int a1, .int a2] M Q := by
  rw [F_X10_copies] at h
  show fm_mw d mX10_copies Q 0 [some (.ref 76), some (.int a1), some (.int a2), none] [] M
  refine fl_aload0 (pc := 0) dX10_copies_0 ?_
  refine fm_getr (pc := 1) lk_10_66 sh_76 rfl dX10_copies_1 ?_
  refine fl_iload1 (pc := 4) dX10_copies_4 ?_
  refine fl_aload0 (pc := 5) dX10_copies_5 ?_
  refine fm_getr (pc := 6) lk_10_66 sh_76 rfl dX10_copies_6 ?_
  refine fl_iload2 (pc := 9) dX10_copies_9 ?_
  obtain ⟨g1, h⟩ := fm_gdp h
  refine fm_iald (pc := 10) sh_94 (fm_inb_ok g1) dX10_copies_10 ?_
  obtain ⟨g2, h⟩ := fm_gdp h
  refine fm_iast (pc := 11) sh_94 (fm_inb_ok g2) dX10_copies_11 ?_
  obtain ⟨M3, eM3, h⟩ := fm_ltp h
  refine fm_cgm eM3 ?_
  refine fl_aload0 (pc := 12) dX10_copies_12 ?_
  refine fm_getr (pc := 13) lk_10_69 sh_76 rfl dX10_copies_13 ?_
  refine fl_iload1 (pc := 16) dX10_copies_16 ?_
  refine fl_aload0 (pc := 17) dX10_copies_17 ?_
  refine fm_getr (pc := 18) lk_10_69 sh_76 rfl dX10_copies_18 ?_
  refine fl_iload2 (pc := 21) dX10_copies_21 ?_
  obtain ⟨g4, h⟩ := fm_gdp h
  refine fm_iald (pc := 22) sh_95 (fm_inb_ok g4) dX10_copies_22 ?_
  obtain ⟨g5, h⟩ := fm_gdp h
  refine fm_iast (pc := 23) sh_95 (fm_inb_ok g5) dX10_copies_23 ?_
  obtain ⟨M6, eM6, h⟩ := fm_ltp h
  refine fm_cgm eM6 ?_
  refine fl_aload0 (pc := 24) dX10_copies_24 ?_
  refine fm_getr (pc := 25) lk_10_72 sh_76 rfl dX10_copies_25 ?_
  refine fl_iload1 (pc := 28) dX10_copies_28 ?_
  refine fl_aload0 (pc := 29) dX10_copies_29 ?_
  refine fm_getr (pc := 30) lk_10_72 sh_76 rfl dX10_copies_30 ?_
  refine fl_iload2 (pc := 33) dX10_copies_33 ?_
  obtain ⟨g7, h⟩ := fm_gdp h
  refine fm_iald (pc := 34) sh_96 (fm_inb_ok g7) dX10_copies_34 ?_
  obtain ⟨g8, h⟩ := fm_gdp h
  refine fm_iast (pc := 35) sh_96 (fm_inb_ok g8) dX10_copies_35 ?_
  obtain ⟨M9, eM9, h⟩ := fm_ltp h
  refine fm_cgm eM9 ?_
  refine fl_aload0 (pc := 36) dX10_copies_36 ?_
  refine fm_getr (pc := 37) lk_10_75 sh_76 rfl dX10_copies_37 ?_
  refine fl_iload1 (pc := 40) dX10_copies_40 ?_
  refine fl_aload0 (pc := 41) dX10_copies_41 ?_
  refine fm_getr (pc := 42) lk_10_75 sh_76 rfl dX10_copies_42 ?_
  refine fl_iload2 (pc := 45) dX10_copies_45 ?_
  obtain ⟨g10, h⟩ := fm_gdp h
  refine fm_iald (pc := 46) sh_97 (fm_inb_ok g10) dX10_copies_46 ?_
  obtain ⟨g11, h⟩ := fm_gdp h
  refine fm_iast (pc := 47) sh_97 (fm_inb_ok g11) dX10_copies_47 ?_
  obtain ⟨M12, eM12, h⟩ := fm_ltp h
  refine fm_cgm eM12 ?_
  refine fm_iconstv (pc := 48) 0 (by decide) dX10_copies_48 ?_
  refine fl_istore3 (pc := 49) rfl (by decide) dX10_copies_49 ?_
  obtain ⟨w16, M17, ew16, h⟩ := fm_bdp h
  refine lp_X10_copies_50  ?_ _ _ _ ew16
  intro w169 M179 q9
  cases q9
  refine fm_iconstv (pc := 84) 0 (by decide) dX10_copies_84 ?_
  refine fl_istore3 (pc := 85) rfl (by decide) dX10_copies_85 ?_
  obtain ⟨w27, M28, ew27, h⟩ := fm_bdp h
  refine lp_X10_copies_86  ?_ _ _ _ ew27
  intro w279 M289 q9
  cases q9
  refine fm_vret (pc := 164) rfl ?_ dX10_copies_164
  cases h
  exact hq
/-! X10_isFork -/
def F_X10_isFork (a1 : Int32) (M : fm_M) : Option (Int32 × fm_M) :=
    if a1 < 0 then (
      some (0, M)
    ) else (
      fm_gd (fm_inb 0 20) (
      if (M.1 78 (Int32.toNatClampNeg 0)) ≤ a1 then (
        some (0, M)
      ) else (
        some (1, M)
      ))
    )
theorem sp_X10_isFork {d : Nat} {a1 : Int32} {M : fm_M} {x : Int32 × fm_M} {Q : Option Value → fm_M → Prop} (h : F_X10_isFork a1 M = some x) (hq : Q (some (.int x.1)) x.2) : fm_ct d mX10_isFork [.ref 76, .int a1] M Q := by
  rw [F_X10_isFork] at h
  show fm_mw d mX10_isFork Q 0 [some (.ref 76), some (.int a1)] [] M
  refine fl_iload1 (pc := 0) dX10_isFork_0 ?_
  refine fm_if_lt (pc := 1) 18 (by decide) dX10_isFork_1 (fun c1 => ?_) (fun c1 => ?_)
  · replace h := fm_itp c1 h
    refine fm_iconstv (pc := 18) 0 (by decide) dX10_isFork_18 ?_
    refine fm_zret (pc := 19) rfl (by decide) ?_ dX10_isFork_19
    cases h
    exact hq
  · replace h := fm_itn c1 h
    refine fl_iload1 (pc := 4) dX10_isFork_4 ?_
    refine fl_aload0 (pc := 5) dX10_isFork_5 ?_
    refine fm_getr (pc := 6) lk_10_13 sh_76 rfl dX10_isFork_6 ?_
    refine fm_iconstv (pc := 9) 0 (by decide) dX10_isFork_9 ?_
    obtain ⟨g1, h⟩ := fm_gdp h
    refine fm_iald (pc := 10) sh_78 (fm_inb_ok g1) dX10_isFork_10 ?_
    refine fm_icmp_ge (pc := 11) 18 (by decide) dX10_isFork_11 (fun c11 => ?_) (fun c11 => ?_)
    · replace h := fm_itp c11 h
      refine fm_iconstv (pc := 18) 0 (by decide) dX10_isFork_18 ?_
      refine fm_zret (pc := 19) rfl (by decide) ?_ dX10_isFork_19
      cases h
      exact hq
    · replace h := fm_itn c11 h
      refine fm_iconstv (pc := 14) 1 (by decide) dX10_isFork_14 ?_
      refine fm_goto (pc := 15) 19 (by decide) dX10_isFork_15 ?_
      refine fm_zret (pc := 19) rfl (by decide) ?_ dX10_isFork_19
      cases h
      exact hq
/-! X10_isMotion -/
def F_X10_isMotion (a1 : Int32) (M : fm_M) : Option (Int32 × fm_M) :=
    if a1 < 0 then (
      some (0, M)
    ) else (
      fm_gd (fm_inb 1 20) (
      if (M.1 78 (Int32.toNatClampNeg 1)) ≤ a1 then (
        some (0, M)
      ) else (
        some (1, M)
      ))
    )
theorem sp_X10_isMotion {d : Nat} {a1 : Int32} {M : fm_M} {x : Int32 × fm_M} {Q : Option Value → fm_M → Prop} (h : F_X10_isMotion a1 M = some x) (hq : Q (some (.int x.1)) x.2) : fm_ct d mX10_isMotion [.ref 76, .int a1] M Q := by
  rw [F_X10_isMotion] at h
  show fm_mw d mX10_isMotion Q 0 [some (.ref 76), some (.int a1)] [] M
  refine fl_iload1 (pc := 0) dX10_isMotion_0 ?_
  refine fm_if_lt (pc := 1) 18 (by decide) dX10_isMotion_1 (fun c1 => ?_) (fun c1 => ?_)
  · replace h := fm_itp c1 h
    refine fm_iconstv (pc := 18) 0 (by decide) dX10_isMotion_18 ?_
    refine fm_zret (pc := 19) rfl (by decide) ?_ dX10_isMotion_19
    cases h
    exact hq
  · replace h := fm_itn c1 h
    refine fl_iload1 (pc := 4) dX10_isMotion_4 ?_
    refine fl_aload0 (pc := 5) dX10_isMotion_5 ?_
    refine fm_getr (pc := 6) lk_10_13 sh_76 rfl dX10_isMotion_6 ?_
    refine fm_iconstv (pc := 9) 1 (by decide) dX10_isMotion_9 ?_
    obtain ⟨g1, h⟩ := fm_gdp h
    refine fm_iald (pc := 10) sh_78 (fm_inb_ok g1) dX10_isMotion_10 ?_
    refine fm_icmp_ge (pc := 11) 18 (by decide) dX10_isMotion_11 (fun c11 => ?_) (fun c11 => ?_)
    · replace h := fm_itp c11 h
      refine fm_iconstv (pc := 18) 0 (by decide) dX10_isMotion_18 ?_
      refine fm_zret (pc := 19) rfl (by decide) ?_ dX10_isMotion_19
      cases h
      exact hq
    · replace h := fm_itn c11 h
      refine fm_iconstv (pc := 14) 1 (by decide) dX10_isMotion_14 ?_
      refine fm_goto (pc := 15) 19 (by decide) dX10_isMotion_15 ?_
      refine fm_zret (pc := 19) rfl (by decide) ?_ dX10_isMotion_19
      cases h
      exact hq
/-! X10_isNote -/
def F_X10_isNote (a0 : Int32) (M : fm_M) : Option (Int32 × fm_M) :=
    if a0 < 100 then (
      some (0, M)
    ) else (
      if 999 < a0 then (
        some (0, M)
      ) else (
        some (1, M)
      )
    )
theorem sp_X10_isNote {d : Nat} {a0 : Int32} {M : fm_M} {x : Int32 × fm_M} {Q : Option Value → fm_M → Prop} (h : F_X10_isNote a0 M = some x) (hq : Q (some (.int x.1)) x.2) : fm_ct d mX10_isNote [.int a0] M Q := by
  rw [F_X10_isNote] at h
  show fm_mw d mX10_isNote Q 0 [some (.int a0)] [] M
  refine fl_iload0 (pc := 0) dX10_isNote_0 ?_
  refine fm_bipushv (pc := 1) 100 (by decide) dX10_isNote_1 ?_
  refine fm_icmp_lt (pc := 3) 17 (by decide) dX10_isNote_3 (fun c3 => ?_) (fun c3 => ?_)
  · replace h := fm_itp c3 h
    refine fm_iconstv (pc := 17) 0 (by decide) dX10_isNote_17 ?_
    refine fm_zret (pc := 18) rfl (by decide) ?_ dX10_isNote_18
    cases h
    exact hq
  · replace h := fm_itn c3 h
    refine fl_iload0 (pc := 6) dX10_isNote_6 ?_
    refine fm_sipushv (pc := 7) 999 (by decide) dX10_isNote_7 ?_
    refine fm_icmp_gt (pc := 10) 17 (by decide) dX10_isNote_10 (fun c10 => ?_) (fun c10 => ?_)
    · replace h := fm_itp c10 h
      refine fm_iconstv (pc := 17) 0 (by decide) dX10_isNote_17 ?_
      refine fm_zret (pc := 18) rfl (by decide) ?_ dX10_isNote_18
      cases h
      exact hq
    · replace h := fm_itn c10 h
      refine fm_iconstv (pc := 13) 1 (by decide) dX10_isNote_13 ?_
      refine fm_goto (pc := 14) 18 (by decide) dX10_isNote_14 ?_
      refine fm_zret (pc := 18) rfl (by decide) ?_ dX10_isNote_18
      cases h
      exact hq
/-! X10_wetAt -/
def F_X10_wetAt (a1 : Int32) (M : fm_M) : Option (Int32 × fm_M) :=
    fm_gd (fm_inb 3 20) (
    if (M.1 78 (Int32.toNatClampNeg 3)) = 0 then (
      some (0, M)
    ) else (
      fm_gd (fm_inb 3 20) (
      fm_gd (fm_nz (M.1 78 (Int32.toNatClampNeg 3))) (
      fm_gd (fm_inb (i_rem a1 (M.1 78 (Int32.toNatClampNeg 3))) 16) (
      some ((M.1 87 (Int32.toNatClampNeg (i_rem a1 (M.1 78 (Int32.toNatClampNeg 3))))), M))))
    ))
theorem sp_X10_wetAt {d : Nat} {a1 : Int32} {M : fm_M} {x : Int32 × fm_M} {Q : Option Value → fm_M → Prop} (h : F_X10_wetAt a1 M = some x) (hq : Q (some (.int x.1)) x.2) : fm_ct d mX10_wetAt [.ref 76, .int a1] M Q := by
  rw [F_X10_wetAt] at h
  show fm_mw d mX10_wetAt Q 0 [some (.ref 76), some (.int a1)] [] M
  refine fl_aload0 (pc := 0) dX10_wetAt_0 ?_
  refine fm_getr (pc := 1) lk_10_13 sh_76 rfl dX10_wetAt_1 ?_
  refine fm_iconstv (pc := 4) 3 (by decide) dX10_wetAt_4 ?_
  obtain ⟨g1, h⟩ := fm_gdp h
  refine fm_iald (pc := 5) sh_78 (fm_inb_ok g1) dX10_wetAt_5 ?_
  refine fm_if_ne (pc := 6) 13 (by decide) dX10_wetAt_6 (fun c6 => ?_) (fun c6 => ?_)
  · replace h := fm_itn c6 h
    refine fl_aload0 (pc := 13) dX10_wetAt_13 ?_
    refine fm_getr (pc := 14) lk_10_40 sh_76 rfl dX10_wetAt_14 ?_
    refine fl_iload1 (pc := 17) dX10_wetAt_17 ?_
    refine fl_aload0 (pc := 18) dX10_wetAt_18 ?_
    refine fm_getr (pc := 19) lk_10_13 sh_76 rfl dX10_wetAt_19 ?_
    refine fm_iconstv (pc := 22) 3 (by decide) dX10_wetAt_22 ?_
    obtain ⟨g2, h⟩ := fm_gdp h
    refine fm_iald (pc := 23) sh_78 (fm_inb_ok g2) dX10_wetAt_23 ?_
    obtain ⟨g3, h⟩ := fm_gdp h
    refine fq_irem (pc := 24) (fm_nz_ok g3) dX10_wetAt_24 ?_
    obtain ⟨g4, h⟩ := fm_gdp h
    refine fm_iald (pc := 25) sh_87 (fm_inb_ok g4) dX10_wetAt_25 ?_
    refine fm_iret (pc := 26) rfl ?_ dX10_wetAt_26
    cases h
    exact hq
  · replace h := fm_itp c6 h
    refine fm_iconstv (pc := 9) 0 (by decide) dX10_wetAt_9 ?_
    refine fm_goto (pc := 10) 26 (by decide) dX10_wetAt_10 ?_
    refine fm_iret (pc := 26) rfl ?_ dX10_wetAt_26
    cases h
    exact hq
/-! X10_dampIn -/
def F_X10_dampIn (a1 : Int32) (M : fm_M) : Option (Int32 × fm_M) :=
    if (M.1 76 43) = 1 then (
      some (0, M)
    ) else (
      if (M.1 76 45) = (-1) then (
        fm_gd (fm_inb a1 23) (
        fm_bd (F_X10_wetAt (M.1 94 (Int32.toNatClampNeg a1)) M) (fun v2 M3 =>
        some (v2, M3)))
      ) else (
        some ((M.1 76 45), M)
      )
    )
theorem sp_X10_dampIn {d : Nat} {a1 : Int32} {M : fm_M} {x : Int32 × fm_M} {Q : Option Value → fm_M → Prop} (h : F_X10_dampIn a1 M = some x) (hq : Q (some (.int x.1)) x.2) : fm_ct (d + 1) mX10_dampIn [.ref 76, .int a1] M Q := by
  rw [F_X10_dampIn] at h
  show fm_mw (d + 1) mX10_dampIn Q 0 [some (.ref 76), some (.int a1)] [] M
  refine fl_aload0 (pc := 0) dX10_dampIn_0 ?_
  refine fm_geti (pc := 1) lk_10_316 sh_76 rfl dX10_dampIn_1 ?_
  refine fm_iconstv (pc := 4) 1 (by decide) dX10_dampIn_4 ?_
  refine fm_icmp_ne (pc := 5) 12 (by decide) dX10_dampIn_5 (fun c5 => ?_) (fun c5 => ?_)
  · replace h := fm_itn c5 h
    refine fl_aload0 (pc := 12) dX10_dampIn_12 ?_
    refine fm_geti (pc := 13) lk_10_93 sh_76 rfl dX10_dampIn_13 ?_
    refine fm_iconstv (pc := 16) (-1) (by decide) dX10_dampIn_16 ?_
    refine fm_icmp_eq (pc := 17) 27 (by decide) dX10_dampIn_17 (fun c17 => ?_) (fun c17 => ?_)
    · replace h := fm_itp c17 h
      refine fl_aload0 (pc := 27) dX10_dampIn_27 ?_
      refine fl_aload0 (pc := 28) dX10_dampIn_28 ?_
      refine fm_getr (pc := 29) lk_10_66 sh_76 rfl dX10_dampIn_29 ?_
      refine fl_iload1 (pc := 32) dX10_dampIn_32 ?_
      obtain ⟨g1, h⟩ := fm_gdp h
      refine fm_iald (pc := 33) sh_94 (fm_inb_ok g1) dX10_dampIn_33 ?_
      obtain ⟨v2, M3, ev2, h⟩ := fm_bdp h
      refine fm_callV (pc := 34) mX10_wetAt [_] _ rfl cvX10_wetAt ml_10_319 sh_76 rfl rfl (Nat.le_of_ble_eq_true rfl) (Nat.le_of_ble_eq_true rfl) dX10_dampIn_34 ?_
      refine sp_X10_wetAt ev2 ?_
      refine fm_ret1 ?_
      refine fm_iret (pc := 37) rfl ?_ dX10_dampIn_37
      cases h
      exact hq
    · replace h := fm_itn c17 h
      refine fl_aload0 (pc := 20) dX10_dampIn_20 ?_
      refine fm_geti (pc := 21) lk_10_93 sh_76 rfl dX10_dampIn_21 ?_
      refine fm_goto (pc := 24) 37 (by decide) dX10_dampIn_24 ?_
      refine fm_iret (pc := 37) rfl ?_ dX10_dampIn_37
      cases h
      exact hq
  · replace h := fm_itp c5 h
    refine fm_iconstv (pc := 8) 0 (by decide) dX10_dampIn_8 ?_
    refine fm_goto (pc := 9) 37 (by decide) dX10_dampIn_9 ?_
    refine fm_iret (pc := 37) rfl ?_ dX10_dampIn_37
    cases h
    exact hq
/-! X10_widthIn -/
def F_X10_widthIn (a1 : Int32) (M : fm_M) : Option (Int32 × fm_M) :=
    if a1 = (M.1 76 46) then (
      some ((M.1 76 47), M)
    ) else (
      fm_gd (fm_inb a1 16) (
      some ((M.1 81 (Int32.toNatClampNeg a1)), M))
    )
theorem sp_X10_widthIn {d : Nat} {a1 : Int32} {M : fm_M} {x : Int32 × fm_M} {Q : Option Value → fm_M → Prop} (h : F_X10_widthIn a1 M = some x) (hq : Q (some (.int x.1)) x.2) : fm_ct d mX10_widthIn [.ref 76, .int a1] M Q := by
  rw [F_X10_widthIn] at h
  show fm_mw d mX10_widthIn Q 0 [some (.ref 76), some (.int a1)] [] M
  refine fl_iload1 (pc := 0) dX10_widthIn_0 ?_
  refine fl_aload0 (pc := 1) dX10_widthIn_1 ?_
  refine fm_geti (pc := 2) lk_10_96 sh_76 rfl dX10_widthIn_2 ?_
  refine fm_icmp_ne (pc := 5) 15 (by decide) dX10_widthIn_5 (fun c5 => ?_) (fun c5 => ?_)
  · replace h := fm_itn c5 h
    refine fl_aload0 (pc := 15) dX10_widthIn_15 ?_
    refine fm_getr (pc := 16) lk_10_22 sh_76 rfl dX10_widthIn_16 ?_
    refine fl_iload1 (pc := 19) dX10_widthIn_19 ?_
    obtain ⟨g1, h⟩ := fm_gdp h
    refine fm_iald (pc := 20) sh_81 (fm_inb_ok g1) dX10_widthIn_20 ?_
    refine fm_iret (pc := 21) rfl ?_ dX10_widthIn_21
    cases h
    exact hq
  · replace h := fm_itp c5 h
    refine fl_aload0 (pc := 8) dX10_widthIn_8 ?_
    refine fm_geti (pc := 9) lk_10_322 sh_76 rfl dX10_widthIn_9 ?_
    refine fm_goto (pc := 12) 21 (by decide) dX10_widthIn_12 ?_
    refine fm_iret (pc := 21) rfl ?_ dX10_widthIn_21
    cases h
    exact hq
/-! X10_isThere -/
def F_X10_isThere (a1 : Int32) (M : fm_M) : Option (Int32 × fm_M) :=
    if (M.1 76 43) = 2 then (
      if a1 = (M.1 76 44) then (
        some (0, M)
      ) else (
        some (1, M)
      )
    ) else (
      some (1, M)
    )
theorem sp_X10_isThere {d : Nat} {a1 : Int32} {M : fm_M} {x : Int32 × fm_M} {Q : Option Value → fm_M → Prop} (h : F_X10_isThere a1 M = some x) (hq : Q (some (.int x.1)) x.2) : fm_ct d mX10_isThere [.ref 76, .int a1] M Q := by
  rw [F_X10_isThere] at h
  show fm_mw d mX10_isThere Q 0 [some (.ref 76), some (.int a1)] [] M
  refine fl_aload0 (pc := 0) dX10_isThere_0 ?_
  refine fm_geti (pc := 1) lk_10_316 sh_76 rfl dX10_isThere_1 ?_
  refine fm_iconstv (pc := 4) 2 (by decide) dX10_isThere_4 ?_
  refine fm_icmp_ne (pc := 5) 16 (by decide) dX10_isThere_5 (fun c5 => ?_) (fun c5 => ?_)
  · replace h := fm_itn c5 h
    refine fm_iconstv (pc := 16) 1 (by decide) dX10_isThere_16 ?_
    refine fm_goto (pc := 17) 21 (by decide) dX10_isThere_17 ?_
    refine fm_zret (pc := 21) rfl (by decide) ?_ dX10_isThere_21
    cases h
    exact hq
  · replace h := fm_itp c5 h
    refine fl_iload1 (pc := 8) dX10_isThere_8 ?_
    refine fl_aload0 (pc := 9) dX10_isThere_9 ?_
    refine fm_geti (pc := 10) lk_10_90 sh_76 rfl dX10_isThere_10 ?_
    refine fm_icmp_eq (pc := 13) 20 (by decide) dX10_isThere_13 (fun c13 => ?_) (fun c13 => ?_)
    · replace h := fm_itp c13 h
      refine fm_iconstv (pc := 20) 0 (by decide) dX10_isThere_20 ?_
      refine fm_zret (pc := 21) rfl (by decide) ?_ dX10_isThere_21
      cases h
      exact hq
    · replace h := fm_itn c13 h
      refine fm_iconstv (pc := 16) 1 (by decide) dX10_isThere_16 ?_
      refine fm_goto (pc := 17) 21 (by decide) dX10_isThere_17 ?_
      refine fm_zret (pc := 21) rfl (by decide) ?_ dX10_isThere_21
      cases h
      exact hq
/-! X10_isCracked -/
def F_X10_isCracked (a1 : Int32) (M : fm_M) : Option (Int32 × fm_M) :=
    if (M.1 76 43) = 4 then (
      some (0, M)
    ) else (
      fm_gd (fm_inb 9 20) (
      if (((M.1 78 (Int32.toNatClampNeg 9)) >>> (a1 &&& 31)) &&& 1) = 1 then (
        some (1, M)
      ) else (
        some (0, M)
      ))
    )
theorem sp_X10_isCracked {d : Nat} {a1 : Int32} {M : fm_M} {x : Int32 × fm_M} {Q : Option Value → fm_M → Prop} (h : F_X10_isCracked a1 M = some x) (hq : Q (some (.int x.1)) x.2) : fm_ct d mX10_isCracked [.ref 76, .int a1] M Q := by
  rw [F_X10_isCracked] at h
  show fm_mw d mX10_isCracked Q 0 [some (.ref 76), some (.int a1)] [] M
  refine fl_aload0 (pc := 0) dX10_isCracked_0 ?_
  refine fm_geti (pc := 1) lk_10_316 sh_76 rfl dX10_isCracked_1 ?_
  refine fm_iconstv (pc := 4) 4 (by decide) dX10_isCracked_4 ?_
  refine fm_icmp_eq (pc := 5) 27 (by decide) dX10_isCracked_5 (fun c5 => ?_) (fun c5 => ?_)
  · replace h := fm_itp c5 h
    refine fm_iconstv (pc := 27) 0 (by decide) dX10_isCracked_27 ?_
    refine fm_zret (pc := 28) rfl (by decide) ?_ dX10_isCracked_28
    cases h
    exact hq
  · replace h := fm_itn c5 h
    refine fl_aload0 (pc := 8) dX10_isCracked_8 ?_
    refine fm_getr (pc := 9) lk_10_13 sh_76 rfl dX10_isCracked_9 ?_
    refine fm_bipushv (pc := 12) 9 (by decide) dX10_isCracked_12 ?_
    obtain ⟨g1, h⟩ := fm_gdp h
    refine fm_iald (pc := 14) sh_78 (fm_inb_ok g1) dX10_isCracked_14 ?_
    refine fl_iload1 (pc := 15) dX10_isCracked_15 ?_
    refine fm_ishr (pc := 16) dX10_isCracked_16 ?_
    refine fm_iconstv (pc := 17) 1 (by decide) dX10_isCracked_17 ?_
    refine fm_iand (pc := 18) dX10_isCracked_18 ?_
    refine fm_iconstv (pc := 19) 1 (by decide) dX10_isCracked_19 ?_
    refine fm_icmp_ne (pc := 20) 27 (by decide) dX10_isCracked_20 (fun c20 => ?_) (fun c20 => ?_)
    · replace h := fm_itn c20 h
      refine fm_iconstv (pc := 27) 0 (by decide) dX10_isCracked_27 ?_
      refine fm_zret (pc := 28) rfl (by decide) ?_ dX10_isCracked_28
      cases h
      exact hq
    · replace h := fm_itp c20 h
      refine fm_iconstv (pc := 23) 1 (by decide) dX10_isCracked_23 ?_
      refine fm_goto (pc := 24) 28 (by decide) dX10_isCracked_24 ?_
      refine fm_zret (pc := 28) rfl (by decide) ?_ dX10_isCracked_28
      cases h
      exact hq
/-! X10_isTouched -/
def F_X10_isTouched (a1 : Int32) (a2 : Int32) (M : fm_M) : Option (Int32 × fm_M) :=
    if (M.1 76 43) = 5 then (
      some (0, M)
    ) else (
      fm_gd (fm_inb a1 23) (
      if (((M.1 97 (Int32.toNatClampNeg a1)) >>> (a2 &&& 31)) &&& 1) = 1 then (
        some (1, M)
      ) else (
        some (0, M)
      ))
    )
theorem sp_X10_isTouched {d : Nat} {a1 : Int32} {a2 : Int32} {M : fm_M} {x : Int32 × fm_M} {Q : Option Value → fm_M → Prop} (h : F_X10_isTouched a1 a2 M = some x) (hq : Q (some (.int x.1)) x.2) : fm_ct d mX10_isTouched [.ref 76, .int a1, .int a2] M Q := by
  rw [F_X10_isTouched] at h
  show fm_mw d mX10_isTouched Q 0 [some (.ref 76), some (.int a1), some (.int a2)] [] M
  refine fl_aload0 (pc := 0) dX10_isTouched_0 ?_
  refine fm_geti (pc := 1) lk_10_316 sh_76 rfl dX10_isTouched_1 ?_
  refine fm_iconstv (pc := 4) 5 (by decide) dX10_isTouched_4 ?_
  refine fm_icmp_eq (pc := 5) 26 (by decide) dX10_isTouched_5 (fun c5 => ?_) (fun c5 => ?_)
  · replace h := fm_itp c5 h
    refine fm_iconstv (pc := 26) 0 (by decide) dX10_isTouched_26 ?_
    refine fm_zret (pc := 27) rfl (by decide) ?_ dX10_isTouched_27
    cases h
    exact hq
  · replace h := fm_itn c5 h
    refine fl_aload0 (pc := 8) dX10_isTouched_8 ?_
    refine fm_getr (pc := 9) lk_10_75 sh_76 rfl dX10_isTouched_9 ?_
    refine fl_iload1 (pc := 12) dX10_isTouched_12 ?_
    obtain ⟨g1, h⟩ := fm_gdp h
    refine fm_iald (pc := 13) sh_97 (fm_inb_ok g1) dX10_isTouched_13 ?_
    refine fl_iload2 (pc := 14) dX10_isTouched_14 ?_
    refine fm_ishr (pc := 15) dX10_isTouched_15 ?_
    refine fm_iconstv (pc := 16) 1 (by decide) dX10_isTouched_16 ?_
    refine fm_iand (pc := 17) dX10_isTouched_17 ?_
    refine fm_iconstv (pc := 18) 1 (by decide) dX10_isTouched_18 ?_
    refine fm_icmp_ne (pc := 19) 26 (by decide) dX10_isTouched_19 (fun c19 => ?_) (fun c19 => ?_)
    · replace h := fm_itn c19 h
      refine fm_iconstv (pc := 26) 0 (by decide) dX10_isTouched_26 ?_
      refine fm_zret (pc := 27) rfl (by decide) ?_ dX10_isTouched_27
      cases h
      exact hq
    · replace h := fm_itp c19 h
      refine fm_iconstv (pc := 22) 1 (by decide) dX10_isTouched_22 ?_
      refine fm_goto (pc := 23) 27 (by decide) dX10_isTouched_23 ?_
      refine fm_zret (pc := 27) rfl (by decide) ?_ dX10_isTouched_27
      cases h
      exact hq
/-! X10_wetPitch -/
def F_X10_wetPitch (a1 : Int32) (a2 : Int32) (M : fm_M) : Option (Int32 × fm_M) :=
    fm_bd (F_X10_dampIn a1 M) (fun v1 M2 =>
    some ((i_max 1 (a2 - v1)), M2))
theorem sp_X10_wetPitch {d : Nat} {a1 : Int32} {a2 : Int32} {M : fm_M} {x : Int32 × fm_M} {Q : Option Value → fm_M → Prop} (h : F_X10_wetPitch a1 a2 M = some x) (hq : Q (some (.int x.1)) x.2) : fm_ct (d + 2) mX10_wetPitch [.ref 76, .int a1, .int a2] M Q := by
  rw [F_X10_wetPitch] at h
  show fm_mw (d + 2) mX10_wetPitch Q 0 [some (.ref 76), some (.int a1), some (.int a2)] [] M
  refine fm_iconstv (pc := 0) 1 (by decide) dX10_wetPitch_0 ?_
  refine fl_iload2 (pc := 1) dX10_wetPitch_1 ?_
  refine fl_aload0 (pc := 2) dX10_wetPitch_2 ?_
  refine fl_iload1 (pc := 3) dX10_wetPitch_3 ?_
  obtain ⟨v1, M2, ev1, h⟩ := fm_bdp h
  refine fm_callV (pc := 4) mX10_dampIn [_] _ rfl cvX10_dampIn ml_10_325 sh_76 rfl rfl (Nat.le_of_ble_eq_true rfl) (Nat.le_of_ble_eq_true rfl) dX10_wetPitch_4 ?_
  refine sp_X10_dampIn ev1 ?_
  refine fm_ret1 ?_
  refine fm_isub (pc := 7) dX10_wetPitch_7 ?_
  refine fq_mmax (pc := 8) ml_10_328 (Nat.le_of_ble_eq_true rfl) dX10_wetPitch_8 ?_
  refine fm_iret (pc := 11) rfl ?_ dX10_wetPitch_11
  cases h
  exact hq
/-! X10_beatsOf -/
def F_X10_beatsOf (a1 : Int32) (a2 : Int32) (a3 : Int32) (M : fm_M) : Option (Int32 × fm_M) :=
    fm_bd (F_X10_wetPitch a1 a2 M) (fun v1 M2 =>
    some ((i_min (i_abs (v1 - a3)) (i_min (i_abs ((2 * v1) - a3)) (i_abs (v1 - (2 * a3))))), M2))
theorem sp_X10_beatsOf {d : Nat} {a1 : Int32} {a2 : Int32} {a3 : Int32} {M : fm_M} {x : Int32 × fm_M} {Q : Option Value → fm_M → Prop} (h : F_X10_beatsOf a1 a2 a3 M = some x) (hq : Q (some (.int x.1)) x.2) : fm_ct (d + 3) mX10_beatsOf [.ref 76, .int a1, .int a2, .int a3] M Q := by
  rw [F_X10_beatsOf] at h
  show fm_mw (d + 3) mX10_beatsOf Q 0 [some (.ref 76), some (.int a1), some (.int a2), some (.int a3), none] [] M
  refine fl_aload0 (pc := 0) dX10_beatsOf_0 ?_
  refine fl_iload1 (pc := 1) dX10_beatsOf_1 ?_
  refine fl_iload2 (pc := 2) dX10_beatsOf_2 ?_
  obtain ⟨v1, M2, ev1, h⟩ := fm_bdp h
  refine fm_callV (pc := 3) mX10_wetPitch [_, _] _ rfl cvX10_wetPitch ml_10_331 sh_76 rfl rfl (Nat.le_of_ble_eq_true rfl) (Nat.le_of_ble_eq_true rfl) dX10_beatsOf_3 ?_
  refine sp_X10_wetPitch ev1 ?_
  refine fm_ret1 ?_
  refine fl_istore4 (pc := 6) rfl (by decide) dX10_beatsOf_6 ?_
  refine fl_iload4 (pc := 8) dX10_beatsOf_8 ?_
  refine fl_iload3 (pc := 10) dX10_beatsOf_10 ?_
  refine fm_isub (pc := 11) dX10_beatsOf_11 ?_
  refine fq_mabs (pc := 12) ml_10_334 (Nat.le_of_ble_eq_true rfl) dX10_beatsOf_12 ?_
  refine fm_iconstv (pc := 15) 2 (by decide) dX10_beatsOf_15 ?_
  refine fl_iload4 (pc := 16) dX10_beatsOf_16 ?_
  refine fm_imul (pc := 18) dX10_beatsOf_18 ?_
  refine fl_iload3 (pc := 19) dX10_beatsOf_19 ?_
  refine fm_isub (pc := 20) dX10_beatsOf_20 ?_
  refine fq_mabs (pc := 21) ml_10_334 (Nat.le_of_ble_eq_true rfl) dX10_beatsOf_21 ?_
  refine fl_iload4 (pc := 24) dX10_beatsOf_24 ?_
  refine fm_iconstv (pc := 26) 2 (by decide) dX10_beatsOf_26 ?_
  refine fl_iload3 (pc := 27) dX10_beatsOf_27 ?_
  refine fm_imul (pc := 28) dX10_beatsOf_28 ?_
  refine fm_isub (pc := 29) dX10_beatsOf_29 ?_
  refine fq_mabs (pc := 30) ml_10_334 (Nat.le_of_ble_eq_true rfl) dX10_beatsOf_30 ?_
  refine fq_mmin (pc := 33) ml_10_336 (Nat.le_of_ble_eq_true rfl) dX10_beatsOf_33 ?_
  refine fq_mmin (pc := 36) ml_10_336 (Nat.le_of_ble_eq_true rfl) dX10_beatsOf_36 ?_
  refine fm_iret (pc := 39) rfl ?_ dX10_beatsOf_39
  cases h
  exact hq
/-! X10_calls -/
def F_X10_calls (a1 : Int32) (a2 : Int32) (a3 : Int32) (a4 : Int32) (a5 : Int32) (a6 : Int32) (M : fm_M) : Option (Unit × fm_M) :=
    fm_gd (fm_inb 0 7) (
    fm_lt (fm_upL M 92 (Int32.toNatClampNeg 0) (Int32.toInt64 a2)) (fun M2 =>
    fm_gd (fm_inb 1 7) (
    fm_lt (fm_upL M2 92 (Int32.toNatClampNeg 1) (Int32.toInt64 a3)) (fun M4 =>
    fm_gd (fm_inb 2 7) (
    fm_lt (fm_upL M4 92 (Int32.toNatClampNeg 2) (Int32.toInt64 a4)) (fun M6 =>
    fm_gd (fm_inb 3 7) (
    fm_lt (fm_upL M6 92 (Int32.toNatClampNeg 3) (Int32.toInt64 a5)) (fun M8 =>
    fm_gd (fm_inb 4 7) (
    fm_lt (fm_upL M8 92 (Int32.toNatClampNeg 4) (Int32.toInt64 a6)) (fun M10 =>
    fm_bd (F_X10_dampIn a1 M10) (fun v11 M12 =>
    fm_gd (fm_inb 5 7) (
    fm_lt (fm_upL M12 92 (Int32.toNatClampNeg 5) (Int32.toInt64 v11)) (fun M14 =>
    fm_gd (fm_inb a1 23) (
    fm_gd (fm_inb 6 7) (
    fm_lt (fm_upL M14 92 (Int32.toNatClampNeg 6) (Int32.toInt64 (M14.1 94 (Int32.toNatClampNeg a1)))) (fun M17 =>
    some ((), M17)))))))))))))))))
theorem sp_X10_calls {d : Nat} {a1 : Int32} {a2 : Int32} {a3 : Int32} {a4 : Int32} {a5 : Int32} {a6 : Int32} {M : fm_M} {x : Unit × fm_M} {Q : Option Value → fm_M → Prop} (h : F_X10_calls a1 a2 a3 a4 a5 a6 M = some x) (hq : Q none x.2) : fm_ct (d + 2) mX10_calls [.ref 76, .int a1, .int a2, .int a3, .int a4, .int a5, .int a6] M Q := by
  rw [F_X10_calls] at h
  show fm_mw (d + 2) mX10_calls Q 0 [some (.ref 76), some (.int a1), some (.int a2), some (.int a3), some (.int a4), some (.int a5), some (.int a6)] [] M
  refine fl_aload0 (pc := 0) dX10_calls_0 ?_
  refine fm_getr (pc := 1) lk_10_59 sh_76 rfl dX10_calls_1 ?_
  refine fm_iconstv (pc := 4) 0 (by decide) dX10_calls_4 ?_
  refine fl_iload2 (pc := 5) dX10_calls_5 ?_
  refine fm_i2l (pc := 6) dX10_calls_6 ?_
  obtain ⟨g1, h⟩ := fm_gdp h
  refine fm_last (pc := 7) sh_92 (fm_inb_ok g1) dX10_calls_7 ?_
  obtain ⟨M2, eM2, h⟩ := fm_ltp h
  refine fm_cgm eM2 ?_
  refine fl_aload0 (pc := 8) dX10_calls_8 ?_
  refine fm_getr (pc := 9) lk_10_59 sh_76 rfl dX10_calls_9 ?_
  refine fm_iconstv (pc := 12) 1 (by decide) dX10_calls_12 ?_
  refine fl_iload3 (pc := 13) dX10_calls_13 ?_
  refine fm_i2l (pc := 14) dX10_calls_14 ?_
  obtain ⟨g3, h⟩ := fm_gdp h
  refine fm_last (pc := 15) sh_92 (fm_inb_ok g3) dX10_calls_15 ?_
  obtain ⟨M4, eM4, h⟩ := fm_ltp h
  refine fm_cgm eM4 ?_
  refine fl_aload0 (pc := 16) dX10_calls_16 ?_
  refine fm_getr (pc := 17) lk_10_59 sh_76 rfl dX10_calls_17 ?_
  refine fm_iconstv (pc := 20) 2 (by decide) dX10_calls_20 ?_
  refine fl_iload4 (pc := 21) dX10_calls_21 ?_
  refine fm_i2l (pc := 23) dX10_calls_23 ?_
  obtain ⟨g5, h⟩ := fm_gdp h
  refine fm_last (pc := 24) sh_92 (fm_inb_ok g5) dX10_calls_24 ?_
  obtain ⟨M6, eM6, h⟩ := fm_ltp h
  refine fm_cgm eM6 ?_
  refine fl_aload0 (pc := 25) dX10_calls_25 ?_
  refine fm_getr (pc := 26) lk_10_59 sh_76 rfl dX10_calls_26 ?_
  refine fm_iconstv (pc := 29) 3 (by decide) dX10_calls_29 ?_
  refine fl_iload5 (pc := 30) dX10_calls_30 ?_
  refine fm_i2l (pc := 32) dX10_calls_32 ?_
  obtain ⟨g7, h⟩ := fm_gdp h
  refine fm_last (pc := 33) sh_92 (fm_inb_ok g7) dX10_calls_33 ?_
  obtain ⟨M8, eM8, h⟩ := fm_ltp h
  refine fm_cgm eM8 ?_
  refine fl_aload0 (pc := 34) dX10_calls_34 ?_
  refine fm_getr (pc := 35) lk_10_59 sh_76 rfl dX10_calls_35 ?_
  refine fm_iconstv (pc := 38) 4 (by decide) dX10_calls_38 ?_
  refine fl_iload6 (pc := 39) dX10_calls_39 ?_
  refine fm_i2l (pc := 41) dX10_calls_41 ?_
  obtain ⟨g9, h⟩ := fm_gdp h
  refine fm_last (pc := 42) sh_92 (fm_inb_ok g9) dX10_calls_42 ?_
  obtain ⟨M10, eM10, h⟩ := fm_ltp h
  refine fm_cgm eM10 ?_
  refine fl_aload0 (pc := 43) dX10_calls_43 ?_
  refine fm_getr (pc := 44) lk_10_59 sh_76 rfl dX10_calls_44 ?_
  refine fm_iconstv (pc := 47) 5 (by decide) dX10_calls_47 ?_
  refine fl_aload0 (pc := 48) dX10_calls_48 ?_
  refine fl_iload1 (pc := 49) dX10_calls_49 ?_
  obtain ⟨v11, M12, ev11, h⟩ := fm_bdp h
  refine fm_callV (pc := 50) mX10_dampIn [_] _ rfl cvX10_dampIn ml_10_325 sh_76 rfl rfl (Nat.le_of_ble_eq_true rfl) (Nat.le_of_ble_eq_true rfl) dX10_calls_50 ?_
  refine sp_X10_dampIn ev11 ?_
  refine fm_ret1 ?_
  refine fm_i2l (pc := 53) dX10_calls_53 ?_
  obtain ⟨g13, h⟩ := fm_gdp h
  refine fm_last (pc := 54) sh_92 (fm_inb_ok g13) dX10_calls_54 ?_
  obtain ⟨M14, eM14, h⟩ := fm_ltp h
  refine fm_cgm eM14 ?_
  refine fl_aload0 (pc := 55) dX10_calls_55 ?_
  refine fm_getr (pc := 56) lk_10_59 sh_76 rfl dX10_calls_56 ?_
  refine fm_bipushv (pc := 59) 6 (by decide) dX10_calls_59 ?_
  refine fl_aload0 (pc := 61) dX10_calls_61 ?_
  refine fm_getr (pc := 62) lk_10_66 sh_76 rfl dX10_calls_62 ?_
  refine fl_iload1 (pc := 65) dX10_calls_65 ?_
  obtain ⟨g15, h⟩ := fm_gdp h
  refine fm_iald (pc := 66) sh_94 (fm_inb_ok g15) dX10_calls_66 ?_
  refine fm_i2l (pc := 67) dX10_calls_67 ?_
  obtain ⟨g16, h⟩ := fm_gdp h
  refine fm_last (pc := 68) sh_92 (fm_inb_ok g16) dX10_calls_68 ?_
  obtain ⟨M17, eM17, h⟩ := fm_ltp h
  refine fm_cgm eM17 ?_
  refine fm_vret (pc := 69) rfl ?_ dX10_calls_69
  cases h
  exact hq
/-! X10_callsHum -/
def F_X10_callsHum (a1 : Int32) (a2 : Int32) (a3 : Int32) (a4 : Int32) (M : fm_M) : Option (Unit × fm_M) :=
    fm_bd (F_X10_wetPitch a1 a3 M) (fun v1 M2 =>
    fm_bd (F_X10_widthIn a2 M2) (fun v3 M4 =>
    fm_gd (fm_inb a2 16) (
    fm_bd (F_X10_beatsOf a1 a3 a4 M4) (fun v6 M7 =>
    fm_bd (F_X10_calls a1 v1 a4 v3 (M4.1 82 (Int32.toNatClampNeg a2)) v6 M7) (fun v8 M9 =>
    some ((), M9))))))
theorem sp_X10_callsHum {d : Nat} {a1 : Int32} {a2 : Int32} {a3 : Int32} {a4 : Int32} {M : fm_M} {x : Unit × fm_M} {Q : Option Value → fm_M → Prop} (h : F_X10_callsHum a1 a2 a3 a4 M = some x) (hq : Q none x.2) : fm_ct (d + 4) mX10_callsHum [.ref 76, .int a1, .int a2, .int a3, .int a4] M Q := by
  rw [F_X10_callsHum] at h
  show fm_mw (d + 4) mX10_callsHum Q 0 [some (.ref 76), some (.int a1), some (.int a2), some (.int a3), some (.int a4)] [] M
  refine fl_aload0 (pc := 0) dX10_callsHum_0 ?_
  refine fl_iload1 (pc := 1) dX10_callsHum_1 ?_
  refine fl_aload0 (pc := 2) dX10_callsHum_2 ?_
  refine fl_iload1 (pc := 3) dX10_callsHum_3 ?_
  refine fl_iload3 (pc := 4) dX10_callsHum_4 ?_
  obtain ⟨v1, M2, ev1, h⟩ := fm_bdp h
  refine fm_callV (pc := 5) mX10_wetPitch [_, _] _ rfl cvX10_wetPitch ml_10_331 sh_76 rfl rfl (Nat.le_of_ble_eq_true rfl) (Nat.le_of_ble_eq_true rfl) dX10_callsHum_5 ?_
  refine sp_X10_wetPitch ev1 ?_
  refine fm_ret1 ?_
  refine fl_iload4 (pc := 8) dX10_callsHum_8 ?_
  refine fl_aload0 (pc := 10) dX10_callsHum_10 ?_
  refine fl_iload2 (pc := 11) dX10_callsHum_11 ?_
  obtain ⟨v3, M4, ev3, h⟩ := fm_bdp h
  refine fm_callV (pc := 12) mX10_widthIn [_] _ rfl cvX10_widthIn ml_10_339 sh_76 rfl rfl (Nat.le_of_ble_eq_true rfl) (Nat.le_of_ble_eq_true rfl) dX10_callsHum_12 ?_
  refine sp_X10_widthIn ev3 ?_
  refine fm_ret1 ?_
  refine fl_aload0 (pc := 15) dX10_callsHum_15 ?_
  refine fm_getr (pc := 16) lk_10_25 sh_76 rfl dX10_callsHum_16 ?_
  refine fl_iload2 (pc := 19) dX10_callsHum_19 ?_
  obtain ⟨g5, h⟩ := fm_gdp h
  refine fm_iald (pc := 20) sh_82 (fm_inb_ok g5) dX10_callsHum_20 ?_
  refine fl_aload0 (pc := 21) dX10_callsHum_21 ?_
  refine fl_iload1 (pc := 22) dX10_callsHum_22 ?_
  refine fl_iload3 (pc := 23) dX10_callsHum_23 ?_
  refine fl_iload4 (pc := 24) dX10_callsHum_24 ?_
  obtain ⟨v6, M7, ev6, h⟩ := fm_bdp h
  refine fm_callV (pc := 26) mX10_beatsOf [_, _, _] _ rfl cvX10_beatsOf ml_10_342 sh_76 rfl rfl (Nat.le_of_ble_eq_true rfl) (Nat.le_of_ble_eq_true rfl) dX10_callsHum_26 ?_
  refine sp_X10_beatsOf ev6 ?_
  refine fm_ret1 ?_
  obtain ⟨v8, M9, ev8, h⟩ := fm_bdp h
  refine fm_callV (pc := 29) mX10_calls [_, _, _, _, _, _] _ rfl cvX10_calls ml_10_346 sh_76 rfl rfl (Nat.le_of_ble_eq_true rfl) (Nat.le_of_ble_eq_true rfl) dX10_callsHum_29 ?_
  refine sp_X10_calls ev8 ?_
  refine fm_ret0 ?_
  refine fm_vret (pc := 32) rfl ?_ dX10_callsHum_32
  cases h
  exact hq
/-! X10_callsRust -/
def F_X10_callsRust (a1 : Int32) (a2 : Int32) (M : fm_M) : Option (Unit × fm_M) :=
    fm_gd (fm_inb ((8 * a1) + a2) 184) (
    fm_bd (F_X10_wetPitch a1 (M.1 98 (Int32.toNatClampNeg ((8 * a1) + a2))) M) (fun v2 M3 =>
    fm_bd (F_X10_widthIn a2 M3) (fun v4 M5 =>
    fm_gd (fm_inb a2 16) (
    fm_bd (F_X10_calls a1 v2 0 v4 (M5.1 82 (Int32.toNatClampNeg a2)) 0 M5) (fun v7 M8 =>
    some ((), M8))))))
theorem sp_X10_callsRust {d : Nat} {a1 : Int32} {a2 : Int32} {M : fm_M} {x : Unit × fm_M} {Q : Option Value → fm_M → Prop} (h : F_X10_callsRust a1 a2 M = some x) (hq : Q none x.2) : fm_ct (d + 3) mX10_callsRust [.ref 76, .int a1, .int a2] M Q := by
  rw [F_X10_callsRust] at h
  show fm_mw (d + 3) mX10_callsRust Q 0 [some (.ref 76), some (.int a1), some (.int a2)] [] M
  refine fl_aload0 (pc := 0) dX10_callsRust_0 ?_
  refine fl_iload1 (pc := 1) dX10_callsRust_1 ?_
  refine fl_aload0 (pc := 2) dX10_callsRust_2 ?_
  refine fl_iload1 (pc := 3) dX10_callsRust_3 ?_
  refine fl_aload0 (pc := 4) dX10_callsRust_4 ?_
  refine fm_getr (pc := 5) lk_10_78 sh_76 rfl dX10_callsRust_5 ?_
  refine fm_bipushv (pc := 8) 8 (by decide) dX10_callsRust_8 ?_
  refine fl_iload1 (pc := 10) dX10_callsRust_10 ?_
  refine fm_imul (pc := 11) dX10_callsRust_11 ?_
  refine fl_iload2 (pc := 12) dX10_callsRust_12 ?_
  refine fm_iadd (pc := 13) dX10_callsRust_13 ?_
  obtain ⟨g1, h⟩ := fm_gdp h
  refine fm_iald (pc := 14) sh_98 (fm_inb_ok g1) dX10_callsRust_14 ?_
  obtain ⟨v2, M3, ev2, h⟩ := fm_bdp h
  refine fm_callV (pc := 15) mX10_wetPitch [_, _] _ rfl cvX10_wetPitch ml_10_331 sh_76 rfl rfl (Nat.le_of_ble_eq_true rfl) (Nat.le_of_ble_eq_true rfl) dX10_callsRust_15 ?_
  refine sp_X10_wetPitch ev2 ?_
  refine fm_ret1 ?_
  refine fm_iconstv (pc := 18) 0 (by decide) dX10_callsRust_18 ?_
  refine fl_aload0 (pc := 19) dX10_callsRust_19 ?_
  refine fl_iload2 (pc := 20) dX10_callsRust_20 ?_
  obtain ⟨v4, M5, ev4, h⟩ := fm_bdp h
  refine fm_callV (pc := 21) mX10_widthIn [_] _ rfl cvX10_widthIn ml_10_339 sh_76 rfl rfl (Nat.le_of_ble_eq_true rfl) (Nat.le_of_ble_eq_true rfl) dX10_callsRust_21 ?_
  refine sp_X10_widthIn ev4 ?_
  refine fm_ret1 ?_
  refine fl_aload0 (pc := 24) dX10_callsRust_24 ?_
  refine fm_getr (pc := 25) lk_10_25 sh_76 rfl dX10_callsRust_25 ?_
  refine fl_iload2 (pc := 28) dX10_callsRust_28 ?_
  obtain ⟨g6, h⟩ := fm_gdp h
  refine fm_iald (pc := 29) sh_82 (fm_inb_ok g6) dX10_callsRust_29 ?_
  refine fm_iconstv (pc := 30) 0 (by decide) dX10_callsRust_30 ?_
  obtain ⟨v7, M8, ev7, h⟩ := fm_bdp h
  refine fm_callV (pc := 31) mX10_calls [_, _, _, _, _, _] _ rfl cvX10_calls ml_10_346 sh_76 rfl rfl (Nat.le_of_ble_eq_true rfl) (Nat.le_of_ble_eq_true rfl) dX10_callsRust_31 ?_
  refine sp_X10_calls ev7 ?_
  refine fm_ret0 ?_
  refine fm_vret (pc := 34) rfl ?_ dX10_callsRust_34
  cases h
  exact hq
/-! X10_within -/
def F_X10_within (a1 : Int32) (a2 : Int32) (a3 : Int32) (M : fm_M) : Option (Int32 × fm_M) :=
    fm_bd (F_X10_hasLaw a1 M) (fun v1 M2 =>
    if v1 = 0 then (
      some (a3, M2)
    ) else (
      fm_bd (F_X10_goes a1 M2) (fun v3 M4 =>
      if v3 = 0 then (
        some (a3, M4)
      ) else (
        fm_gd (fm_inb 0 64) (
        some ((Int64.toInt32 (l_max 0 (l_min (Int32.toInt64 a2) (M4.2 93 (Int32.toNatClampNeg 0))))), M4))
      ))
    ))
theorem sp_X10_within {d : Nat} {a1 : Int32} {a2 : Int32} {a3 : Int32} {M : fm_M} {x : Int32 × fm_M} {Q : Option Value → fm_M → Prop} (h : F_X10_within a1 a2 a3 M = some x) (hq : Q (some (.int x.1)) x.2) : fm_ct (d + 3) mX10_within [.ref 76, .int a1, .int a2, .int a3] M Q := by
  rw [F_X10_within] at h
  show fm_mw (d + 3) mX10_within Q 0 [some (.ref 76), some (.int a1), some (.int a2), some (.int a3)] [] M
  refine fl_aload0 (pc := 0) dX10_within_0 ?_
  refine fl_iload1 (pc := 1) dX10_within_1 ?_
  obtain ⟨v1, M2, ev1, h⟩ := fm_bdp h
  refine fm_callV (pc := 2) mX10_hasLaw [_] _ rfl cvX10_hasLaw ml_10_350 sh_76 rfl rfl (Nat.le_of_ble_eq_true rfl) (Nat.le_of_ble_eq_true rfl) dX10_within_2 ?_
  refine sp_X10_hasLaw ev1 ?_
  refine fm_ret1 ?_
  refine fm_if_eq (pc := 5) 16 (by decide) dX10_within_5 (fun c5 => ?_) (fun c5 => ?_)
  · replace h := fm_itp c5 h
    refine fl_iload3 (pc := 16) dX10_within_16 ?_
    refine fm_iret (pc := 17) rfl ?_ dX10_within_17
    cases h
    exact hq
  · replace h := fm_itn c5 h
    refine fl_aload0 (pc := 8) dX10_within_8 ?_
    refine fl_iload1 (pc := 9) dX10_within_9 ?_
    obtain ⟨v3, M4, ev3, h⟩ := fm_bdp h
    refine fm_callV (pc := 10) mX10_goes [_] _ rfl cvX10_goes ml_10_353 sh_76 rfl rfl (Nat.le_of_ble_eq_true rfl) (Nat.le_of_ble_eq_true rfl) dX10_within_10 ?_
    refine sp_X10_goes ev3 ?_
    refine fm_ret1 ?_
    refine fm_if_ne (pc := 13) 18 (by decide) dX10_within_13 (fun c13 => ?_) (fun c13 => ?_)
    · replace h := fm_itn c13 h
      refine fm_lconstv (pc := 18) 0 (by decide) dX10_within_18 ?_
      refine fl_iload2 (pc := 19) dX10_within_19 ?_
      refine fm_i2l (pc := 20) dX10_within_20 ?_
      refine fl_aload0 (pc := 21) dX10_within_21 ?_
      refine fm_getr (pc := 22) lk_10_63 sh_76 rfl dX10_within_22 ?_
      refine fm_iconstv (pc := 25) 0 (by decide) dX10_within_25 ?_
      obtain ⟨g5, h⟩ := fm_gdp h
      refine fm_lald (pc := 26) sh_93 (fm_inb_ok g5) dX10_within_26 ?_
      refine fq_mminl (pc := 27) ml_10_356 (Nat.le_of_ble_eq_true rfl) dX10_within_27 ?_
      refine fq_mmaxl (pc := 30) ml_10_359 (Nat.le_of_ble_eq_true rfl) dX10_within_30 ?_
      refine fm_l2i (pc := 33) dX10_within_33 ?_
      refine fm_iret (pc := 34) rfl ?_ dX10_within_34
      cases h
      exact hq
    · replace h := fm_itp c13 h
      refine fl_iload3 (pc := 16) dX10_within_16 ?_
      refine fm_iret (pc := 17) rfl ?_ dX10_within_17
      cases h
      exact hq
/-! X10_loudAt -/
def J_X10_loudAt_38 (l1 : Int32) (l2 : Int32) (l3 : Int32) (l4 : Int32) (s0 : Int32) (M : fm_M) : Option (Int32 × fm_M) :=
    if s0 = 0 then (
      fm_bd (F_X10_within 0 99 0 M) (fun v5 M6 =>
      some (v5, M6))
    ) else (
      fm_gd (fm_inb l2 16) (
      fm_bd (F_X10_within 0 99 (M.1 82 (Int32.toNatClampNeg l2)) M) (fun v8 M9 =>
      some (v8, M9)))
    )
def J_X10_loudAt_33 (l1 : Int32) (l2 : Int32) (l3 : Int32) (l4 : Int32) (M : fm_M) : Option (Int32 × fm_M) :=
    J_X10_loudAt_38 l1 l2 l3 l4 1 M
def F_X10_loudAt (a1 : Int32) (a2 : Int32) (a3 : Int32) (a4 : Int32) (M : fm_M) : Option (Int32 × fm_M) :=
    fm_bd (F_X10_callsHum a1 a2 a3 a4 M) (fun v1 M2 =>
    fm_bd (F_X10_isCracked a2 M2) (fun v3 M4 =>
    if v3 = 0 then (
      fm_bd (F_X10_beatsOf a1 a3 a4 M4) (fun v10 M11 =>
      fm_bd (F_X10_widthIn a2 M11) (fun v12 M13 =>
      if v12 < v10 then (
        J_X10_loudAt_38 a1 a2 a3 a4 0 M13
      ) else (
        J_X10_loudAt_33 a1 a2 a3 a4 M13
      )))
    ) else (
      J_X10_loudAt_33 a1 a2 a3 a4 M4
    )))
theorem jn_X10_loudAt_38 {d : Nat} {Q : Option Value → fm_M → Prop}  (l1 : Int32) (l2 : Int32) (l3 : Int32) (l4 : Int32) (s0 : Int32) {x : Int32 × fm_M}  (hq : Q (some (.int x.1)) x.2) (M : fm_M) (h : J_X10_loudAt_38 l1 l2 l3 l4 s0 M = some x) : fm_mw (d + 5) mX10_loudAt Q 38 [some (.ref 76), some (.int l1), some (.int l2), some (.int l3), some (.int l4), none] [(.int s0)] M := by
  rw [J_X10_loudAt_38] at h
  refine fl_istore5 (pc := 38) rfl (by decide) dX10_loudAt_38 ?_
  refine fl_aload0 (pc := 40) dX10_loudAt_40 ?_
  refine fm_iconstv (pc := 41) 0 (by decide) dX10_loudAt_41 ?_
  refine fm_bipushv (pc := 42) 99 (by decide) dX10_loudAt_42 ?_
  refine fl_iload5 (pc := 44) dX10_loudAt_44 ?_
  refine fm_if_eq (pc := 46) 58 (by decide) dX10_loudAt_46 (fun c46 => ?_) (fun c46 => ?_)
  · replace h := fm_itp c46 h
    refine fm_iconstv (pc := 58) 0 (by decide) dX10_loudAt_58 ?_
    obtain ⟨v5, M6, ev5, h⟩ := fm_bdp h
    refine fm_callV (pc := 59) mX10_within [_, _, _] _ rfl cvX10_within ml_10_368 sh_76 rfl rfl (Nat.le_of_ble_eq_true rfl) (Nat.le_of_ble_eq_true rfl) dX10_loudAt_59 ?_
    refine sp_X10_within ev5 ?_
    refine fm_ret1 ?_
    refine fm_iret (pc := 62) rfl ?_ dX10_loudAt_62
    cases h
    exact hq
  · replace h := fm_itn c46 h
    refine fl_aload0 (pc := 49) dX10_loudAt_49 ?_
    refine fm_getr (pc := 50) lk_10_25 sh_76 rfl dX10_loudAt_50 ?_
    refine fl_iload2 (pc := 53) dX10_loudAt_53 ?_
    obtain ⟨g7, h⟩ := fm_gdp h
    refine fm_iald (pc := 54) sh_82 (fm_inb_ok g7) dX10_loudAt_54 ?_
    refine fm_goto (pc := 55) 59 (by decide) dX10_loudAt_55 ?_
    obtain ⟨v8, M9, ev8, h⟩ := fm_bdp h
    refine fm_callV (pc := 59) mX10_within [_, _, _] _ rfl cvX10_within ml_10_368 sh_76 rfl rfl (Nat.le_of_ble_eq_true rfl) (Nat.le_of_ble_eq_true rfl) dX10_loudAt_59 ?_
    refine sp_X10_within ev8 ?_
    refine fm_ret1 ?_
    refine fm_iret (pc := 62) rfl ?_ dX10_loudAt_62
    cases h
    exact hq
theorem jn_X10_loudAt_33 {d : Nat} {Q : Option Value → fm_M → Prop}  (l1 : Int32) (l2 : Int32) (l3 : Int32) (l4 : Int32) {x : Int32 × fm_M}  (hq : Q (some (.int x.1)) x.2) (M : fm_M) (h : J_X10_loudAt_33 l1 l2 l3 l4 M = some x) : fm_mw (d + 5) mX10_loudAt Q 33 [some (.ref 76), some (.int l1), some (.int l2), some (.int l3), some (.int l4), none] [] M := by
  rw [J_X10_loudAt_33] at h
  refine fm_iconstv (pc := 33) 1 (by decide) dX10_loudAt_33 ?_
  refine fm_goto (pc := 34) 38 (by decide) dX10_loudAt_34 ?_
  exact jn_X10_loudAt_38 _ _ _ _ _  hq _ h
theorem sp_X10_loudAt {d : Nat} {a1 : Int32} {a2 : Int32} {a3 : Int32} {a4 : Int32} {M : fm_M} {x : Int32 × fm_M} {Q : Option Value → fm_M → Prop} (h : F_X10_loudAt a1 a2 a3 a4 M = some x) (hq : Q (some (.int x.1)) x.2) : fm_ct (d + 5) mX10_loudAt [.ref 76, .int a1, .int a2, .int a3, .int a4] M Q := by
  rw [F_X10_loudAt] at h
  show fm_mw (d + 5) mX10_loudAt Q 0 [some (.ref 76), some (.int a1), some (.int a2), some (.int a3), some (.int a4), none] [] M
  refine fl_aload0 (pc := 0) dX10_loudAt_0 ?_
  refine fl_iload1 (pc := 1) dX10_loudAt_1 ?_
  refine fl_iload2 (pc := 2) dX10_loudAt_2 ?_
  refine fl_iload3 (pc := 3) dX10_loudAt_3 ?_
  refine fl_iload4 (pc := 4) dX10_loudAt_4 ?_
  obtain ⟨v1, M2, ev1, h⟩ := fm_bdp h
  refine fm_callV (pc := 6) mX10_callsHum [_, _, _, _] _ rfl cvX10_callsHum ml_10_361 sh_76 rfl rfl (Nat.le_of_ble_eq_true rfl) (Nat.le_of_ble_eq_true rfl) dX10_loudAt_6 ?_
  refine sp_X10_callsHum ev1 ?_
  refine fm_ret0 ?_
  refine fl_aload0 (pc := 9) dX10_loudAt_9 ?_
  refine fl_iload2 (pc := 10) dX10_loudAt_10 ?_
  obtain ⟨v3, M4, ev3, h⟩ := fm_bdp h
  refine fm_callV (pc := 11) mX10_isCracked [_] _ rfl cvX10_isCracked ml_10_365 sh_76 rfl rfl (Nat.le_of_ble_eq_true rfl) (Nat.le_of_ble_eq_true rfl) dX10_loudAt_11 ?_
  refine sp_X10_isCracked ev3 ?_
  refine fm_ret1 ?_
  refine fm_if_ne (pc := 14) 33 (by decide) dX10_loudAt_14 (fun c14 => ?_) (fun c14 => ?_)
  · replace h := fm_itn c14 h
    exact jn_X10_loudAt_33 _ _ _ _  hq _ h
  · replace h := fm_itp c14 h
    refine fl_aload0 (pc := 17) dX10_loudAt_17 ?_
    refine fl_iload1 (pc := 18) dX10_loudAt_18 ?_
    refine fl_iload3 (pc := 19) dX10_loudAt_19 ?_
    refine fl_iload4 (pc := 20) dX10_loudAt_20 ?_
    obtain ⟨v10, M11, ev10, h⟩ := fm_bdp h
    refine fm_callV (pc := 22) mX10_beatsOf [_, _, _] _ rfl cvX10_beatsOf ml_10_342 sh_76 rfl rfl (Nat.le_of_ble_eq_true rfl) (Nat.le_of_ble_eq_true rfl) dX10_loudAt_22 ?_
    refine sp_X10_beatsOf ev10 ?_
    refine fm_ret1 ?_
    refine fl_aload0 (pc := 25) dX10_loudAt_25 ?_
    refine fl_iload2 (pc := 26) dX10_loudAt_26 ?_
    obtain ⟨v12, M13, ev12, h⟩ := fm_bdp h
    refine fm_callV (pc := 27) mX10_widthIn [_] _ rfl cvX10_widthIn ml_10_339 sh_76 rfl rfl (Nat.le_of_ble_eq_true rfl) (Nat.le_of_ble_eq_true rfl) dX10_loudAt_27 ?_
    refine sp_X10_widthIn ev12 ?_
    refine fm_ret1 ?_
    refine fm_icmp_gt (pc := 30) 37 (by decide) dX10_loudAt_30 (fun c30 => ?_) (fun c30 => ?_)
    · replace h := fm_itp c30 h
      refine fm_iconstv (pc := 37) 0 (by decide) dX10_loudAt_37 ?_
      exact jn_X10_loudAt_38 _ _ _ _ _  hq _ h
    · replace h := fm_itn c30 h
      exact jn_X10_loudAt_33 _ _ _ _  hq _ h
/-! X10_humOf -/
def F_X10_humOf (a1 : Int32) (a2 : Int32) (a3 : Int32) (M : fm_M) : Option (Int32 × fm_M) :=
    fm_bd (F_X10_isThere a2 M) (fun v1 M2 =>
    if v1 = 0 then (
      some (0, M2)
    ) else (
      fm_bd (F_X10_isTouched a1 a2 M2) (fun v3 M4 =>
      if v3 = 0 then (
        fm_gd (fm_inb ((8 * a1) + a2) 184) (
        fm_bd (F_X10_loudAt a1 a2 (M4.1 98 (Int32.toNatClampNeg ((8 * a1) + a2))) a3 M4) (fun v6 M7 =>
        some (v6, M7)))
      ) else (
        some (0, M4)
      ))
    ))
theorem sp_X10_humOf {d : Nat} {a1 : Int32} {a2 : Int32} {a3 : Int32} {M : fm_M} {x : Int32 × fm_M} {Q : Option Value → fm_M → Prop} (h : F_X10_humOf a1 a2 a3 M = some x) (hq : Q (some (.int x.1)) x.2) : fm_ct (d + 6) mX10_humOf [.ref 76, .int a1, .int a2, .int a3] M Q := by
  rw [F_X10_humOf] at h
  show fm_mw (d + 6) mX10_humOf Q 0 [some (.ref 76), some (.int a1), some (.int a2), some (.int a3)] [] M
  refine fl_aload0 (pc := 0) dX10_humOf_0 ?_
  refine fl_iload2 (pc := 1) dX10_humOf_1 ?_
  obtain ⟨v1, M2, ev1, h⟩ := fm_bdp h
  refine fm_callV (pc := 2) mX10_isThere [_] _ rfl cvX10_isThere ml_10_371 sh_76 rfl rfl (Nat.le_of_ble_eq_true rfl) (Nat.le_of_ble_eq_true rfl) dX10_humOf_2 ?_
  refine sp_X10_isThere ev1 ?_
  refine fm_ret1 ?_
  refine fm_if_eq (pc := 5) 17 (by decide) dX10_humOf_5 (fun c5 => ?_) (fun c5 => ?_)
  · replace h := fm_itp c5 h
    refine fm_iconstv (pc := 17) 0 (by decide) dX10_humOf_17 ?_
    refine fm_goto (pc := 18) 39 (by decide) dX10_humOf_18 ?_
    refine fm_iret (pc := 39) rfl ?_ dX10_humOf_39
    cases h
    exact hq
  · replace h := fm_itn c5 h
    refine fl_aload0 (pc := 8) dX10_humOf_8 ?_
    refine fl_iload1 (pc := 9) dX10_humOf_9 ?_
    refine fl_iload2 (pc := 10) dX10_humOf_10 ?_
    obtain ⟨v3, M4, ev3, h⟩ := fm_bdp h
    refine fm_callV (pc := 11) mX10_isTouched [_, _] _ rfl cvX10_isTouched ml_10_374 sh_76 rfl rfl (Nat.le_of_ble_eq_true rfl) (Nat.le_of_ble_eq_true rfl) dX10_humOf_11 ?_
    refine sp_X10_isTouched ev3 ?_
    refine fm_ret1 ?_
    refine fm_if_eq (pc := 14) 21 (by decide) dX10_humOf_14 (fun c14 => ?_) (fun c14 => ?_)
    · replace h := fm_itp c14 h
      refine fl_aload0 (pc := 21) dX10_humOf_21 ?_
      refine fl_iload1 (pc := 22) dX10_humOf_22 ?_
      refine fl_iload2 (pc := 23) dX10_humOf_23 ?_
      refine fl_aload0 (pc := 24) dX10_humOf_24 ?_
      refine fm_getr (pc := 25) lk_10_78 sh_76 rfl dX10_humOf_25 ?_
      refine fm_bipushv (pc := 28) 8 (by decide) dX10_humOf_28 ?_
      refine fl_iload1 (pc := 30) dX10_humOf_30 ?_
      refine fm_imul (pc := 31) dX10_humOf_31 ?_
      refine fl_iload2 (pc := 32) dX10_humOf_32 ?_
      refine fm_iadd (pc := 33) dX10_humOf_33 ?_
      obtain ⟨g5, h⟩ := fm_gdp h
      refine fm_iald (pc := 34) sh_98 (fm_inb_ok g5) dX10_humOf_34 ?_
      refine fl_iload3 (pc := 35) dX10_humOf_35 ?_
      obtain ⟨v6, M7, ev6, h⟩ := fm_bdp h
      refine fm_callV (pc := 36) mX10_loudAt [_, _, _, _] _ rfl cvX10_loudAt ml_10_378 sh_76 rfl rfl (Nat.le_of_ble_eq_true rfl) (Nat.le_of_ble_eq_true rfl) dX10_humOf_36 ?_
      refine sp_X10_loudAt ev6 ?_
      refine fm_ret1 ?_
      refine fm_iret (pc := 39) rfl ?_ dX10_humOf_39
      cases h
      exact hq
    · replace h := fm_itn c14 h
      refine fm_iconstv (pc := 17) 0 (by decide) dX10_humOf_17 ?_
      refine fm_goto (pc := 18) 39 (by decide) dX10_humOf_18 ?_
      refine fm_iret (pc := 39) rfl ?_ dX10_humOf_39
      cases h
      exact hq
/-! X10_humAll -/
def G_X10_humAll_5 : Nat → Int32 → Int32 → Int32 → Int32 → fm_M → Option ((Int32 × Int32) × fm_M)
  | 0, _, _, _, _, _ => none
  | n + 1, l1, l2, l3, l4, M =>
    fm_gd (fm_inb 0 20) (
    if (M.1 78 (Int32.toNatClampNeg 0)) ≤ l4 then (
      some ((l3, l4), M)
    ) else (
      fm_bd (F_X10_humOf l1 l4 l2 M) (fun v2 M3 =>
      fm_lt ((l3 + v2)) (fun x4 =>
      G_X10_humAll_5 n l1 l2 x4 (l4 + 1) M3))
    ))
def F_X10_humAll (a1 : Int32) (a2 : Int32) (M : fm_M) : Option (Int32 × fm_M) :=
    fm_bd (G_X10_humAll_5 fm_fuel a1 a2 0 0 M) (fun w5 M6 =>
      some (w5.1, M6))
theorem lp_X10_humAll_5 {d : Nat} {Q : Option Value → fm_M → Prop} {l1 : Int32} {l2 : Int32}   {x : (Int32 × Int32) × fm_M} (k1 : ∀ (v : Int32 × Int32) (M2 : fm_M), x = (v, M2) → fm_mw (d + 7) mX10_humAll Q 33 [some (.ref 76), some (.int l1), some (.int l2), some (.int v.1), some (.int v.2)] [] M2) : ∀ (n : Nat) (l3 : Int32) (l4 : Int32) (M : fm_M), G_X10_humAll_5 n l1 l2 l3 l4 M = some x → fm_mw (d + 7) mX10_humAll Q 5 [some (.ref 76), some (.int l1), some (.int l2), some (.int l3), some (.int l4)] [] M := by
  intro n
  induction n with
  | zero => intro l3 l4 M h; simp [G_X10_humAll_5] at h
  | succ n ih =>
    intro l3 l4 M h
    rw [G_X10_humAll_5] at h
    refine fl_iload4 (pc := 5) dX10_humAll_5 ?_
    refine fl_aload0 (pc := 7) dX10_humAll_7 ?_
    refine fm_getr (pc := 8) lk_10_13 sh_76 rfl dX10_humAll_8 ?_
    refine fm_iconstv (pc := 11) 0 (by decide) dX10_humAll_11 ?_
    obtain ⟨g1, h⟩ := fm_gdp h
    refine fm_iald (pc := 12) sh_78 (fm_inb_ok g1) dX10_humAll_12 ?_
    refine fm_icmp_ge (pc := 13) 33 (by decide) dX10_humAll_13 (fun c13 => ?_) (fun c13 => ?_)
    · replace h := fm_itp c13 h
      refine fm_fgt [some (.ref 76), some (.int l1), some (.int l2), some (.int l3), some (.int l4)] (by simp [fm_sub]) ?_
      cases h
      exact k1 _ _ rfl
    · replace h := fm_itn c13 h
      refine fl_iload3 (pc := 16) dX10_humAll_16 ?_
      refine fl_aload0 (pc := 17) dX10_humAll_17 ?_
      refine fl_iload1 (pc := 18) dX10_humAll_18 ?_
      refine fl_iload4 (pc := 19) dX10_humAll_19 ?_
      refine fl_iload2 (pc := 21) dX10_humAll_21 ?_
      obtain ⟨v2, M3, ev2, h⟩ := fm_bdp h
      refine fm_callV (pc := 22) mX10_humOf [_, _, _] _ rfl cvX10_humOf ml_10_382 sh_76 rfl rfl (Nat.le_of_ble_eq_true rfl) (Nat.le_of_ble_eq_true rfl) dX10_humAll_22 ?_
      refine sp_X10_humOf ev2 ?_
      refine fm_ret1 ?_
      refine fm_iadd (pc := 25) dX10_humAll_25 ?_
      obtain ⟨x4, ex4, h⟩ := fm_ltp h
      refine fm_cgi ex4 ?_
      refine fl_istore3 (pc := 26) rfl (by decide) dX10_humAll_26 ?_
      refine fl_iinc4 (pc := 27) rfl 1 (by decide) (by decide) dX10_humAll_27 ?_
      refine fm_goto (pc := 30) 5 (by decide) dX10_humAll_30 ?_
      refine fm_fgt [some (.ref 76), some (.int l1), some (.int l2), some (.int x4), some (.int (l4 + 1))] (by simp [fm_sub]) ?_
      exact ih _ _ _ h
theorem sp_X10_humAll {d : Nat} {a1 : Int32} {a2 : Int32} {M : fm_M} {x : Int32 × fm_M} {Q : Option Value → fm_M → Prop} (h : F_X10_humAll a1 a2 M = some x) (hq : Q (some (.int x.1)) x.2) : fm_ct (d + 7) mX10_humAll [.ref 76, .int a1, .int a2] M Q := by
  rw [F_X10_humAll] at h
  show fm_mw (d + 7) mX10_humAll Q 0 [some (.ref 76), some (.int a1), some (.int a2), none, none] [] M
  refine fm_iconstv (pc := 0) 0 (by decide) dX10_humAll_0 ?_
  refine fl_istore3 (pc := 1) rfl (by decide) dX10_humAll_1 ?_
  refine fm_iconstv (pc := 2) 0 (by decide) dX10_humAll_2 ?_
  refine fl_istore4 (pc := 3) rfl (by decide) dX10_humAll_3 ?_
  obtain ⟨w5, M6, ew5, h⟩ := fm_bdp h
  refine lp_X10_humAll_5  ?_ _ _ _ _ ew5
  intro w59 M69 q9
  cases q9
  refine fl_iload3 (pc := 33) dX10_humAll_33 ?_
  refine fm_iret (pc := 34) rfl ?_ dX10_humAll_34
  cases h
  exact hq
