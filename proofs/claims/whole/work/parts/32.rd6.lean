/-! X6_readLaw -/
def F_X6_readLaw  (M : fm_M) : Option (Unit × fm_M) :=
    fm_bd (F_X6_advance M) (fun v1 M2 =>
    fm_lt (((M2.1 1 8) - 26)) (fun x3 =>
    if (M2.1 1 8) < 26 then (
      fm_bd (F_X6_refuse 1 M2) (fun v4 M5 =>
      some ((), M5))
    ) else (
      if (M2.1 1 8) ≤ 28 then (
        fm_lt (Int32.toNatClampNeg (M2.1 1 5)) (fun t6 =>
        fm_gd (fm_isTd t6) (
        fm_bd (F_X3_has (t6 + 10) x3 M2) (fun v8 M9 =>
        if v8 = 0 then (
          fm_bd (F_X6_advance M9) (fun v10 M11 =>
          fm_lt (Int32.toNatClampNeg (M11.1 1 5)) (fun t12 =>
          fm_gd (fm_isTd t12) (
          fm_bd (F_X3_begin (t12 + 10) x3 M11) (fun v14 M15 =>
          fm_bd (F_X6_readEither 0 M15) (fun v16 M17 =>
          fm_lt (Int32.toNatClampNeg (M17.1 1 5)) (fun t18 =>
          fm_gd (fm_isTd t18) (
          fm_bd (F_X3_finish (t18 + 10) x3 M17) (fun v20 M21 =>
          some ((), M21)))))))))
        ) else (
          fm_bd (F_X6_refuse 3 M9) (fun v22 M23 =>
          some ((), M23))
        ))))
      ) else (
        fm_bd (F_X6_refuse 1 M2) (fun v24 M25 =>
        some ((), M25))
      )
    )))
theorem sp_X6_readLaw {d : Nat}  {M : fm_M} {x : Unit × fm_M} {Q : Option Value → fm_M → Prop} (h : F_X6_readLaw  M = some x) (hq : Q none x.2) : fm_ct (d + 88) mX6_readLaw [.ref 1] M Q := by
  rw [F_X6_readLaw] at h
  show fm_mw (d + 88) mX6_readLaw Q 0 [some (.ref 1), none] [] M
  refine fl_aload0 (pc := 0) dX6_readLaw_0 ?_
  obtain ⟨v1, M2, ev1, h⟩ := fm_bdp h
  refine fm_callV (pc := 1) mX6_advance [] _ rfl cvX6_advance ml_6_70 sh_1 rfl rfl (Nat.le_of_ble_eq_true rfl) (Nat.le_of_ble_eq_true rfl) dX6_readLaw_1 ?_
  refine sp_X6_advance ev1 ?_
  refine fm_ret0 ?_
  refine fl_aload0 (pc := 4) dX6_readLaw_4 ?_
  refine fm_geti (pc := 5) lk_6_73 sh_1 rfl dX6_readLaw_5 ?_
  refine fm_bipushv (pc := 8) 26 (by decide) dX6_readLaw_8 ?_
  refine fm_isub (pc := 10) dX6_readLaw_10 ?_
  obtain ⟨x3, ex3, h⟩ := fm_ltp h
  refine fm_cgi ex3 ?_
  refine fl_istore1 (pc := 11) rfl (by decide) dX6_readLaw_11 ?_
  refine fl_aload0 (pc := 12) dX6_readLaw_12 ?_
  refine fm_geti (pc := 13) lk_6_73 sh_1 rfl dX6_readLaw_13 ?_
  refine fm_bipushv (pc := 16) 26 (by decide) dX6_readLaw_16 ?_
  refine fm_icmp_lt (pc := 18) 30 (by decide) dX6_readLaw_18 (fun c18 => ?_) (fun c18 => ?_)
  · replace h := fm_itp c18 h
    refine fl_aload0 (pc := 30) dX6_readLaw_30 ?_
    refine fm_iconstv (pc := 31) 1 (by decide) dX6_readLaw_31 ?_
    obtain ⟨v4, M5, ev4, h⟩ := fm_bdp h
    refine fm_callV (pc := 32) mX6_refuse [_] _ rfl cvX6_refuse ml_6_113 sh_1 rfl rfl (Nat.le_of_ble_eq_true rfl) (Nat.le_of_ble_eq_true rfl) dX6_readLaw_32 ?_
    refine sp_X6_refuse ev4 ?_
    refine fm_ret0 ?_
    refine fm_goto (pc := 35) 91 (by decide) dX6_readLaw_35 ?_
    refine fm_vret (pc := 91) rfl ?_ dX6_readLaw_91
    cases h
    exact hq
  · replace h := fm_itn c18 h
    refine fl_aload0 (pc := 21) dX6_readLaw_21 ?_
    refine fm_geti (pc := 22) lk_6_73 sh_1 rfl dX6_readLaw_22 ?_
    refine fm_bipushv (pc := 25) 28 (by decide) dX6_readLaw_25 ?_
    refine fm_icmp_le (pc := 27) 38 (by decide) dX6_readLaw_27 (fun c27 => ?_) (fun c27 => ?_)
    · replace h := fm_itp c27 h
      refine fl_aload0 (pc := 38) dX6_readLaw_38 ?_
      obtain ⟨t6, et6, h⟩ := fm_ltp h
      obtain ⟨g7, h⟩ := fm_gdp h
      refine fm_getm (pc := 39) (fm_nn et6 g7) lk_6_26 sh_1 rfl dX6_readLaw_39 ?_
      refine fm_cgr et6 ?_
      refine fm_getr (pc := 42) lk_6_174 (shTd0 g7) rfl dX6_readLaw_42 ?_
      refine fl_iload1 (pc := 45) dX6_readLaw_45 ?_
      obtain ⟨v8, M9, ev8, h⟩ := fm_bdp h
      refine fm_callV (pc := 46) mX3_has [_] _ rfl cvX3_has ml_6_178 (shTd10 g7) rfl rfl (Nat.le_of_ble_eq_true rfl) (Nat.le_of_ble_eq_true rfl) dX6_readLaw_46 ?_
      refine sp_X3_has ev8 ?_
      refine fm_ret1 ?_
      refine fm_if_eq (pc := 49) 60 (by decide) dX6_readLaw_49 (fun c49 => ?_) (fun c49 => ?_)
      · replace h := fm_itp c49 h
        refine fl_aload0 (pc := 60) dX6_readLaw_60 ?_
        obtain ⟨v10, M11, ev10, h⟩ := fm_bdp h
        refine fm_callV (pc := 61) mX6_advance [] _ rfl cvX6_advance ml_6_70 sh_1 rfl rfl (Nat.le_of_ble_eq_true rfl) (Nat.le_of_ble_eq_true rfl) dX6_readLaw_61 ?_
        refine sp_X6_advance ev10 ?_
        refine fm_ret0 ?_
        refine fl_aload0 (pc := 64) dX6_readLaw_64 ?_
        obtain ⟨t12, et12, h⟩ := fm_ltp h
        obtain ⟨g13, h⟩ := fm_gdp h
        refine fm_getm (pc := 65) (fm_nn et12 g13) lk_6_26 sh_1 rfl dX6_readLaw_65 ?_
        refine fm_cgr et12 ?_
        refine fm_getr (pc := 68) lk_6_174 (shTd0 g13) rfl dX6_readLaw_68 ?_
        refine fl_iload1 (pc := 71) dX6_readLaw_71 ?_
        obtain ⟨v14, M15, ev14, h⟩ := fm_bdp h
        refine fm_callV (pc := 72) mX3_begin [_] _ rfl cvX3_begin ml_6_184 (shTd10 g13) rfl rfl (Nat.le_of_ble_eq_true rfl) (Nat.le_of_ble_eq_true rfl) dX6_readLaw_72 ?_
        refine sp_X3_begin ev14 ?_
        refine fm_ret0 ?_
        refine fl_aload0 (pc := 75) dX6_readLaw_75 ?_
        refine fm_iconstv (pc := 76) 0 (by decide) dX6_readLaw_76 ?_
        obtain ⟨v16, M17, ev16, h⟩ := fm_bdp h
        refine fm_callV (pc := 77) mX6_readEither [_] _ rfl cvX6_readEither ml_6_187 sh_1 rfl rfl (Nat.le_of_ble_eq_true rfl) (Nat.le_of_ble_eq_true rfl) dX6_readLaw_77 ?_
        refine sx_X6_readEither ev16 ?_
        refine fm_ret0 ?_
        refine fl_aload0 (pc := 80) dX6_readLaw_80 ?_
        obtain ⟨t18, et18, h⟩ := fm_ltp h
        obtain ⟨g19, h⟩ := fm_gdp h
        refine fm_getm (pc := 81) (fm_nn et18 g19) lk_6_26 sh_1 rfl dX6_readLaw_81 ?_
        refine fm_cgr et18 ?_
        refine fm_getr (pc := 84) lk_6_174 (shTd0 g19) rfl dX6_readLaw_84 ?_
        refine fl_iload1 (pc := 87) dX6_readLaw_87 ?_
        obtain ⟨v20, M21, ev20, h⟩ := fm_bdp h
        refine fm_callV (pc := 88) mX3_finish [_] _ rfl cvX3_finish ml_6_190 (shTd10 g19) rfl rfl (Nat.le_of_ble_eq_true rfl) (Nat.le_of_ble_eq_true rfl) dX6_readLaw_88 ?_
        refine sp_X3_finish ev20 ?_
        refine fm_ret0 ?_
        refine fm_vret (pc := 91) rfl ?_ dX6_readLaw_91
        cases h
        exact hq
      · replace h := fm_itn c49 h
        refine fl_aload0 (pc := 52) dX6_readLaw_52 ?_
        refine fm_iconstv (pc := 53) 3 (by decide) dX6_readLaw_53 ?_
        obtain ⟨v22, M23, ev22, h⟩ := fm_bdp h
        refine fm_callV (pc := 54) mX6_refuse [_] _ rfl cvX6_refuse ml_6_113 sh_1 rfl rfl (Nat.le_of_ble_eq_true rfl) (Nat.le_of_ble_eq_true rfl) dX6_readLaw_54 ?_
        refine sp_X6_refuse ev22 ?_
        refine fm_ret0 ?_
        refine fm_goto (pc := 57) 91 (by decide) dX6_readLaw_57 ?_
        refine fm_vret (pc := 91) rfl ?_ dX6_readLaw_91
        cases h
        exact hq
    · replace h := fm_itn c27 h
      refine fl_aload0 (pc := 30) dX6_readLaw_30 ?_
      refine fm_iconstv (pc := 31) 1 (by decide) dX6_readLaw_31 ?_
      obtain ⟨v24, M25, ev24, h⟩ := fm_bdp h
      refine fm_callV (pc := 32) mX6_refuse [_] _ rfl cvX6_refuse ml_6_113 sh_1 rfl rfl (Nat.le_of_ble_eq_true rfl) (Nat.le_of_ble_eq_true rfl) dX6_readLaw_32 ?_
      refine sp_X6_refuse ev24 ?_
      refine fm_ret0 ?_
      refine fm_goto (pc := 35) 91 (by decide) dX6_readLaw_35 ?_
      refine fm_vret (pc := 91) rfl ?_ dX6_readLaw_91
      cases h
      exact hq
/-! X6_readLine -/
def F_X6_readLine  (M : fm_M) : Option (Unit × fm_M) :=
    fm_lt ((M.1 1 8)) (fun x1 =>
    if x1 = 17 then (
      fm_bd (F_X6_readFork M) (fun v2 M3 =>
      fm_bd (F_X6_pass 4 M3) (fun v4 M5 =>
      some ((), M5)))
    ) else (
    if x1 = 18 then (
      fm_bd (F_X6_readCrack M) (fun v6 M7 =>
      fm_bd (F_X6_pass 4 M7) (fun v8 M9 =>
      some ((), M9)))
    ) else (
    if x1 = 19 then (
      fm_bd (F_X6_readMotion M) (fun v10 M11 =>
      fm_bd (F_X6_pass 4 M11) (fun v12 M13 =>
      some ((), M13)))
    ) else (
    if x1 = 20 then (
      fm_bd (F_X6_passOnce M) (fun v14 M15 =>
      fm_lt (Int32.toNatClampNeg (M15.1 1 5)) (fun t16 =>
      fm_gd (fm_isTd t16) (
      fm_bd (F_X6_number 1 99 M15) (fun v18 M19 =>
      fm_lt (fm_up M19 t16 13 v18) (fun M20 =>
      fm_bd (F_X6_pass 4 M20) (fun v21 M22 =>
      some ((), M22)))))))
    ) else (
    if x1 = 21 then (
      fm_bd (F_X6_readWet M) (fun v23 M24 =>
      fm_bd (F_X6_pass 4 M24) (fun v25 M26 =>
      some ((), M26)))
    ) else (
    if x1 = 22 then (
      fm_bd (F_X6_passOnce M) (fun v27 M28 =>
      fm_lt (Int32.toNatClampNeg (M28.1 1 5)) (fun t29 =>
      fm_gd (fm_isTd t29) (
      fm_bd (F_X6_number 0 999 M28) (fun v31 M32 =>
      fm_lt (fm_up M32 t29 14 v31) (fun M33 =>
      fm_lt (Int32.toNatClampNeg (M33.1 1 5)) (fun t34 =>
      fm_gd (fm_isTd t34) (
      fm_bd (F_X6_number 0 99 M33) (fun v36 M37 =>
      fm_lt (fm_up M37 t34 15 v36) (fun M38 =>
      fm_bd (F_X6_pass 4 M38) (fun v39 M40 =>
      some ((), M40)))))))))))
    ) else (
    if x1 = 23 then (
      fm_bd (F_X6_passOnce M) (fun v41 M42 =>
      fm_lt (Int32.toNatClampNeg (M42.1 1 5)) (fun t43 =>
      fm_gd (fm_isTd t43) (
      fm_bd (F_X6_number 0 9 M42) (fun v45 M46 =>
      fm_lt (fm_up M46 t43 16 v45) (fun M47 =>
      fm_bd (F_X6_pass 4 M47) (fun v48 M49 =>
      some ((), M49)))))))
    ) else (
    if x1 = 24 then (
      fm_bd (F_X6_passOnce M) (fun v50 M51 =>
      fm_bd (F_X6_number 0 99999 M51) (fun v52 M53 =>
      fm_bd (F_X6_pass 4 M53) (fun v54 M55 =>
      some ((), M55))))
    ) else (
    if x1 = 25 then (
      fm_bd (F_X6_readLaw M) (fun v56 M57 =>
      fm_bd (F_X6_pass 4 M57) (fun v58 M59 =>
      some ((), M59)))
    ) else (
    fm_bd (F_X6_refuse 1 M) (fun v60 M61 =>
    fm_bd (F_X6_pass 4 M61) (fun v62 M63 =>
    some ((), M63)))))))))))))
theorem sp_X6_readLine {d : Nat}  {M : fm_M} {x : Unit × fm_M} {Q : Option Value → fm_M → Prop} (h : F_X6_readLine  M = some x) (hq : Q none x.2) : fm_ct (d + 89) mX6_readLine [.ref 1] M Q := by
  rw [F_X6_readLine] at h
  show fm_mw (d + 89) mX6_readLine Q 0 [some (.ref 1)] [] M
  refine fl_aload0 (pc := 0) dX6_readLine_0 ?_
  refine fm_geti (pc := 1) lk_6_73 sh_1 rfl dX6_readLine_1 ?_
  obtain ⟨x1, ex1, h⟩ := fm_ltp h
  refine fm_cgi ex1 ?_
  by_cases s4_0 : x1 = 17
  · replace h := fm_itp s4_0 h
    refine fm_tswIn (pc := 4) 56 17 (52) (by rw [s4_0]; rfl) (by decide) (by decide) (by decide) (by decide) dX6_readLine_4 ?_
    refine fl_aload0 (pc := 56) dX6_readLine_56 ?_
    obtain ⟨v2, M3, ev2, h⟩ := fm_bdp h
    refine fm_callV (pc := 57) mX6_readFork [] _ rfl cvX6_readFork ml_6_79 sh_1 rfl rfl (Nat.le_of_ble_eq_true rfl) (Nat.le_of_ble_eq_true rfl) dX6_readLine_57 ?_
    refine sp_X6_readFork ev2 ?_
    refine fm_ret0 ?_
    refine fm_goto (pc := 60) 189 (by decide) dX6_readLine_60 ?_
    refine fl_aload0 (pc := 189) dX6_readLine_189 ?_
    refine fm_iconstv (pc := 190) 4 (by decide) dX6_readLine_190 ?_
    obtain ⟨v4, M5, ev4, h⟩ := fm_bdp h
    refine fm_callV (pc := 191) mX6_pass [_] _ rfl cvX6_pass ml_6_117 sh_1 rfl rfl (Nat.le_of_ble_eq_true rfl) (Nat.le_of_ble_eq_true rfl) dX6_readLine_191 ?_
    refine sp_X6_pass ev4 ?_
    refine fm_ret0 ?_
    refine fm_vret (pc := 194) rfl ?_ dX6_readLine_194
    cases h
    exact hq
  · replace h := fm_itn s4_0 h
    by_cases s4_1 : x1 = 18
    · replace h := fm_itp s4_1 h
      refine fm_tswIn (pc := 4) 63 18 (59) (by rw [s4_1]; rfl) (by decide) (by decide) (by decide) (by decide) dX6_readLine_4 ?_
      refine fl_aload0 (pc := 63) dX6_readLine_63 ?_
      obtain ⟨v6, M7, ev6, h⟩ := fm_bdp h
      refine fm_callV (pc := 64) mX6_readCrack [] _ rfl cvX6_readCrack ml_6_82 sh_1 rfl rfl (Nat.le_of_ble_eq_true rfl) (Nat.le_of_ble_eq_true rfl) dX6_readLine_64 ?_
      refine sp_X6_readCrack ev6 ?_
      refine fm_ret0 ?_
      refine fm_goto (pc := 67) 189 (by decide) dX6_readLine_67 ?_
      refine fl_aload0 (pc := 189) dX6_readLine_189 ?_
      refine fm_iconstv (pc := 190) 4 (by decide) dX6_readLine_190 ?_
      obtain ⟨v8, M9, ev8, h⟩ := fm_bdp h
      refine fm_callV (pc := 191) mX6_pass [_] _ rfl cvX6_pass ml_6_117 sh_1 rfl rfl (Nat.le_of_ble_eq_true rfl) (Nat.le_of_ble_eq_true rfl) dX6_readLine_191 ?_
      refine sp_X6_pass ev8 ?_
      refine fm_ret0 ?_
      refine fm_vret (pc := 194) rfl ?_ dX6_readLine_194
      cases h
      exact hq
    · replace h := fm_itn s4_1 h
      by_cases s4_2 : x1 = 19
      · replace h := fm_itp s4_2 h
        refine fm_tswIn (pc := 4) 70 19 (66) (by rw [s4_2]; rfl) (by decide) (by decide) (by decide) (by decide) dX6_readLine_4 ?_
        refine fl_aload0 (pc := 70) dX6_readLine_70 ?_
        obtain ⟨v10, M11, ev10, h⟩ := fm_bdp h
        refine fm_callV (pc := 71) mX6_readMotion [] _ rfl cvX6_readMotion ml_6_85 sh_1 rfl rfl (Nat.le_of_ble_eq_true rfl) (Nat.le_of_ble_eq_true rfl) dX6_readLine_71 ?_
        refine sp_X6_readMotion ev10 ?_
        refine fm_ret0 ?_
        refine fm_goto (pc := 74) 189 (by decide) dX6_readLine_74 ?_
        refine fl_aload0 (pc := 189) dX6_readLine_189 ?_
        refine fm_iconstv (pc := 190) 4 (by decide) dX6_readLine_190 ?_
        obtain ⟨v12, M13, ev12, h⟩ := fm_bdp h
        refine fm_callV (pc := 191) mX6_pass [_] _ rfl cvX6_pass ml_6_117 sh_1 rfl rfl (Nat.le_of_ble_eq_true rfl) (Nat.le_of_ble_eq_true rfl) dX6_readLine_191 ?_
        refine sp_X6_pass ev12 ?_
        refine fm_ret0 ?_
        refine fm_vret (pc := 194) rfl ?_ dX6_readLine_194
        cases h
        exact hq
      · replace h := fm_itn s4_2 h
        by_cases s4_3 : x1 = 20
        · replace h := fm_itp s4_3 h
          refine fm_tswIn (pc := 4) 77 20 (73) (by rw [s4_3]; rfl) (by decide) (by decide) (by decide) (by decide) dX6_readLine_4 ?_
          refine fl_aload0 (pc := 77) dX6_readLine_77 ?_
          obtain ⟨v14, M15, ev14, h⟩ := fm_bdp h
          refine fm_callV (pc := 78) mX6_passOnce [] _ rfl cvX6_passOnce ml_6_88 sh_1 rfl rfl (Nat.le_of_ble_eq_true rfl) (Nat.le_of_ble_eq_true rfl) dX6_readLine_78 ?_
          refine sp_X6_passOnce ev14 ?_
          refine fm_ret0 ?_
          refine fl_aload0 (pc := 81) dX6_readLine_81 ?_
          obtain ⟨t16, et16, h⟩ := fm_ltp h
          obtain ⟨g17, h⟩ := fm_gdp h
          refine fm_getm (pc := 82) (fm_nn et16 g17) lk_6_26 sh_1 rfl dX6_readLine_82 ?_
          refine fm_cgr et16 ?_
          refine fl_aload0 (pc := 85) dX6_readLine_85 ?_
          refine fm_iconstv (pc := 86) 1 (by decide) dX6_readLine_86 ?_
          refine fm_bipushv (pc := 87) 99 (by decide) dX6_readLine_87 ?_
          obtain ⟨v18, M19, ev18, h⟩ := fm_bdp h
          refine fm_callV (pc := 89) mX6_number [_, _] _ rfl cvX6_number ml_6_91 sh_1 rfl rfl (Nat.le_of_ble_eq_true rfl) (Nat.le_of_ble_eq_true rfl) dX6_readLine_89 ?_
          refine sp_X6_number ev18 ?_
          refine fm_ret1 ?_
          refine fm_puti (pc := 92) lp_6_94 (shTd0 g17) rfl dX6_readLine_92 ?_
          obtain ⟨M20, eM20, h⟩ := fm_ltp h
          refine fm_cgm eM20 ?_
          refine fm_goto (pc := 95) 189 (by decide) dX6_readLine_95 ?_
          refine fl_aload0 (pc := 189) dX6_readLine_189 ?_
          refine fm_iconstv (pc := 190) 4 (by decide) dX6_readLine_190 ?_
          obtain ⟨v21, M22, ev21, h⟩ := fm_bdp h
          refine fm_callV (pc := 191) mX6_pass [_] _ rfl cvX6_pass ml_6_117 sh_1 rfl rfl (Nat.le_of_ble_eq_true rfl) (Nat.le_of_ble_eq_true rfl) dX6_readLine_191 ?_
          refine sp_X6_pass ev21 ?_
          refine fm_ret0 ?_
          refine fm_vret (pc := 194) rfl ?_ dX6_readLine_194
          cases h
          exact hq
        · replace h := fm_itn s4_3 h
          by_cases s4_4 : x1 = 21
          · replace h := fm_itp s4_4 h
            refine fm_tswIn (pc := 4) 98 21 (94) (by rw [s4_4]; rfl) (by decide) (by decide) (by decide) (by decide) dX6_readLine_4 ?_
            refine fl_aload0 (pc := 98) dX6_readLine_98 ?_
            obtain ⟨v23, M24, ev23, h⟩ := fm_bdp h
            refine fm_callV (pc := 99) mX6_readWet [] _ rfl cvX6_readWet ml_6_97 sh_1 rfl rfl (Nat.le_of_ble_eq_true rfl) (Nat.le_of_ble_eq_true rfl) dX6_readLine_99 ?_
            refine sp_X6_readWet ev23 ?_
            refine fm_ret0 ?_
            refine fm_goto (pc := 102) 189 (by decide) dX6_readLine_102 ?_
            refine fl_aload0 (pc := 189) dX6_readLine_189 ?_
            refine fm_iconstv (pc := 190) 4 (by decide) dX6_readLine_190 ?_
            obtain ⟨v25, M26, ev25, h⟩ := fm_bdp h
            refine fm_callV (pc := 191) mX6_pass [_] _ rfl cvX6_pass ml_6_117 sh_1 rfl rfl (Nat.le_of_ble_eq_true rfl) (Nat.le_of_ble_eq_true rfl) dX6_readLine_191 ?_
            refine sp_X6_pass ev25 ?_
            refine fm_ret0 ?_
            refine fm_vret (pc := 194) rfl ?_ dX6_readLine_194
            cases h
            exact hq
          · replace h := fm_itn s4_4 h
            by_cases s4_5 : x1 = 22
            · replace h := fm_itp s4_5 h
              refine fm_tswIn (pc := 4) 105 22 (101) (by rw [s4_5]; rfl) (by decide) (by decide) (by decide) (by decide) dX6_readLine_4 ?_
              refine fl_aload0 (pc := 105) dX6_readLine_105 ?_
              obtain ⟨v27, M28, ev27, h⟩ := fm_bdp h
              refine fm_callV (pc := 106) mX6_passOnce [] _ rfl cvX6_passOnce ml_6_88 sh_1 rfl rfl (Nat.le_of_ble_eq_true rfl) (Nat.le_of_ble_eq_true rfl) dX6_readLine_106 ?_
              refine sp_X6_passOnce ev27 ?_
              refine fm_ret0 ?_
              refine fl_aload0 (pc := 109) dX6_readLine_109 ?_
              obtain ⟨t29, et29, h⟩ := fm_ltp h
              obtain ⟨g30, h⟩ := fm_gdp h
              refine fm_getm (pc := 110) (fm_nn et29 g30) lk_6_26 sh_1 rfl dX6_readLine_110 ?_
              refine fm_cgr et29 ?_
              refine fl_aload0 (pc := 113) dX6_readLine_113 ?_
              refine fm_iconstv (pc := 114) 0 (by decide) dX6_readLine_114 ?_
              refine fm_sipushv (pc := 115) 999 (by decide) dX6_readLine_115 ?_
              obtain ⟨v31, M32, ev31, h⟩ := fm_bdp h
              refine fm_callV (pc := 118) mX6_number [_, _] _ rfl cvX6_number ml_6_91 sh_1 rfl rfl (Nat.le_of_ble_eq_true rfl) (Nat.le_of_ble_eq_true rfl) dX6_readLine_118 ?_
              refine sp_X6_number ev31 ?_
              refine fm_ret1 ?_
              refine fm_puti (pc := 121) lp_6_100 (shTd0 g30) rfl dX6_readLine_121 ?_
              obtain ⟨M33, eM33, h⟩ := fm_ltp h
              refine fm_cgm eM33 ?_
              refine fl_aload0 (pc := 124) dX6_readLine_124 ?_
              obtain ⟨t34, et34, h⟩ := fm_ltp h
              obtain ⟨g35, h⟩ := fm_gdp h
              refine fm_getm (pc := 125) (fm_nn et34 g35) lk_6_26 sh_1 rfl dX6_readLine_125 ?_
              refine fm_cgr et34 ?_
              refine fl_aload0 (pc := 128) dX6_readLine_128 ?_
              refine fm_iconstv (pc := 129) 0 (by decide) dX6_readLine_129 ?_
              refine fm_bipushv (pc := 130) 99 (by decide) dX6_readLine_130 ?_
              obtain ⟨v36, M37, ev36, h⟩ := fm_bdp h
              refine fm_callV (pc := 132) mX6_number [_, _] _ rfl cvX6_number ml_6_91 sh_1 rfl rfl (Nat.le_of_ble_eq_true rfl) (Nat.le_of_ble_eq_true rfl) dX6_readLine_132 ?_
              refine sp_X6_number ev36 ?_
              refine fm_ret1 ?_
              refine fm_puti (pc := 135) lp_6_103 (shTd0 g35) rfl dX6_readLine_135 ?_
              obtain ⟨M38, eM38, h⟩ := fm_ltp h
              refine fm_cgm eM38 ?_
              refine fm_goto (pc := 138) 189 (by decide) dX6_readLine_138 ?_
              refine fl_aload0 (pc := 189) dX6_readLine_189 ?_
              refine fm_iconstv (pc := 190) 4 (by decide) dX6_readLine_190 ?_
              obtain ⟨v39, M40, ev39, h⟩ := fm_bdp h
              refine fm_callV (pc := 191) mX6_pass [_] _ rfl cvX6_pass ml_6_117 sh_1 rfl rfl (Nat.le_of_ble_eq_true rfl) (Nat.le_of_ble_eq_true rfl) dX6_readLine_191 ?_
              refine sp_X6_pass ev39 ?_
              refine fm_ret0 ?_
              refine fm_vret (pc := 194) rfl ?_ dX6_readLine_194
              cases h
              exact hq
            · replace h := fm_itn s4_5 h
              by_cases s4_6 : x1 = 23
              · replace h := fm_itp s4_6 h
                refine fm_tswIn (pc := 4) 141 23 (137) (by rw [s4_6]; rfl) (by decide) (by decide) (by decide) (by decide) dX6_readLine_4 ?_
                refine fl_aload0 (pc := 141) dX6_readLine_141 ?_
                obtain ⟨v41, M42, ev41, h⟩ := fm_bdp h
                refine fm_callV (pc := 142) mX6_passOnce [] _ rfl cvX6_passOnce ml_6_88 sh_1 rfl rfl (Nat.le_of_ble_eq_true rfl) (Nat.le_of_ble_eq_true rfl) dX6_readLine_142 ?_
                refine sp_X6_passOnce ev41 ?_
                refine fm_ret0 ?_
                refine fl_aload0 (pc := 145) dX6_readLine_145 ?_
                obtain ⟨t43, et43, h⟩ := fm_ltp h
                obtain ⟨g44, h⟩ := fm_gdp h
                refine fm_getm (pc := 146) (fm_nn et43 g44) lk_6_26 sh_1 rfl dX6_readLine_146 ?_
                refine fm_cgr et43 ?_
                refine fl_aload0 (pc := 149) dX6_readLine_149 ?_
                refine fm_iconstv (pc := 150) 0 (by decide) dX6_readLine_150 ?_
                refine fm_bipushv (pc := 151) 9 (by decide) dX6_readLine_151 ?_
                obtain ⟨v45, M46, ev45, h⟩ := fm_bdp h
                refine fm_callV (pc := 153) mX6_number [_, _] _ rfl cvX6_number ml_6_91 sh_1 rfl rfl (Nat.le_of_ble_eq_true rfl) (Nat.le_of_ble_eq_true rfl) dX6_readLine_153 ?_
                refine sp_X6_number ev45 ?_
                refine fm_ret1 ?_
                refine fm_puti (pc := 156) lp_6_106 (shTd0 g44) rfl dX6_readLine_156 ?_
                obtain ⟨M47, eM47, h⟩ := fm_ltp h
                refine fm_cgm eM47 ?_
                refine fm_goto (pc := 159) 189 (by decide) dX6_readLine_159 ?_
                refine fl_aload0 (pc := 189) dX6_readLine_189 ?_
                refine fm_iconstv (pc := 190) 4 (by decide) dX6_readLine_190 ?_
                obtain ⟨v48, M49, ev48, h⟩ := fm_bdp h
                refine fm_callV (pc := 191) mX6_pass [_] _ rfl cvX6_pass ml_6_117 sh_1 rfl rfl (Nat.le_of_ble_eq_true rfl) (Nat.le_of_ble_eq_true rfl) dX6_readLine_191 ?_
                refine sp_X6_pass ev48 ?_
                refine fm_ret0 ?_
                refine fm_vret (pc := 194) rfl ?_ dX6_readLine_194
                cases h
                exact hq
              · replace h := fm_itn s4_6 h
                by_cases s4_7 : x1 = 24
                · replace h := fm_itp s4_7 h
                  refine fm_tswIn (pc := 4) 162 24 (158) (by rw [s4_7]; rfl) (by decide) (by decide) (by decide) (by decide) dX6_readLine_4 ?_
                  refine fl_aload0 (pc := 162) dX6_readLine_162 ?_
                  obtain ⟨v50, M51, ev50, h⟩ := fm_bdp h
                  refine fm_callV (pc := 163) mX6_passOnce [] _ rfl cvX6_passOnce ml_6_88 sh_1 rfl rfl (Nat.le_of_ble_eq_true rfl) (Nat.le_of_ble_eq_true rfl) dX6_readLine_163 ?_
                  refine sp_X6_passOnce ev50 ?_
                  refine fm_ret0 ?_
                  refine fl_aload0 (pc := 166) dX6_readLine_166 ?_
                  refine fm_iconstv (pc := 167) 0 (by decide) dX6_readLine_167 ?_
                  refine fm_ldc (pc := 168) kc_6_109 dX6_readLine_168 ?_
                  obtain ⟨v52, M53, ev52, h⟩ := fm_bdp h
                  refine fm_callV (pc := 170) mX6_number [_, _] _ rfl cvX6_number ml_6_91 sh_1 rfl rfl (Nat.le_of_ble_eq_true rfl) (Nat.le_of_ble_eq_true rfl) dX6_readLine_170 ?_
                  refine sp_X6_number ev52 ?_
                  refine fm_ret1 ?_
                  refine fm_pop (pc := 173) rfl dX6_readLine_173 ?_
                  refine fm_goto (pc := 174) 189 (by decide) dX6_readLine_174 ?_
                  refine fl_aload0 (pc := 189) dX6_readLine_189 ?_
                  refine fm_iconstv (pc := 190) 4 (by decide) dX6_readLine_190 ?_
                  obtain ⟨v54, M55, ev54, h⟩ := fm_bdp h
                  refine fm_callV (pc := 191) mX6_pass [_] _ rfl cvX6_pass ml_6_117 sh_1 rfl rfl (Nat.le_of_ble_eq_true rfl) (Nat.le_of_ble_eq_true rfl) dX6_readLine_191 ?_
                  refine sp_X6_pass ev54 ?_
                  refine fm_ret0 ?_
                  refine fm_vret (pc := 194) rfl ?_ dX6_readLine_194
                  cases h
                  exact hq
                · replace h := fm_itn s4_7 h
                  by_cases s4_8 : x1 = 25
                  · replace h := fm_itp s4_8 h
                    refine fm_tswIn (pc := 4) 177 25 (173) (by rw [s4_8]; rfl) (by decide) (by decide) (by decide) (by decide) dX6_readLine_4 ?_
                    refine fl_aload0 (pc := 177) dX6_readLine_177 ?_
                    obtain ⟨v56, M57, ev56, h⟩ := fm_bdp h
                    refine fm_callV (pc := 178) mX6_readLaw [] _ rfl cvX6_readLaw ml_6_110 sh_1 rfl rfl (Nat.le_of_ble_eq_true rfl) (Nat.le_of_ble_eq_true rfl) dX6_readLine_178 ?_
                    refine sp_X6_readLaw ev56 ?_
                    refine fm_ret0 ?_
                    refine fm_goto (pc := 181) 189 (by decide) dX6_readLine_181 ?_
                    refine fl_aload0 (pc := 189) dX6_readLine_189 ?_
                    refine fm_iconstv (pc := 190) 4 (by decide) dX6_readLine_190 ?_
                    obtain ⟨v58, M59, ev58, h⟩ := fm_bdp h
                    refine fm_callV (pc := 191) mX6_pass [_] _ rfl cvX6_pass ml_6_117 sh_1 rfl rfl (Nat.le_of_ble_eq_true rfl) (Nat.le_of_ble_eq_true rfl) dX6_readLine_191 ?_
                    refine sp_X6_pass ev58 ?_
                    refine fm_ret0 ?_
                    refine fm_vret (pc := 194) rfl ?_ dX6_readLine_194
                    cases h
                    exact hq
                  · replace h := fm_itn s4_8 h
                    have q0 : ¬ Int32.toInt x1 = 17 := fun q => s4_0 (Int32.toInt_inj.mp (by rw [q]; rfl))
                    have q1 : ¬ Int32.toInt x1 = 18 := fun q => s4_1 (Int32.toInt_inj.mp (by rw [q]; rfl))
                    have q2 : ¬ Int32.toInt x1 = 19 := fun q => s4_2 (Int32.toInt_inj.mp (by rw [q]; rfl))
                    have q3 : ¬ Int32.toInt x1 = 20 := fun q => s4_3 (Int32.toInt_inj.mp (by rw [q]; rfl))
                    have q4 : ¬ Int32.toInt x1 = 21 := fun q => s4_4 (Int32.toInt_inj.mp (by rw [q]; rfl))
                    have q5 : ¬ Int32.toInt x1 = 22 := fun q => s4_5 (Int32.toInt_inj.mp (by rw [q]; rfl))
                    have q6 : ¬ Int32.toInt x1 = 23 := fun q => s4_6 (Int32.toInt_inj.mp (by rw [q]; rfl))
                    have q7 : ¬ Int32.toInt x1 = 24 := fun q => s4_7 (Int32.toInt_inj.mp (by rw [q]; rfl))
                    have q8 : ¬ Int32.toInt x1 = 25 := fun q => s4_8 (Int32.toInt_inj.mp (by rw [q]; rfl))
                    refine fm_tswOut (pc := 4) 184 (by omega) (by decide) dX6_readLine_4 ?_
                    refine fl_aload0 (pc := 184) dX6_readLine_184 ?_
                    refine fm_iconstv (pc := 185) 1 (by decide) dX6_readLine_185 ?_
                    obtain ⟨v60, M61, ev60, h⟩ := fm_bdp h
                    refine fm_callV (pc := 186) mX6_refuse [_] _ rfl cvX6_refuse ml_6_113 sh_1 rfl rfl (Nat.le_of_ble_eq_true rfl) (Nat.le_of_ble_eq_true rfl) dX6_readLine_186 ?_
                    refine sp_X6_refuse ev60 ?_
                    refine fm_ret0 ?_
                    refine fl_aload0 (pc := 189) dX6_readLine_189 ?_
                    refine fm_iconstv (pc := 190) 4 (by decide) dX6_readLine_190 ?_
                    obtain ⟨v62, M63, ev62, h⟩ := fm_bdp h
                    refine fm_callV (pc := 191) mX6_pass [_] _ rfl cvX6_pass ml_6_117 sh_1 rfl rfl (Nat.le_of_ble_eq_true rfl) (Nat.le_of_ble_eq_true rfl) dX6_readLine_191 ?_
                    refine sp_X6_pass ev62 ?_
                    refine fm_ret0 ?_
                    refine fm_vret (pc := 194) rfl ?_ dX6_readLine_194
                    cases h
                    exact hq
/-! X9_text -/
def G_X9_text_28 : Nat → Int32 → Int32 → fm_M → Option ((Int32) × fm_M)
  | 0, _, _, _ => none
  | n + 1, l1, l2, M =>
    if 700 ≤ l2 then (
      some (l2, M)
    ) else (
      fm_bd (F_X6_hasMore M) (fun v3 M4 =>
      if v3 = 0 then (
        some (l2, M4)
      ) else (
        fm_bd (F_X6_readLine M4) (fun v5 M6 =>
        G_X9_text_28 n l1 (l2 + 1) M6)
      ))
    )
def F_X9_text (a1 : Int32) (M : fm_M) : Option (Int32 × fm_M) :=
    if a1 < 0 then (
      some ((-2), M)
    ) else (
      if a1 ≤ (M.1 1 2) then (
        fm_bd (F_X6_begin a1 M) (fun v1 M2 =>
        fm_bd (G_X9_text_28 fm_fuel a1 0 M2) (fun w7 M8 =>
          if (M8.1 1 3) = 0 then (
            fm_lt (Int32.toNatClampNeg (M8.1 0 1)) (fun t9 =>
            fm_gd (fm_isTd t9) (
            fm_bd (F_X6_exchange t9 M8) (fun v11 M12 =>
            fm_gd (fm_isTd v11) (
            fm_lt (fm_up M12 0 1 (nI v11)) (fun M14 =>
            fm_lt (Int32.toNatClampNeg (M14.1 0 1)) (fun t15 =>
            fm_gd (fm_isTd t15) (
            fm_bd (F_X7_begin 38 t15 M14) (fun v17 M18 =>
            fm_lt (fm_up M18 59 3 0) (fun M19 =>
            fm_bd (F_X4_forget M19) (fun v20 M21 =>
            fm_lt (fm_up M21 0 5 0) (fun M22 =>
            some (w7, M22))))))))))))
          ) else (
            some ((-1), M8)
          )))
      ) else (
        some ((-2), M)
      )
    )
theorem lp_X9_text_28 {d : Nat} {Q : Option Value → fm_M → Prop} {l1 : Int32}   {x : (Int32) × fm_M} (k1 : ∀ (v : Int32) (M2 : fm_M), x = (v, M2) → fm_mw (d + 90) mX9_text Q 58 [some (.ref 0), some (.int l1), some (.int v)] [] M2) : ∀ (n : Nat) (l2 : Int32) (M : fm_M), G_X9_text_28 n l1 l2 M = some x → fm_mw (d + 90) mX9_text Q 28 [some (.ref 0), some (.int l1), some (.int l2)] [] M := by
  intro n
  induction n with
  | zero => intro l2 M h; simp [G_X9_text_28] at h
  | succ n ih =>
    intro l2 M h
    rw [G_X9_text_28] at h
    refine fl_iload2 (pc := 28) dX9_text_28 ?_
    refine fm_sipushv (pc := 29) 700 (by decide) dX9_text_29 ?_
    refine fm_icmp_ge (pc := 32) 58 (by decide) dX9_text_32 (fun c32 => ?_) (fun c32 => ?_)
    · replace h := fm_itp c32 h
      refine fm_fgt [some (.ref 0), some (.int l1), some (.int l2)] (by simp [fm_sub]) ?_
      cases h
      exact k1 _ _ rfl
    · replace h := fm_itn c32 h
      refine fl_aload0 (pc := 35) dX9_text_35 ?_
      refine fm_getr (pc := 36) lk_9_12 sh_0 rfl dX9_text_36 ?_
      obtain ⟨v3, M4, ev3, h⟩ := fm_bdp h
      refine fm_callV (pc := 39) mX6_hasMore [] _ rfl cvX6_hasMore ml_9_84 sh_1 rfl rfl (Nat.le_of_ble_eq_true rfl) (Nat.le_of_ble_eq_true rfl) dX9_text_39 ?_
      refine sp_X6_hasMore ev3 ?_
      refine fm_ret1 ?_
      refine fm_if_eq (pc := 42) 58 (by decide) dX9_text_42 (fun c42 => ?_) (fun c42 => ?_)
      · replace h := fm_itp c42 h
        refine fm_fgt [some (.ref 0), some (.int l1), some (.int l2)] (by simp [fm_sub]) ?_
        cases h
        exact k1 _ _ rfl
      · replace h := fm_itn c42 h
        refine fl_aload0 (pc := 45) dX9_text_45 ?_
        refine fm_getr (pc := 46) lk_9_12 sh_0 rfl dX9_text_46 ?_
        obtain ⟨v5, M6, ev5, h⟩ := fm_bdp h
        refine fm_callV (pc := 49) mX6_readLine [] _ rfl cvX6_readLine ml_9_88 sh_1 rfl rfl (Nat.le_of_ble_eq_true rfl) (Nat.le_of_ble_eq_true rfl) dX9_text_49 ?_
        refine sp_X6_readLine ev5 ?_
        refine fm_ret0 ?_
        refine fl_iinc2 (pc := 52) rfl 1 (by decide) (by decide) dX9_text_52 ?_
        refine fm_goto (pc := 55) 28 (by decide) dX9_text_55 ?_
        refine fm_fgt [some (.ref 0), some (.int l1), some (.int (l2 + 1))] (by simp [fm_sub]) ?_
        exact ih _ _ h
theorem sp_X9_text {d : Nat} {a1 : Int32} {M : fm_M} {x : Int32 × fm_M} {Q : Option Value → fm_M → Prop} (h : F_X9_text a1 M = some x) (hq : Q (some (.int x.1)) x.2) : fm_ct (d + 90) mX9_text [.ref 0, .int a1] M Q := by
  rw [F_X9_text] at h
  show fm_mw (d + 90) mX9_text Q 0 [some (.ref 0), some (.int a1), none] [] M
  refine fl_iload1 (pc := 0) dX9_text_0 ?_
  refine fm_if_lt (pc := 1) 15 (by decide) dX9_text_1 (fun c1 => ?_) (fun c1 => ?_)
  · replace h := fm_itp c1 h
    refine fm_bipushv (pc := 15) (-2) (by decide) dX9_text_15 ?_
    refine fm_iret (pc := 17) rfl ?_ dX9_text_17
    cases h
    exact hq
  · replace h := fm_itn c1 h
    refine fl_iload1 (pc := 4) dX9_text_4 ?_
    refine fl_aload0 (pc := 5) dX9_text_5 ?_
    refine fm_getr (pc := 6) lk_9_12 sh_0 rfl dX9_text_6 ?_
    refine fm_geti (pc := 9) lk_9_73 sh_1 rfl dX9_text_9 ?_
    refine fm_icmp_le (pc := 12) 18 (by decide) dX9_text_12 (fun c12 => ?_) (fun c12 => ?_)
    · replace h := fm_itp c12 h
      refine fl_aload0 (pc := 18) dX9_text_18 ?_
      refine fm_getr (pc := 19) lk_9_12 sh_0 rfl dX9_text_19 ?_
      refine fl_iload1 (pc := 22) dX9_text_22 ?_
      obtain ⟨v1, M2, ev1, h⟩ := fm_bdp h
      refine fm_callV (pc := 23) mX6_begin [_] _ rfl cvX6_begin ml_9_81 sh_1 rfl rfl (Nat.le_of_ble_eq_true rfl) (Nat.le_of_ble_eq_true rfl) dX9_text_23 ?_
      refine sp_X6_begin ev1 ?_
      refine fm_ret0 ?_
      refine fm_iconstv (pc := 26) 0 (by decide) dX9_text_26 ?_
      refine fl_istore2 (pc := 27) rfl (by decide) dX9_text_27 ?_
      obtain ⟨w7, M8, ew7, h⟩ := fm_bdp h
      refine lp_X9_text_28  ?_ _ _ _ ew7
      intro w79 M89 q9
      cases q9
      refine fl_aload0 (pc := 58) dX9_text_58 ?_
      refine fm_getr (pc := 59) lk_9_12 sh_0 rfl dX9_text_59 ?_
      refine fm_geti (pc := 62) lk_9_91 sh_1 rfl dX9_text_62 ?_
      refine fm_if_eq (pc := 65) 70 (by decide) dX9_text_65 (fun c65 => ?_) (fun c65 => ?_)
      · replace h := fm_itp c65 h
        refine fl_aload0 (pc := 70) dX9_text_70 ?_
        refine fl_aload0 (pc := 71) dX9_text_71 ?_
        refine fm_getr (pc := 72) lk_9_12 sh_0 rfl dX9_text_72 ?_
        refine fl_aload0 (pc := 75) dX9_text_75 ?_
        obtain ⟨t9, et9, h⟩ := fm_ltp h
        obtain ⟨g10, h⟩ := fm_gdp h
        refine fm_getm (pc := 76) (fm_nn et9 g10) lk_9_21 sh_0 rfl dX9_text_76 ?_
        refine fm_cgr et9 ?_
        obtain ⟨v11, M12, ev11, h⟩ := fm_bdp h
        refine fm_callV (pc := 79) mX6_exchange [_] _ rfl cvX6_exchange ml_9_94 sh_1 rfl rfl (Nat.le_of_ble_eq_true rfl) (Nat.le_of_ble_eq_true rfl) dX9_text_79 ?_
        refine sp_X6_exchange ev11 ?_
        refine fm_ret1 ?_
        obtain ⟨g13, h⟩ := fm_gdp h
        refine fm_putm (pc := 82) (shTd_lt g13) lp_9_21 sh_0 rfl dX9_text_82 ?_
        obtain ⟨M14, eM14, h⟩ := fm_ltp h
        refine fm_cgm eM14 ?_
        refine fl_aload0 (pc := 85) dX9_text_85 ?_
        refine fm_getr (pc := 86) lk_9_28 sh_0 rfl dX9_text_86 ?_
        refine fl_aload0 (pc := 89) dX9_text_89 ?_
        obtain ⟨t15, et15, h⟩ := fm_ltp h
        obtain ⟨g16, h⟩ := fm_gdp h
        refine fm_getm (pc := 90) (fm_nn et15 g16) lk_9_21 sh_0 rfl dX9_text_90 ?_
        refine fm_cgr et15 ?_
        obtain ⟨v17, M18, ev17, h⟩ := fm_bdp h
        refine fm_callV (pc := 93) mX7_begin [_] _ rfl cvX7_begin ml_9_98 sh_38 rfl rfl (Nat.le_of_ble_eq_true rfl) (Nat.le_of_ble_eq_true rfl) dX9_text_93 ?_
        refine sp_X7_begin ev17 ?_
        refine fm_ret0 ?_
        refine fl_aload0 (pc := 96) dX9_text_96 ?_
        refine fm_getr (pc := 97) lk_9_41 sh_0 rfl dX9_text_97 ?_
        refine fm_iconstv (pc := 100) 0 (by decide) dX9_text_100 ?_
        refine fm_puti (pc := 101) lp_9_101 sh_59 rfl dX9_text_101 ?_
        obtain ⟨M19, eM19, h⟩ := fm_ltp h
        refine fm_cgm eM19 ?_
        refine fl_aload0 (pc := 104) dX9_text_104 ?_
        refine fm_getr (pc := 105) lk_9_48 sh_0 rfl dX9_text_105 ?_
        obtain ⟨v20, M21, ev20, h⟩ := fm_bdp h
        refine fm_callV (pc := 108) mX4_forget [] _ rfl cvX4_forget ml_9_104 sh_63 rfl rfl (Nat.le_of_ble_eq_true rfl) (Nat.le_of_ble_eq_true rfl) dX9_text_108 ?_
        refine sp_X4_forget ev20 ?_
        refine fm_ret0 ?_
        refine fl_aload0 (pc := 111) dX9_text_111 ?_
        refine fm_iconstv (pc := 112) 0 (by decide) dX9_text_112 ?_
        refine fm_putz (pc := 113) (by decide) lp_9_107 sh_0 rfl dX9_text_113 ?_
        obtain ⟨M22, eM22, h⟩ := fm_ltp h
        refine fm_cgm eM22 ?_
        refine fl_iload2 (pc := 116) dX9_text_116 ?_
        refine fm_iret (pc := 117) rfl ?_ dX9_text_117
        cases h
        exact hq
      · replace h := fm_itn c65 h
        refine fm_iconstv (pc := 68) (-1) (by decide) dX9_text_68 ?_
        refine fm_iret (pc := 69) rfl ?_ dX9_text_69
        cases h
        exact hq
    · replace h := fm_itn c12 h
      refine fm_bipushv (pc := 15) (-2) (by decide) dX9_text_15 ?_
      refine fm_iret (pc := 17) rfl ?_ dX9_text_17
      cases h
      exact hq
