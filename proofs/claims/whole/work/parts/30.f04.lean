/-! X9_wet -/
def F_X9_wet (a1 : Int32) (M : fm_M) : Option (Int32 × fm_M) :=
    if a1 < 0 then (
      some ((-1), M)
    ) else (
      if a1 ≤ 9999 then (
        fm_lt (Int32.toNatClampNeg (M.1 0 1)) (fun t1 =>
        fm_gd (fm_isTd t1) (
        fm_bd (F_X8_wetOn t1 a1 M) (fun v3 M4 =>
        some (v3, M4))))
      ) else (
        some ((-1), M)
      )
    )
theorem sp_X9_wet {d : Nat} {a1 : Int32} {M : fm_M} {x : Int32 × fm_M} {Q : Option Value → fm_M → Prop} (h : F_X9_wet a1 M = some x) (hq : Q (some (.int x.1)) x.2) : fm_ct (d + 1) mX9_wet [.ref 0, .int a1] M Q := by
  rw [F_X9_wet] at h
  show fm_mw (d + 1) mX9_wet Q 0 [some (.ref 0), some (.int a1)] [] M
  refine fl_iload1 (pc := 0) dX9_wet_0 ?_
  refine fm_if_lt (pc := 1) 11 (by decide) dX9_wet_1 (fun c1 => ?_) (fun c1 => ?_)
  · replace h := fm_itp c1 h
    refine fm_iconstv (pc := 11) (-1) (by decide) dX9_wet_11 ?_
    refine fm_goto (pc := 12) 23 (by decide) dX9_wet_12 ?_
    refine fm_iret (pc := 23) rfl ?_ dX9_wet_23
    cases h
    exact hq
  · replace h := fm_itn c1 h
    refine fl_iload1 (pc := 4) dX9_wet_4 ?_
    refine fm_sipushv (pc := 5) 9999 (by decide) dX9_wet_5 ?_
    refine fm_icmp_le (pc := 8) 15 (by decide) dX9_wet_8 (fun c8 => ?_) (fun c8 => ?_)
    · replace h := fm_itp c8 h
      refine fl_aload0 (pc := 15) dX9_wet_15 ?_
      obtain ⟨t1, et1, h⟩ := fm_ltp h
      obtain ⟨g2, h⟩ := fm_gdp h
      refine fm_getm (pc := 16) (fm_nn et1 g2) lk_9_21 sh_0 rfl dX9_wet_16 ?_
      refine fm_cgr et1 ?_
      refine fl_iload1 (pc := 19) dX9_wet_19 ?_
      obtain ⟨v3, M4, ev3, h⟩ := fm_bdp h
      refine fm_callV (pc := 20) mX8_wetOn [_] _ rfl cvX8_wetOn ml_9_175 (shTd0 g2) rfl rfl (Nat.le_of_ble_eq_true rfl) (Nat.le_of_ble_eq_true rfl) dX9_wet_20 ?_
      refine sp_X8_wetOn ev3 ?_
      refine fm_ret1 ?_
      refine fm_iret (pc := 23) rfl ?_ dX9_wet_23
      cases h
      exact hq
    · replace h := fm_itn c8 h
      refine fm_iconstv (pc := 11) (-1) (by decide) dX9_wet_11 ?_
      refine fm_goto (pc := 12) 23 (by decide) dX9_wet_12 ?_
      refine fm_iret (pc := 23) rfl ?_ dX9_wet_23
      cases h
      exact hq
/-! X9_beats -/
def F_X9_beats (a1 : Int32) (a2 : Int32) (M : fm_M) : Option (Int32 × fm_M) :=
    fm_bd (F_X9_isFork a1 M) (fun v1 M2 =>
    if v1 = 0 then (
      some ((-1), M2)
    ) else (
      fm_bd (F_X9_isNote a2 M2) (fun v3 M4 =>
      if v3 = 0 then (
        some ((-1), M4)
      ) else (
        fm_bd (F_X7_beating 38 a1 a2 M4) (fun v5 M6 =>
        some (v5, M6))
      ))
    ))
theorem sp_X9_beats {d : Nat} {a1 : Int32} {a2 : Int32} {M : fm_M} {x : Int32 × fm_M} {Q : Option Value → fm_M → Prop} (h : F_X9_beats a1 a2 M = some x) (hq : Q (some (.int x.1)) x.2) : fm_ct (d + 3) mX9_beats [.ref 0, .int a1, .int a2] M Q := by
  rw [F_X9_beats] at h
  show fm_mw (d + 3) mX9_beats Q 0 [some (.ref 0), some (.int a1), some (.int a2)] [] M
  refine fl_aload0 (pc := 0) dX9_beats_0 ?_
  refine fl_iload1 (pc := 1) dX9_beats_1 ?_
  obtain ⟨v1, M2, ev1, h⟩ := fm_bdp h
  refine fm_callV (pc := 2) mX9_isFork [_] _ rfl cvX9_isFork ml_9_150 sh_0 rfl rfl (Nat.le_of_ble_eq_true rfl) (Nat.le_of_ble_eq_true rfl) dX9_beats_2 ?_
  refine sp_X9_isFork ev1 ?_
  refine fm_ret1 ?_
  refine fm_if_eq (pc := 5) 27 (by decide) dX9_beats_5 (fun c5 => ?_) (fun c5 => ?_)
  · replace h := fm_itp c5 h
    refine fm_iconstv (pc := 27) (-1) (by decide) dX9_beats_27 ?_
    refine fm_iret (pc := 28) rfl ?_ dX9_beats_28
    cases h
    exact hq
  · replace h := fm_itn c5 h
    refine fl_iload2 (pc := 8) dX9_beats_8 ?_
    obtain ⟨v3, M4, ev3, h⟩ := fm_bdp h
    refine fm_callS (pc := 9) mX9_isNote [_] _ rfl csX9_isNote ml_9_178 rfl (Nat.le_of_ble_eq_true rfl) (Nat.le_of_ble_eq_true rfl) dX9_beats_9 ?_
    refine sp_X9_isNote ev3 ?_
    refine fm_ret1 ?_
    refine fm_if_eq (pc := 12) 27 (by decide) dX9_beats_12 (fun c12 => ?_) (fun c12 => ?_)
    · replace h := fm_itp c12 h
      refine fm_iconstv (pc := 27) (-1) (by decide) dX9_beats_27 ?_
      refine fm_iret (pc := 28) rfl ?_ dX9_beats_28
      cases h
      exact hq
    · replace h := fm_itn c12 h
      refine fl_aload0 (pc := 15) dX9_beats_15 ?_
      refine fm_getr (pc := 16) lk_9_28 sh_0 rfl dX9_beats_16 ?_
      refine fl_iload1 (pc := 19) dX9_beats_19 ?_
      refine fl_iload2 (pc := 20) dX9_beats_20 ?_
      obtain ⟨v5, M6, ev5, h⟩ := fm_bdp h
      refine fm_callV (pc := 21) mX7_beating [_, _] _ rfl cvX7_beating ml_9_181 sh_38 rfl rfl (Nat.le_of_ble_eq_true rfl) (Nat.le_of_ble_eq_true rfl) dX9_beats_21 ?_
      refine sp_X7_beating ev5 ?_
      refine fm_ret1 ?_
      refine fm_goto (pc := 24) 28 (by decide) dX9_beats_24 ?_
      refine fm_iret (pc := 28) rfl ?_ dX9_beats_28
      cases h
      exact hq
/-! X9_hums -/
def F_X9_hums (a1 : Int32) (a2 : Int32) (M : fm_M) : Option (Int32 × fm_M) :=
    fm_bd (F_X9_isFork a1 M) (fun v1 M2 =>
    if v1 = 0 then (
      some ((-1), M2)
    ) else (
      fm_bd (F_X9_isNote a2 M2) (fun v3 M4 =>
      if v3 = 0 then (
        some ((-1), M4)
      ) else (
        fm_lt (Int32.toNatClampNeg (M4.1 0 1)) (fun t5 =>
        fm_gd (fm_isTd t5) (
        fm_bd (F_X7_humOf 38 t5 a1 a2 M4) (fun v7 M8 =>
        some (v7, M8))))
      ))
    ))
theorem sp_X9_hums {d : Nat} {a1 : Int32} {a2 : Int32} {M : fm_M} {x : Int32 × fm_M} {Q : Option Value → fm_M → Prop} (h : F_X9_hums a1 a2 M = some x) (hq : Q (some (.int x.1)) x.2) : fm_ct (d + 4) mX9_hums [.ref 0, .int a1, .int a2] M Q := by
  rw [F_X9_hums] at h
  show fm_mw (d + 4) mX9_hums Q 0 [some (.ref 0), some (.int a1), some (.int a2)] [] M
  refine fl_aload0 (pc := 0) dX9_hums_0 ?_
  refine fl_iload1 (pc := 1) dX9_hums_1 ?_
  obtain ⟨v1, M2, ev1, h⟩ := fm_bdp h
  refine fm_callV (pc := 2) mX9_isFork [_] _ rfl cvX9_isFork ml_9_150 sh_0 rfl rfl (Nat.le_of_ble_eq_true rfl) (Nat.le_of_ble_eq_true rfl) dX9_hums_2 ?_
  refine sp_X9_isFork ev1 ?_
  refine fm_ret1 ?_
  refine fm_if_eq (pc := 5) 31 (by decide) dX9_hums_5 (fun c5 => ?_) (fun c5 => ?_)
  · replace h := fm_itp c5 h
    refine fm_iconstv (pc := 31) (-1) (by decide) dX9_hums_31 ?_
    refine fm_iret (pc := 32) rfl ?_ dX9_hums_32
    cases h
    exact hq
  · replace h := fm_itn c5 h
    refine fl_iload2 (pc := 8) dX9_hums_8 ?_
    obtain ⟨v3, M4, ev3, h⟩ := fm_bdp h
    refine fm_callS (pc := 9) mX9_isNote [_] _ rfl csX9_isNote ml_9_178 rfl (Nat.le_of_ble_eq_true rfl) (Nat.le_of_ble_eq_true rfl) dX9_hums_9 ?_
    refine sp_X9_isNote ev3 ?_
    refine fm_ret1 ?_
    refine fm_if_eq (pc := 12) 31 (by decide) dX9_hums_12 (fun c12 => ?_) (fun c12 => ?_)
    · replace h := fm_itp c12 h
      refine fm_iconstv (pc := 31) (-1) (by decide) dX9_hums_31 ?_
      refine fm_iret (pc := 32) rfl ?_ dX9_hums_32
      cases h
      exact hq
    · replace h := fm_itn c12 h
      refine fl_aload0 (pc := 15) dX9_hums_15 ?_
      refine fm_getr (pc := 16) lk_9_28 sh_0 rfl dX9_hums_16 ?_
      refine fl_aload0 (pc := 19) dX9_hums_19 ?_
      obtain ⟨t5, et5, h⟩ := fm_ltp h
      obtain ⟨g6, h⟩ := fm_gdp h
      refine fm_getm (pc := 20) (fm_nn et5 g6) lk_9_21 sh_0 rfl dX9_hums_20 ?_
      refine fm_cgr et5 ?_
      refine fl_iload1 (pc := 23) dX9_hums_23 ?_
      refine fl_iload2 (pc := 24) dX9_hums_24 ?_
      obtain ⟨v7, M8, ev7, h⟩ := fm_bdp h
      refine fm_callV (pc := 25) mX7_humOf [_, _, _] _ rfl cvX7_humOf ml_9_184 sh_38 rfl rfl (Nat.le_of_ble_eq_true rfl) (Nat.le_of_ble_eq_true rfl) dX9_hums_25 ?_
      refine sp_X7_humOf ev7 ?_
      refine fm_ret1 ?_
      refine fm_goto (pc := 28) 32 (by decide) dX9_hums_28 ?_
      refine fm_iret (pc := 32) rfl ?_ dX9_hums_32
      cases h
      exact hq
/-! X9_struck -/
def F_X9_struck (a1 : Int32) (a2 : Int32) (M : fm_M) : Option (Int32 × fm_M) :=
    fm_bd (F_X9_isNote a1 M) (fun v1 M2 =>
    if v1 = 0 then (
      some ((-1), M2)
    ) else (
      if a2 = 0 then (
        fm_lt (Int32.toNatClampNeg (M2.1 0 1)) (fun t3 =>
        fm_gd (fm_isTd t3) (
        fm_bd (F_X7_humOfAll 38 t3 a1 M2) (fun v5 M6 =>
        some (v5, M6))))
      ) else (
      if a2 = 1 then (
        fm_lt (Int32.toNatClampNeg (M2.1 0 1)) (fun t7 =>
        fm_gd (fm_isTd t7) (
        fm_bd (F_X7_carries 38 t7 a1 M2) (fun v9 M10 =>
        if v9 = 0 then (
          some (0, M10)
        ) else (
          some (1, M10)
        ))))
      ) else (
      if a2 = 2 then (
        fm_lt (Int32.toNatClampNeg (M2.1 0 1)) (fun t11 =>
        fm_gd (fm_isTd t11) (
        fm_bd (F_X7_agreed 38 t11 a1 M2) (fun v13 M14 =>
        some (v13, M14))))
      ) else (
      some ((-1), M2))))
    ))
theorem sp_X9_struck {d : Nat} {a1 : Int32} {a2 : Int32} {M : fm_M} {x : Int32 × fm_M} {Q : Option Value → fm_M → Prop} (h : F_X9_struck a1 a2 M = some x) (hq : Q (some (.int x.1)) x.2) : fm_ct (d + 6) mX9_struck [.ref 0, .int a1, .int a2] M Q := by
  rw [F_X9_struck] at h
  show fm_mw (d + 6) mX9_struck Q 0 [some (.ref 0), some (.int a1), some (.int a2)] [] M
  refine fl_iload1 (pc := 0) dX9_struck_0 ?_
  obtain ⟨v1, M2, ev1, h⟩ := fm_bdp h
  refine fm_callS (pc := 1) mX9_isNote [_] _ rfl csX9_isNote ml_9_178 rfl (Nat.le_of_ble_eq_true rfl) (Nat.le_of_ble_eq_true rfl) dX9_struck_1 ?_
  refine sp_X9_isNote ev1 ?_
  refine fm_ret1 ?_
  refine fm_if_ne (pc := 4) 9 (by decide) dX9_struck_4 (fun c4 => ?_) (fun c4 => ?_)
  · replace h := fm_itn c4 h
    refine fl_iload2 (pc := 9) dX9_struck_9 ?_
    by_cases s10_0 : a2 = 0
    · replace h := fm_itp s10_0 h
      refine fm_tswIn (pc := 10) 36 0 (26) (by rw [s10_0]; rfl) (by decide) (by decide) (by decide) (by decide) dX9_struck_10 ?_
      refine fl_aload0 (pc := 36) dX9_struck_36 ?_
      refine fm_getr (pc := 37) lk_9_28 sh_0 rfl dX9_struck_37 ?_
      refine fl_aload0 (pc := 40) dX9_struck_40 ?_
      obtain ⟨t3, et3, h⟩ := fm_ltp h
      obtain ⟨g4, h⟩ := fm_gdp h
      refine fm_getm (pc := 41) (fm_nn et3 g4) lk_9_21 sh_0 rfl dX9_struck_41 ?_
      refine fm_cgr et3 ?_
      refine fl_iload1 (pc := 44) dX9_struck_44 ?_
      obtain ⟨v5, M6, ev5, h⟩ := fm_bdp h
      refine fm_callV (pc := 45) mX7_humOfAll [_, _] _ rfl cvX7_humOfAll ml_9_188 sh_38 rfl rfl (Nat.le_of_ble_eq_true rfl) (Nat.le_of_ble_eq_true rfl) dX9_struck_45 ?_
      refine sp_X7_humOfAll ev5 ?_
      refine fm_ret1 ?_
      refine fm_iret (pc := 48) rfl ?_ dX9_struck_48
      cases h
      exact hq
    · replace h := fm_itn s10_0 h
      by_cases s10_1 : a2 = 1
      · replace h := fm_itp s10_1 h
        refine fm_tswIn (pc := 10) 49 1 (39) (by rw [s10_1]; rfl) (by decide) (by decide) (by decide) (by decide) dX9_struck_10 ?_
        refine fl_aload0 (pc := 49) dX9_struck_49 ?_
        refine fm_getr (pc := 50) lk_9_28 sh_0 rfl dX9_struck_50 ?_
        refine fl_aload0 (pc := 53) dX9_struck_53 ?_
        obtain ⟨t7, et7, h⟩ := fm_ltp h
        obtain ⟨g8, h⟩ := fm_gdp h
        refine fm_getm (pc := 54) (fm_nn et7 g8) lk_9_21 sh_0 rfl dX9_struck_54 ?_
        refine fm_cgr et7 ?_
        refine fl_iload1 (pc := 57) dX9_struck_57 ?_
        obtain ⟨v9, M10, ev9, h⟩ := fm_bdp h
        refine fm_callV (pc := 58) mX7_carries [_, _] _ rfl cvX7_carries ml_9_192 sh_38 rfl rfl (Nat.le_of_ble_eq_true rfl) (Nat.le_of_ble_eq_true rfl) dX9_struck_58 ?_
        refine sp_X7_carries ev9 ?_
        refine fm_ret1 ?_
        refine fm_if_eq (pc := 61) 68 (by decide) dX9_struck_61 (fun c61 => ?_) (fun c61 => ?_)
        · replace h := fm_itp c61 h
          refine fm_iconstv (pc := 68) 0 (by decide) dX9_struck_68 ?_
          refine fm_iret (pc := 69) rfl ?_ dX9_struck_69
          cases h
          exact hq
        · replace h := fm_itn c61 h
          refine fm_iconstv (pc := 64) 1 (by decide) dX9_struck_64 ?_
          refine fm_goto (pc := 65) 69 (by decide) dX9_struck_65 ?_
          refine fm_iret (pc := 69) rfl ?_ dX9_struck_69
          cases h
          exact hq
      · replace h := fm_itn s10_1 h
        by_cases s10_2 : a2 = 2
        · replace h := fm_itp s10_2 h
          refine fm_tswIn (pc := 10) 70 2 (60) (by rw [s10_2]; rfl) (by decide) (by decide) (by decide) (by decide) dX9_struck_10 ?_
          refine fl_aload0 (pc := 70) dX9_struck_70 ?_
          refine fm_getr (pc := 71) lk_9_28 sh_0 rfl dX9_struck_71 ?_
          refine fl_aload0 (pc := 74) dX9_struck_74 ?_
          obtain ⟨t11, et11, h⟩ := fm_ltp h
          obtain ⟨g12, h⟩ := fm_gdp h
          refine fm_getm (pc := 75) (fm_nn et11 g12) lk_9_21 sh_0 rfl dX9_struck_75 ?_
          refine fm_cgr et11 ?_
          refine fl_iload1 (pc := 78) dX9_struck_78 ?_
          obtain ⟨v13, M14, ev13, h⟩ := fm_bdp h
          refine fm_callV (pc := 79) mX7_agreed [_, _] _ rfl cvX7_agreed ml_9_196 sh_38 rfl rfl (Nat.le_of_ble_eq_true rfl) (Nat.le_of_ble_eq_true rfl) dX9_struck_79 ?_
          refine sp_X7_agreed ev13 ?_
          refine fm_ret1 ?_
          refine fm_iret (pc := 82) rfl ?_ dX9_struck_82
          cases h
          exact hq
        · replace h := fm_itn s10_2 h
          have q0 : ¬ Int32.toInt a2 = 0 := fun q => s10_0 (Int32.toInt_inj.mp (by rw [q]; rfl))
          have q1 : ¬ Int32.toInt a2 = 1 := fun q => s10_1 (Int32.toInt_inj.mp (by rw [q]; rfl))
          have q2 : ¬ Int32.toInt a2 = 2 := fun q => s10_2 (Int32.toInt_inj.mp (by rw [q]; rfl))
          refine fm_tswOut (pc := 10) 83 (by omega) (by decide) dX9_struck_10 ?_
          refine fm_iconstv (pc := 83) (-1) (by decide) dX9_struck_83 ?_
          refine fm_iret (pc := 84) rfl ?_ dX9_struck_84
          cases h
          exact hq
  · replace h := fm_itp c4 h
    refine fm_iconstv (pc := 7) (-1) (by decide) dX9_struck_7 ?_
    refine fm_iret (pc := 8) rfl ?_ dX9_struck_8
    cases h
    exact hq
/-! X9_law -/
def F_X9_law (a1 : Int32) (a2 : Int32) (a3 : Int32) (M : fm_M) : Option (Int64 × fm_M) :=
    if a1 = 0 then (
      fm_bd (F_X9_isFork a2 M) (fun v1 M2 =>
      if v1 = 0 then (
        some ((-9223372036854775808), M2)
      ) else (
        fm_bd (F_X9_isNote a3 M2) (fun v3 M4 =>
        if v3 = 0 then (
          some ((-9223372036854775808), M4)
        ) else (
          fm_lt (Int32.toNatClampNeg (M4.1 0 1)) (fun t5 =>
          fm_gd (fm_isTd t5) (
          fm_bd (F_X7_humLaw 38 t5 a2 a3 M4) (fun v7 M8 =>
          some (v7, M8))))
        ))
      ))
    ) else (
    if a1 = 1 then (
      fm_bd (F_X9_isFork a2 M) (fun v9 M10 =>
      if v9 = 0 then (
        some ((-9223372036854775808), M10)
      ) else (
        fm_lt (Int32.toNatClampNeg (M10.1 0 1)) (fun t11 =>
        fm_gd (fm_isTd t11) (
        fm_bd (F_X7_rustLaw 38 t11 a2 M10) (fun v13 M14 =>
        some (v13, M14))))
      ))
    ) else (
    if a1 = 2 then (
      fm_bd (F_X9_isNote a3 M) (fun v15 M16 =>
      if v15 = 0 then (
        some ((-9223372036854775808), M16)
      ) else (
        fm_lt (Int32.toNatClampNeg (M16.1 0 1)) (fun t17 =>
        fm_gd (fm_isTd t17) (
        fm_lt (Int32.toNatClampNeg (M16.1 0 1)) (fun t19 =>
        fm_gd (fm_isTd t19) (
        fm_bd (F_X7_humOfAll 38 t19 a3 M16) (fun v21 M22 =>
        fm_bd (F_X7_passLaw 38 t17 a3 v21 M22) (fun v23 M24 =>
        some (v23, M24)))))))
      ))
    ) else (
    some ((-9223372036854775808), M))))
theorem sp_X9_law {d : Nat} {a1 : Int32} {a2 : Int32} {a3 : Int32} {M : fm_M} {x : Int64 × fm_M} {Q : Option Value → fm_M → Prop} (h : F_X9_law a1 a2 a3 M = some x) (hq : Q (some (.long x.1)) x.2) : fm_ct (d + 5) mX9_law [.ref 0, .int a1, .int a2, .int a3] M Q := by
  rw [F_X9_law] at h
  show fm_mw (d + 5) mX9_law Q 0 [some (.ref 0), some (.int a1), some (.int a2), some (.int a3)] [] M
  refine fl_iload1 (pc := 0) dX9_law_0 ?_
  by_cases s1_0 : a1 = 0
  · replace h := fm_itp s1_0 h
    refine fm_tswIn (pc := 1) 28 0 (27) (by rw [s1_0]; rfl) (by decide) (by decide) (by decide) (by decide) dX9_law_1 ?_
    refine fl_aload0 (pc := 28) dX9_law_28 ?_
    refine fl_iload2 (pc := 29) dX9_law_29 ?_
    obtain ⟨v1, M2, ev1, h⟩ := fm_bdp h
    refine fm_callV (pc := 30) mX9_isFork [_] _ rfl cvX9_isFork ml_9_150 sh_0 rfl rfl (Nat.le_of_ble_eq_true rfl) (Nat.le_of_ble_eq_true rfl) dX9_law_30 ?_
    refine sp_X9_isFork ev1 ?_
    refine fm_ret1 ?_
    refine fm_if_eq (pc := 33) 59 (by decide) dX9_law_33 (fun c33 => ?_) (fun c33 => ?_)
    · replace h := fm_itp c33 h
      refine fm_ldc2 (pc := 59) kc_9_203 dX9_law_59 ?_
      refine fm_lret (pc := 62) rfl ?_ dX9_law_62
      cases h
      exact hq
    · replace h := fm_itn c33 h
      refine fl_iload3 (pc := 36) dX9_law_36 ?_
      obtain ⟨v3, M4, ev3, h⟩ := fm_bdp h
      refine fm_callS (pc := 37) mX9_isNote [_] _ rfl csX9_isNote ml_9_178 rfl (Nat.le_of_ble_eq_true rfl) (Nat.le_of_ble_eq_true rfl) dX9_law_37 ?_
      refine sp_X9_isNote ev3 ?_
      refine fm_ret1 ?_
      refine fm_if_eq (pc := 40) 59 (by decide) dX9_law_40 (fun c40 => ?_) (fun c40 => ?_)
      · replace h := fm_itp c40 h
        refine fm_ldc2 (pc := 59) kc_9_203 dX9_law_59 ?_
        refine fm_lret (pc := 62) rfl ?_ dX9_law_62
        cases h
        exact hq
      · replace h := fm_itn c40 h
        refine fl_aload0 (pc := 43) dX9_law_43 ?_
        refine fm_getr (pc := 44) lk_9_28 sh_0 rfl dX9_law_44 ?_
        refine fl_aload0 (pc := 47) dX9_law_47 ?_
        obtain ⟨t5, et5, h⟩ := fm_ltp h
        obtain ⟨g6, h⟩ := fm_gdp h
        refine fm_getm (pc := 48) (fm_nn et5 g6) lk_9_21 sh_0 rfl dX9_law_48 ?_
        refine fm_cgr et5 ?_
        refine fl_iload2 (pc := 51) dX9_law_51 ?_
        refine fl_iload3 (pc := 52) dX9_law_52 ?_
        obtain ⟨v7, M8, ev7, h⟩ := fm_bdp h
        refine fm_callV (pc := 53) mX7_humLaw [_, _, _] _ rfl cvX7_humLaw ml_9_199 sh_38 rfl rfl (Nat.le_of_ble_eq_true rfl) (Nat.le_of_ble_eq_true rfl) dX9_law_53 ?_
        refine sp_X7_humLaw ev7 ?_
        refine fm_ret1 ?_
        refine fm_goto (pc := 56) 62 (by decide) dX9_law_56 ?_
        refine fm_lret (pc := 62) rfl ?_ dX9_law_62
        cases h
        exact hq
  · replace h := fm_itn s1_0 h
    by_cases s1_1 : a1 = 1
    · replace h := fm_itp s1_1 h
      refine fm_tswIn (pc := 1) 63 1 (62) (by rw [s1_1]; rfl) (by decide) (by decide) (by decide) (by decide) dX9_law_1 ?_
      refine fl_aload0 (pc := 63) dX9_law_63 ?_
      refine fl_iload2 (pc := 64) dX9_law_64 ?_
      obtain ⟨v9, M10, ev9, h⟩ := fm_bdp h
      refine fm_callV (pc := 65) mX9_isFork [_] _ rfl cvX9_isFork ml_9_150 sh_0 rfl rfl (Nat.le_of_ble_eq_true rfl) (Nat.le_of_ble_eq_true rfl) dX9_law_65 ?_
      refine sp_X9_isFork ev9 ?_
      refine fm_ret1 ?_
      refine fm_if_eq (pc := 68) 86 (by decide) dX9_law_68 (fun c68 => ?_) (fun c68 => ?_)
      · replace h := fm_itp c68 h
        refine fm_ldc2 (pc := 86) kc_9_203 dX9_law_86 ?_
        refine fm_lret (pc := 89) rfl ?_ dX9_law_89
        cases h
        exact hq
      · replace h := fm_itn c68 h
        refine fl_aload0 (pc := 71) dX9_law_71 ?_
        refine fm_getr (pc := 72) lk_9_28 sh_0 rfl dX9_law_72 ?_
        refine fl_aload0 (pc := 75) dX9_law_75 ?_
        obtain ⟨t11, et11, h⟩ := fm_ltp h
        obtain ⟨g12, h⟩ := fm_gdp h
        refine fm_getm (pc := 76) (fm_nn et11 g12) lk_9_21 sh_0 rfl dX9_law_76 ?_
        refine fm_cgr et11 ?_
        refine fl_iload2 (pc := 79) dX9_law_79 ?_
        obtain ⟨v13, M14, ev13, h⟩ := fm_bdp h
        refine fm_callV (pc := 80) mX7_rustLaw [_, _] _ rfl cvX7_rustLaw ml_9_205 sh_38 rfl rfl (Nat.le_of_ble_eq_true rfl) (Nat.le_of_ble_eq_true rfl) dX9_law_80 ?_
        refine sp_X7_rustLaw ev13 ?_
        refine fm_ret1 ?_
        refine fm_goto (pc := 83) 89 (by decide) dX9_law_83 ?_
        refine fm_lret (pc := 89) rfl ?_ dX9_law_89
        cases h
        exact hq
    · replace h := fm_itn s1_1 h
      by_cases s1_2 : a1 = 2
      · replace h := fm_itp s1_2 h
        refine fm_tswIn (pc := 1) 90 2 (89) (by rw [s1_2]; rfl) (by decide) (by decide) (by decide) (by decide) dX9_law_1 ?_
        refine fl_iload3 (pc := 90) dX9_law_90 ?_
        obtain ⟨v15, M16, ev15, h⟩ := fm_bdp h
        refine fm_callS (pc := 91) mX9_isNote [_] _ rfl csX9_isNote ml_9_178 rfl (Nat.le_of_ble_eq_true rfl) (Nat.le_of_ble_eq_true rfl) dX9_law_91 ?_
        refine sp_X9_isNote ev15 ?_
        refine fm_ret1 ?_
        refine fm_if_eq (pc := 94) 124 (by decide) dX9_law_94 (fun c94 => ?_) (fun c94 => ?_)
        · replace h := fm_itp c94 h
          refine fm_ldc2 (pc := 124) kc_9_203 dX9_law_124 ?_
          refine fm_lret (pc := 127) rfl ?_ dX9_law_127
          cases h
          exact hq
        · replace h := fm_itn c94 h
          refine fl_aload0 (pc := 97) dX9_law_97 ?_
          refine fm_getr (pc := 98) lk_9_28 sh_0 rfl dX9_law_98 ?_
          refine fl_aload0 (pc := 101) dX9_law_101 ?_
          obtain ⟨t17, et17, h⟩ := fm_ltp h
          obtain ⟨g18, h⟩ := fm_gdp h
          refine fm_getm (pc := 102) (fm_nn et17 g18) lk_9_21 sh_0 rfl dX9_law_102 ?_
          refine fm_cgr et17 ?_
          refine fl_iload3 (pc := 105) dX9_law_105 ?_
          refine fl_aload0 (pc := 106) dX9_law_106 ?_
          refine fm_getr (pc := 107) lk_9_28 sh_0 rfl dX9_law_107 ?_
          refine fl_aload0 (pc := 110) dX9_law_110 ?_
          obtain ⟨t19, et19, h⟩ := fm_ltp h
          obtain ⟨g20, h⟩ := fm_gdp h
          refine fm_getm (pc := 111) (fm_nn et19 g20) lk_9_21 sh_0 rfl dX9_law_111 ?_
          refine fm_cgr et19 ?_
          refine fl_iload3 (pc := 114) dX9_law_114 ?_
          obtain ⟨v21, M22, ev21, h⟩ := fm_bdp h
          refine fm_callV (pc := 115) mX7_humOfAll [_, _] _ rfl cvX7_humOfAll ml_9_188 sh_38 rfl rfl (Nat.le_of_ble_eq_true rfl) (Nat.le_of_ble_eq_true rfl) dX9_law_115 ?_
          refine sp_X7_humOfAll ev21 ?_
          refine fm_ret1 ?_
          obtain ⟨v23, M24, ev23, h⟩ := fm_bdp h
          refine fm_callV (pc := 118) mX7_passLaw [_, _, _] _ rfl cvX7_passLaw ml_9_209 sh_38 rfl rfl (Nat.le_of_ble_eq_true rfl) (Nat.le_of_ble_eq_true rfl) dX9_law_118 ?_
          refine sp_X7_passLaw ev23 ?_
          refine fm_ret1 ?_
          refine fm_goto (pc := 121) 127 (by decide) dX9_law_121 ?_
          refine fm_lret (pc := 127) rfl ?_ dX9_law_127
          cases h
          exact hq
      · replace h := fm_itn s1_2 h
        have q0 : ¬ Int32.toInt a1 = 0 := fun q => s1_0 (Int32.toInt_inj.mp (by rw [q]; rfl))
        have q1 : ¬ Int32.toInt a1 = 1 := fun q => s1_1 (Int32.toInt_inj.mp (by rw [q]; rfl))
        have q2 : ¬ Int32.toInt a1 = 2 := fun q => s1_2 (Int32.toInt_inj.mp (by rw [q]; rfl))
        refine fm_tswOut (pc := 1) 128 (by omega) (by decide) dX9_law_1 ?_
        refine fm_ldc2 (pc := 128) kc_9_203 dX9_law_128 ?_
        refine fm_lret (pc := 131) rfl ?_ dX9_law_131
        cases h
        exact hq
/-! X9_touch -/
def J_X9_touch_28 (l1 : Int32) (l2 : Int32) (s0 : Int32) (M : fm_M) : Option (Int32 × fm_M) :=
    if s0 = l2 then (
      some (0, M)
    ) else (
      fm_lt (fm_up M 38 4 ((M.1 38 4) ^^^ (1 <<< (l1 &&& 31)))) (fun M5 =>
      fm_bd (F_X1_add 0 l1 0 M5) (fun v6 M7 =>
      some (1, M7)))
    )
def F_X9_touch (a1 : Int32) (a2 : Int32) (M : fm_M) : Option (Int32 × fm_M) :=
    fm_bd (F_X9_isFork a1 M) (fun v1 M2 =>
    if v1 = 0 then (
      some (0, M2)
    ) else (
      fm_bd (F_X9_bitOf (M2.1 38 4) a1 M2) (fun v3 M4 =>
      if v3 = 1 then (
        J_X9_touch_28 a1 a2 1 M4
      ) else (
        J_X9_touch_28 a1 a2 0 M4
      ))
    ))
theorem jn_X9_touch_28 {d : Nat} {Q : Option Value → fm_M → Prop}  (l1 : Int32) (l2 : Int32) (s0 : Int32) {x : Int32 × fm_M}  (hq : Q (some (.int x.1)) x.2) (M : fm_M) (h : J_X9_touch_28 l1 l2 s0 M = some x) : fm_mw (d + 3) mX9_touch Q 28 [some (.ref 0), some (.int l1), some (.int l2)] [(.int s0)] M := by
  rw [J_X9_touch_28] at h
  refine fl_iload2 (pc := 28) dX9_touch_28 ?_
  refine fm_icmp_ne (pc := 29) 34 (by decide) dX9_touch_29 (fun c29 => ?_) (fun c29 => ?_)
  · replace h := fm_itn c29 h
    refine fl_aload0 (pc := 34) dX9_touch_34 ?_
    refine fm_getr (pc := 35) lk_9_28 sh_0 rfl dX9_touch_35 ?_
    refine fm_dup (pc := 38) rfl dX9_touch_38 ?_
    refine fm_geti (pc := 39) lk_9_172 sh_38 rfl dX9_touch_39 ?_
    refine fm_iconstv (pc := 42) 1 (by decide) dX9_touch_42 ?_
    refine fl_iload1 (pc := 43) dX9_touch_43 ?_
    refine fm_ishl (pc := 44) dX9_touch_44 ?_
    refine fm_ixor (pc := 45) dX9_touch_45 ?_
    refine fm_puti (pc := 46) lp_9_172 sh_38 rfl dX9_touch_46 ?_
    obtain ⟨M5, eM5, h⟩ := fm_ltp h
    refine fm_cgm eM5 ?_
    refine fl_aload0 (pc := 49) dX9_touch_49 ?_
    refine fm_getr (pc := 50) lk_9_41 sh_0 rfl dX9_touch_50 ?_
    refine fm_iconstv (pc := 53) 0 (by decide) dX9_touch_53 ?_
    refine fl_iload1 (pc := 54) dX9_touch_54 ?_
    refine fm_iconstv (pc := 55) 0 (by decide) dX9_touch_55 ?_
    obtain ⟨v6, M7, ev6, h⟩ := fm_bdp h
    refine fm_callV (pc := 56) mX1_add [_, _, _] _ rfl cvX1_add ml_9_212 sh_59 rfl rfl (Nat.le_of_ble_eq_true rfl) (Nat.le_of_ble_eq_true rfl) dX9_touch_56 ?_
    refine sp_X1_add ev6 ?_
    refine fm_ret0 ?_
    refine fm_iconstv (pc := 59) 1 (by decide) dX9_touch_59 ?_
    refine fm_zret (pc := 60) rfl (by decide) ?_ dX9_touch_60
    cases h
    exact hq
  · replace h := fm_itp c29 h
    refine fm_iconstv (pc := 32) 0 (by decide) dX9_touch_32 ?_
    refine fm_zret (pc := 33) rfl (by decide) ?_ dX9_touch_33
    cases h
    exact hq
theorem sp_X9_touch {d : Nat} {a1 : Int32} {a2 : Int32} {M : fm_M} {x : Int32 × fm_M} {Q : Option Value → fm_M → Prop} (h : F_X9_touch a1 a2 M = some x) (hq : Q (some (.int x.1)) x.2) : fm_ct (d + 3) mX9_touch [.ref 0, .int a1, .int a2] M Q := by
  rw [F_X9_touch] at h
  show fm_mw (d + 3) mX9_touch Q 0 [some (.ref 0), some (.int a1), some (.int a2)] [] M
  refine fl_aload0 (pc := 0) dX9_touch_0 ?_
  refine fl_iload1 (pc := 1) dX9_touch_1 ?_
  obtain ⟨v1, M2, ev1, h⟩ := fm_bdp h
  refine fm_callV (pc := 2) mX9_isFork [_] _ rfl cvX9_isFork ml_9_150 sh_0 rfl rfl (Nat.le_of_ble_eq_true rfl) (Nat.le_of_ble_eq_true rfl) dX9_touch_2 ?_
  refine sp_X9_isFork ev1 ?_
  refine fm_ret1 ?_
  refine fm_if_eq (pc := 5) 32 (by decide) dX9_touch_5 (fun c5 => ?_) (fun c5 => ?_)
  · replace h := fm_itp c5 h
    refine fm_iconstv (pc := 32) 0 (by decide) dX9_touch_32 ?_
    refine fm_zret (pc := 33) rfl (by decide) ?_ dX9_touch_33
    cases h
    exact hq
  · replace h := fm_itn c5 h
    refine fl_aload0 (pc := 8) dX9_touch_8 ?_
    refine fm_getr (pc := 9) lk_9_28 sh_0 rfl dX9_touch_9 ?_
    refine fm_geti (pc := 12) lk_9_172 sh_38 rfl dX9_touch_12 ?_
    refine fl_iload1 (pc := 15) dX9_touch_15 ?_
    obtain ⟨v3, M4, ev3, h⟩ := fm_bdp h
    refine fm_callS (pc := 16) mX9_bitOf [_, _] _ rfl csX9_bitOf ml_9_168 rfl (Nat.le_of_ble_eq_true rfl) (Nat.le_of_ble_eq_true rfl) dX9_touch_16 ?_
    refine sp_X9_bitOf ev3 ?_
    refine fm_ret1 ?_
    refine fm_iconstv (pc := 19) 1 (by decide) dX9_touch_19 ?_
    refine fm_icmp_ne (pc := 20) 27 (by decide) dX9_touch_20 (fun c20 => ?_) (fun c20 => ?_)
    · replace h := fm_itn c20 h
      refine fm_iconstv (pc := 27) 0 (by decide) dX9_touch_27 ?_
      exact jn_X9_touch_28 _ _ _  hq _ h
    · replace h := fm_itp c20 h
      refine fm_iconstv (pc := 23) 1 (by decide) dX9_touch_23 ?_
      refine fm_goto (pc := 24) 28 (by decide) dX9_touch_24 ?_
      exact jn_X9_touch_28 _ _ _  hq _ h
/-! X9_file -/
def F_X9_file (a1 : Int32) (a2 : Int32) (M : fm_M) : Option (Int32 × fm_M) :=
    fm_bd (F_X9_isFork a1 M) (fun v1 M2 =>
    if v1 = 0 then (
      some ((-1), M2)
    ) else (
      if a2 < (-99) then (
        some ((-1), M2)
      ) else (
        if 99 < a2 then (
          some ((-1), M2)
        ) else (
          if a2 = 0 then (
            some ((-1), M2)
          ) else (
            fm_gd (fm_inb a1 8) (
            fm_lt (((M2.1 39 (Int32.toNatClampNeg a1)) + a2)) (fun x4 =>
            fm_bd (F_X9_isNote x4 M2) (fun v5 M6 =>
            if v5 = 0 then (
              some ((-1), M6)
            ) else (
              fm_lt (Int32.toNatClampNeg (M6.1 0 1)) (fun t7 =>
              fm_gd (fm_isTd t7) (
              fm_lt (((M6.1 t7 15) * (i_abs a2))) (fun x9 =>
              if x9 ≤ (M6.1 38 2) then (
                fm_bd (F_X7_filed 38 a1 a2 x9 M6) (fun v10 M11 =>
                fm_bd (F_X1_add 1 a1 a2 M11) (fun v12 M13 =>
                some (x4, M13)))
              ) else (
                some ((-2), M6)
              ))))
            ))))
          )
        )
      )
    ))
theorem sp_X9_file {d : Nat} {a1 : Int32} {a2 : Int32} {M : fm_M} {x : Int32 × fm_M} {Q : Option Value → fm_M → Prop} (h : F_X9_file a1 a2 M = some x) (hq : Q (some (.int x.1)) x.2) : fm_ct (d + 3) mX9_file [.ref 0, .int a1, .int a2] M Q := by
  rw [F_X9_file] at h
  show fm_mw (d + 3) mX9_file Q 0 [some (.ref 0), some (.int a1), some (.int a2), none, none] [] M
  refine fl_aload0 (pc := 0) dX9_file_0 ?_
  refine fl_iload1 (pc := 1) dX9_file_1 ?_
  obtain ⟨v1, M2, ev1, h⟩ := fm_bdp h
  refine fm_callV (pc := 2) mX9_isFork [_] _ rfl cvX9_isFork ml_9_150 sh_0 rfl rfl (Nat.le_of_ble_eq_true rfl) (Nat.le_of_ble_eq_true rfl) dX9_file_2 ?_
  refine sp_X9_isFork ev1 ?_
  refine fm_ret1 ?_
  refine fm_if_eq (pc := 5) 24 (by decide) dX9_file_5 (fun c5 => ?_) (fun c5 => ?_)
  · replace h := fm_itp c5 h
    refine fm_iconstv (pc := 24) (-1) (by decide) dX9_file_24 ?_
    refine fm_iret (pc := 25) rfl ?_ dX9_file_25
    cases h
    exact hq
  · replace h := fm_itn c5 h
    refine fl_iload2 (pc := 8) dX9_file_8 ?_
    refine fm_bipushv (pc := 9) (-99) (by decide) dX9_file_9 ?_
    refine fm_icmp_lt (pc := 11) 24 (by decide) dX9_file_11 (fun c11 => ?_) (fun c11 => ?_)
    · replace h := fm_itp c11 h
      refine fm_iconstv (pc := 24) (-1) (by decide) dX9_file_24 ?_
      refine fm_iret (pc := 25) rfl ?_ dX9_file_25
      cases h
      exact hq
    · replace h := fm_itn c11 h
      refine fl_iload2 (pc := 14) dX9_file_14 ?_
      refine fm_bipushv (pc := 15) 99 (by decide) dX9_file_15 ?_
      refine fm_icmp_gt (pc := 17) 24 (by decide) dX9_file_17 (fun c17 => ?_) (fun c17 => ?_)
      · replace h := fm_itp c17 h
        refine fm_iconstv (pc := 24) (-1) (by decide) dX9_file_24 ?_
        refine fm_iret (pc := 25) rfl ?_ dX9_file_25
        cases h
        exact hq
      · replace h := fm_itn c17 h
        refine fl_iload2 (pc := 20) dX9_file_20 ?_
        refine fm_if_ne (pc := 21) 26 (by decide) dX9_file_21 (fun c21 => ?_) (fun c21 => ?_)
        · replace h := fm_itn c21 h
          refine fl_aload0 (pc := 26) dX9_file_26 ?_
          refine fm_getr (pc := 27) lk_9_28 sh_0 rfl dX9_file_27 ?_
          refine fm_getr (pc := 30) lk_9_153 sh_38 rfl dX9_file_30 ?_
          refine fl_iload1 (pc := 33) dX9_file_33 ?_
          obtain ⟨g3, h⟩ := fm_gdp h
          refine fm_iald (pc := 34) sh_39 (fm_inb_ok g3) dX9_file_34 ?_
          refine fl_iload2 (pc := 35) dX9_file_35 ?_
          refine fm_iadd (pc := 36) dX9_file_36 ?_
          obtain ⟨x4, ex4, h⟩ := fm_ltp h
          refine fm_cgi ex4 ?_
          refine fl_istore3 (pc := 37) rfl (by decide) dX9_file_37 ?_
          refine fl_iload3 (pc := 38) dX9_file_38 ?_
          obtain ⟨v5, M6, ev5, h⟩ := fm_bdp h
          refine fm_callS (pc := 39) mX9_isNote [_] _ rfl csX9_isNote ml_9_178 rfl (Nat.le_of_ble_eq_true rfl) (Nat.le_of_ble_eq_true rfl) dX9_file_39 ?_
          refine sp_X9_isNote ev5 ?_
          refine fm_ret1 ?_
          refine fm_if_ne (pc := 42) 47 (by decide) dX9_file_42 (fun c42 => ?_) (fun c42 => ?_)
          · replace h := fm_itn c42 h
            refine fl_aload0 (pc := 47) dX9_file_47 ?_
            obtain ⟨t7, et7, h⟩ := fm_ltp h
            obtain ⟨g8, h⟩ := fm_gdp h
            refine fm_getm (pc := 48) (fm_nn et7 g8) lk_9_21 sh_0 rfl dX9_file_48 ?_
            refine fm_cgr et7 ?_
            refine fm_geti (pc := 51) lk_9_216 (shTd0 g8) rfl dX9_file_51 ?_
            refine fl_iload2 (pc := 54) dX9_file_54 ?_
            refine fq_mabs (pc := 55) ml_9_219 (Nat.le_of_ble_eq_true rfl) dX9_file_55 ?_
            refine fm_imul (pc := 58) dX9_file_58 ?_
            obtain ⟨x9, ex9, h⟩ := fm_ltp h
            refine fm_cgi ex9 ?_
            refine fl_istore4 (pc := 59) rfl (by decide) dX9_file_59 ?_
            refine fl_iload4 (pc := 61) dX9_file_61 ?_
            refine fl_aload0 (pc := 63) dX9_file_63 ?_
            refine fm_getr (pc := 64) lk_9_28 sh_0 rfl dX9_file_64 ?_
            refine fm_geti (pc := 67) lk_9_224 sh_38 rfl dX9_file_67 ?_
            refine fm_icmp_le (pc := 70) 76 (by decide) dX9_file_70 (fun c70 => ?_) (fun c70 => ?_)
            · replace h := fm_itp c70 h
              refine fl_aload0 (pc := 76) dX9_file_76 ?_
              refine fm_getr (pc := 77) lk_9_28 sh_0 rfl dX9_file_77 ?_
              refine fl_iload1 (pc := 80) dX9_file_80 ?_
              refine fl_iload2 (pc := 81) dX9_file_81 ?_
              refine fl_iload4 (pc := 82) dX9_file_82 ?_
              obtain ⟨v10, M11, ev10, h⟩ := fm_bdp h
              refine fm_callV (pc := 84) mX7_filed [_, _, _] _ rfl cvX7_filed ml_9_227 sh_38 rfl rfl (Nat.le_of_ble_eq_true rfl) (Nat.le_of_ble_eq_true rfl) dX9_file_84 ?_
              refine sp_X7_filed ev10 ?_
              refine fm_ret0 ?_
              refine fl_aload0 (pc := 87) dX9_file_87 ?_
              refine fm_getr (pc := 88) lk_9_41 sh_0 rfl dX9_file_88 ?_
              refine fm_iconstv (pc := 91) 1 (by decide) dX9_file_91 ?_
              refine fl_iload1 (pc := 92) dX9_file_92 ?_
              refine fl_iload2 (pc := 93) dX9_file_93 ?_
              obtain ⟨v12, M13, ev12, h⟩ := fm_bdp h
              refine fm_callV (pc := 94) mX1_add [_, _, _] _ rfl cvX1_add ml_9_212 sh_59 rfl rfl (Nat.le_of_ble_eq_true rfl) (Nat.le_of_ble_eq_true rfl) dX9_file_94 ?_
              refine sp_X1_add ev12 ?_
              refine fm_ret0 ?_
              refine fl_iload3 (pc := 97) dX9_file_97 ?_
              refine fm_iret (pc := 98) rfl ?_ dX9_file_98
              cases h
              exact hq
            · replace h := fm_itn c70 h
              refine fm_bipushv (pc := 73) (-2) (by decide) dX9_file_73 ?_
              refine fm_iret (pc := 75) rfl ?_ dX9_file_75
              cases h
              exact hq
          · replace h := fm_itp c42 h
            refine fm_iconstv (pc := 45) (-1) (by decide) dX9_file_45 ?_
            refine fm_iret (pc := 46) rfl ?_ dX9_file_46
            cases h
            exact hq
        · replace h := fm_itp c21 h
          refine fm_iconstv (pc := 24) (-1) (by decide) dX9_file_24 ?_
          refine fm_iret (pc := 25) rfl ?_ dX9_file_25
          cases h
          exact hq
/-! X9_put -/
def F_X9_put (a1 : Int32) (a2 : Int32) (M : fm_M) : Option (Int32 × fm_M) :=
    fm_bd (F_X9_isMotion a1 M) (fun v1 M2 =>
    if v1 = 0 then (
      some (0, M2)
    ) else (
      if a2 < (M2.1 38 0) then (
        some (0, M2)
      ) else (
        if a2 ≤ 9999 then (
          fm_gd (fm_inb a1 10) (
          if (M2.1 42 (Int32.toNatClampNeg a1)) = (-1) then (
            fm_gd (fm_inb a1 10) (
            if (M2.1 41 (Int32.toNatClampNeg a1)) = a2 then (
              some (0, M2)
            ) else (
              fm_gd (fm_inb a1 10) (
              fm_bd (F_X1_add 2 a1 (M2.1 41 (Int32.toNatClampNeg a1)) M2) (fun v6 M7 =>
              fm_gd (fm_inb a1 10) (
              fm_lt (fm_up M7 41 (Int32.toNatClampNeg a1) a2) (fun M9 =>
              some (1, M9)))))
            ))
          ) else (
            some (0, M2)
          ))
        ) else (
          some (0, M2)
        )
      )
    ))
theorem sp_X9_put {d : Nat} {a1 : Int32} {a2 : Int32} {M : fm_M} {x : Int32 × fm_M} {Q : Option Value → fm_M → Prop} (h : F_X9_put a1 a2 M = some x) (hq : Q (some (.int x.1)) x.2) : fm_ct (d + 3) mX9_put [.ref 0, .int a1, .int a2] M Q := by
  rw [F_X9_put] at h
  show fm_mw (d + 3) mX9_put Q 0 [some (.ref 0), some (.int a1), some (.int a2)] [] M
  refine fl_aload0 (pc := 0) dX9_put_0 ?_
  refine fl_iload1 (pc := 1) dX9_put_1 ?_
  obtain ⟨v1, M2, ev1, h⟩ := fm_bdp h
  refine fm_callV (pc := 2) mX9_isMotion [_] _ rfl cvX9_isMotion ml_9_121 sh_0 rfl rfl (Nat.le_of_ble_eq_true rfl) (Nat.le_of_ble_eq_true rfl) dX9_put_2 ?_
  refine sp_X9_isMotion ev1 ?_
  refine fm_ret1 ?_
  refine fm_if_eq (pc := 5) 26 (by decide) dX9_put_5 (fun c5 => ?_) (fun c5 => ?_)
  · replace h := fm_itp c5 h
    refine fm_iconstv (pc := 26) 0 (by decide) dX9_put_26 ?_
    refine fm_zret (pc := 27) rfl (by decide) ?_ dX9_put_27
    cases h
    exact hq
  · replace h := fm_itn c5 h
    refine fl_iload2 (pc := 8) dX9_put_8 ?_
    refine fl_aload0 (pc := 9) dX9_put_9 ?_
    refine fm_getr (pc := 10) lk_9_28 sh_0 rfl dX9_put_10 ?_
    refine fm_geti (pc := 13) lk_9_230 sh_38 rfl dX9_put_13 ?_
    refine fm_icmp_lt (pc := 16) 26 (by decide) dX9_put_16 (fun c16 => ?_) (fun c16 => ?_)
    · replace h := fm_itp c16 h
      refine fm_iconstv (pc := 26) 0 (by decide) dX9_put_26 ?_
      refine fm_zret (pc := 27) rfl (by decide) ?_ dX9_put_27
      cases h
      exact hq
    · replace h := fm_itn c16 h
      refine fl_iload2 (pc := 19) dX9_put_19 ?_
      refine fm_sipushv (pc := 20) 9999 (by decide) dX9_put_20 ?_
      refine fm_icmp_le (pc := 23) 28 (by decide) dX9_put_23 (fun c23 => ?_) (fun c23 => ?_)
      · replace h := fm_itp c23 h
        refine fl_aload0 (pc := 28) dX9_put_28 ?_
        refine fm_getr (pc := 29) lk_9_28 sh_0 rfl dX9_put_29 ?_
        refine fm_getr (pc := 32) lk_9_139 sh_38 rfl dX9_put_32 ?_
        refine fl_iload1 (pc := 35) dX9_put_35 ?_
        obtain ⟨g3, h⟩ := fm_gdp h
        refine fm_iald (pc := 36) sh_42 (fm_inb_ok g3) dX9_put_36 ?_
        refine fm_iconstv (pc := 37) (-1) (by decide) dX9_put_37 ?_
        refine fm_icmp_ne (pc := 38) 54 (by decide) dX9_put_38 (fun c38 => ?_) (fun c38 => ?_)
        · replace h := fm_itn c38 h
          refine fm_iconstv (pc := 54) 0 (by decide) dX9_put_54 ?_
          refine fm_zret (pc := 55) rfl (by decide) ?_ dX9_put_55
          cases h
          exact hq
        · replace h := fm_itp c38 h
          refine fl_aload0 (pc := 41) dX9_put_41 ?_
          refine fm_getr (pc := 42) lk_9_28 sh_0 rfl dX9_put_42 ?_
          refine fm_getr (pc := 45) lk_9_136 sh_38 rfl dX9_put_45 ?_
          refine fl_iload1 (pc := 48) dX9_put_48 ?_
          obtain ⟨g4, h⟩ := fm_gdp h
          refine fm_iald (pc := 49) sh_41 (fm_inb_ok g4) dX9_put_49 ?_
          refine fl_iload2 (pc := 50) dX9_put_50 ?_
          refine fm_icmp_ne (pc := 51) 56 (by decide) dX9_put_51 (fun c51 => ?_) (fun c51 => ?_)
          · replace h := fm_itn c51 h
            refine fl_aload0 (pc := 56) dX9_put_56 ?_
            refine fm_getr (pc := 57) lk_9_41 sh_0 rfl dX9_put_57 ?_
            refine fm_iconstv (pc := 60) 2 (by decide) dX9_put_60 ?_
            refine fl_iload1 (pc := 61) dX9_put_61 ?_
            refine fl_aload0 (pc := 62) dX9_put_62 ?_
            refine fm_getr (pc := 63) lk_9_28 sh_0 rfl dX9_put_63 ?_
            refine fm_getr (pc := 66) lk_9_136 sh_38 rfl dX9_put_66 ?_
            refine fl_iload1 (pc := 69) dX9_put_69 ?_
            obtain ⟨g5, h⟩ := fm_gdp h
            refine fm_iald (pc := 70) sh_41 (fm_inb_ok g5) dX9_put_70 ?_
            obtain ⟨v6, M7, ev6, h⟩ := fm_bdp h
            refine fm_callV (pc := 71) mX1_add [_, _, _] _ rfl cvX1_add ml_9_212 sh_59 rfl rfl (Nat.le_of_ble_eq_true rfl) (Nat.le_of_ble_eq_true rfl) dX9_put_71 ?_
            refine sp_X1_add ev6 ?_
            refine fm_ret0 ?_
            refine fl_aload0 (pc := 74) dX9_put_74 ?_
            refine fm_getr (pc := 75) lk_9_28 sh_0 rfl dX9_put_75 ?_
            refine fm_getr (pc := 78) lk_9_136 sh_38 rfl dX9_put_78 ?_
            refine fl_iload1 (pc := 81) dX9_put_81 ?_
            refine fl_iload2 (pc := 82) dX9_put_82 ?_
            obtain ⟨g8, h⟩ := fm_gdp h
            refine fm_iast (pc := 83) sh_41 (fm_inb_ok g8) dX9_put_83 ?_
            obtain ⟨M9, eM9, h⟩ := fm_ltp h
            refine fm_cgm eM9 ?_
            refine fm_iconstv (pc := 84) 1 (by decide) dX9_put_84 ?_
            refine fm_zret (pc := 85) rfl (by decide) ?_ dX9_put_85
            cases h
            exact hq
          · replace h := fm_itp c51 h
            refine fm_iconstv (pc := 54) 0 (by decide) dX9_put_54 ?_
            refine fm_zret (pc := 55) rfl (by decide) ?_ dX9_put_55
            cases h
            exact hq
      · replace h := fm_itn c23 h
        refine fm_iconstv (pc := 26) 0 (by decide) dX9_put_26 ?_
        refine fm_zret (pc := 27) rfl (by decide) ?_ dX9_put_27
        cases h
        exact hq
/-! X9_earn -/
def F_X9_earn (a1 : Int32) (M : fm_M) : Option (Int32 × fm_M) :=
    if a1 < 1 then (
      some ((-1), M)
    ) else (
      if 99 < a1 then (
        some ((-1), M)
      ) else (
        if ((M.1 38 2) + a1) ≤ 9999 then (
          fm_lt (fm_up M 38 2 ((M.1 38 2) + a1)) (fun M1 =>
          fm_bd (F_X1_add 3 0 a1 M1) (fun v2 M3 =>
          some ((M3.1 38 2), M3)))
        ) else (
          some ((-1), M)
        )
      )
    )
theorem sp_X9_earn {d : Nat} {a1 : Int32} {M : fm_M} {x : Int32 × fm_M} {Q : Option Value → fm_M → Prop} (h : F_X9_earn a1 M = some x) (hq : Q (some (.int x.1)) x.2) : fm_ct (d + 3) mX9_earn [.ref 0, .int a1] M Q := by
  rw [F_X9_earn] at h
  show fm_mw (d + 3) mX9_earn Q 0 [some (.ref 0), some (.int a1)] [] M
  refine fl_iload1 (pc := 0) dX9_earn_0 ?_
  refine fm_iconstv (pc := 1) 1 (by decide) dX9_earn_1 ?_
  refine fm_icmp_lt (pc := 2) 26 (by decide) dX9_earn_2 (fun c2 => ?_) (fun c2 => ?_)
  · replace h := fm_itp c2 h
    refine fm_iconstv (pc := 26) (-1) (by decide) dX9_earn_26 ?_
    refine fm_iret (pc := 27) rfl ?_ dX9_earn_27
    cases h
    exact hq
  · replace h := fm_itn c2 h
    refine fl_iload1 (pc := 5) dX9_earn_5 ?_
    refine fm_bipushv (pc := 6) 99 (by decide) dX9_earn_6 ?_
    refine fm_icmp_gt (pc := 8) 26 (by decide) dX9_earn_8 (fun c8 => ?_) (fun c8 => ?_)
    · replace h := fm_itp c8 h
      refine fm_iconstv (pc := 26) (-1) (by decide) dX9_earn_26 ?_
      refine fm_iret (pc := 27) rfl ?_ dX9_earn_27
      cases h
      exact hq
    · replace h := fm_itn c8 h
      refine fl_aload0 (pc := 11) dX9_earn_11 ?_
      refine fm_getr (pc := 12) lk_9_28 sh_0 rfl dX9_earn_12 ?_
      refine fm_geti (pc := 15) lk_9_224 sh_38 rfl dX9_earn_15 ?_
      refine fl_iload1 (pc := 18) dX9_earn_18 ?_
      refine fm_iadd (pc := 19) dX9_earn_19 ?_
      refine fm_sipushv (pc := 20) 9999 (by decide) dX9_earn_20 ?_
      refine fm_icmp_le (pc := 23) 28 (by decide) dX9_earn_23 (fun c23 => ?_) (fun c23 => ?_)
      · replace h := fm_itp c23 h
        refine fl_aload0 (pc := 28) dX9_earn_28 ?_
        refine fm_getr (pc := 29) lk_9_28 sh_0 rfl dX9_earn_29 ?_
        refine fm_dup (pc := 32) rfl dX9_earn_32 ?_
        refine fm_geti (pc := 33) lk_9_224 sh_38 rfl dX9_earn_33 ?_
        refine fl_iload1 (pc := 36) dX9_earn_36 ?_
        refine fm_iadd (pc := 37) dX9_earn_37 ?_
        refine fm_puti (pc := 38) lp_9_224 sh_38 rfl dX9_earn_38 ?_
        obtain ⟨M1, eM1, h⟩ := fm_ltp h
        refine fm_cgm eM1 ?_
        refine fl_aload0 (pc := 41) dX9_earn_41 ?_
        refine fm_getr (pc := 42) lk_9_41 sh_0 rfl dX9_earn_42 ?_
        refine fm_iconstv (pc := 45) 3 (by decide) dX9_earn_45 ?_
        refine fm_iconstv (pc := 46) 0 (by decide) dX9_earn_46 ?_
        refine fl_iload1 (pc := 47) dX9_earn_47 ?_
        obtain ⟨v2, M3, ev2, h⟩ := fm_bdp h
        refine fm_callV (pc := 48) mX1_add [_, _, _] _ rfl cvX1_add ml_9_212 sh_59 rfl rfl (Nat.le_of_ble_eq_true rfl) (Nat.le_of_ble_eq_true rfl) dX9_earn_48 ?_
        refine sp_X1_add ev2 ?_
        refine fm_ret0 ?_
        refine fl_aload0 (pc := 51) dX9_earn_51 ?_
        refine fm_getr (pc := 52) lk_9_28 sh_0 rfl dX9_earn_52 ?_
        refine fm_geti (pc := 55) lk_9_224 sh_38 rfl dX9_earn_55 ?_
        refine fm_iret (pc := 58) rfl ?_ dX9_earn_58
        cases h
        exact hq
      · replace h := fm_itn c23 h
        refine fm_iconstv (pc := 26) (-1) (by decide) dX9_earn_26 ?_
        refine fm_iret (pc := 27) rfl ?_ dX9_earn_27
        cases h
        exact hq
/-! X9_isSpan -/
def F_X9_isSpan (a0 : Int32) (M : fm_M) : Option (Int32 × fm_M) :=
    if a0 < 0 then (
      some (0, M)
    ) else (
      if 99 < a0 then (
        some (0, M)
      ) else (
        some (1, M)
      )
    )
theorem sp_X9_isSpan {d : Nat} {a0 : Int32} {M : fm_M} {x : Int32 × fm_M} {Q : Option Value → fm_M → Prop} (h : F_X9_isSpan a0 M = some x) (hq : Q (some (.int x.1)) x.2) : fm_ct d mX9_isSpan [.int a0] M Q := by
  rw [F_X9_isSpan] at h
  show fm_mw d mX9_isSpan Q 0 [some (.int a0)] [] M
  refine fl_iload0 (pc := 0) dX9_isSpan_0 ?_
  refine fm_if_lt (pc := 1) 14 (by decide) dX9_isSpan_1 (fun c1 => ?_) (fun c1 => ?_)
  · replace h := fm_itp c1 h
    refine fm_iconstv (pc := 14) 0 (by decide) dX9_isSpan_14 ?_
    refine fm_zret (pc := 15) rfl (by decide) ?_ dX9_isSpan_15
    cases h
    exact hq
  · replace h := fm_itn c1 h
    refine fl_iload0 (pc := 4) dX9_isSpan_4 ?_
    refine fm_bipushv (pc := 5) 99 (by decide) dX9_isSpan_5 ?_
    refine fm_icmp_gt (pc := 7) 14 (by decide) dX9_isSpan_7 (fun c7 => ?_) (fun c7 => ?_)
    · replace h := fm_itp c7 h
      refine fm_iconstv (pc := 14) 0 (by decide) dX9_isSpan_14 ?_
      refine fm_zret (pc := 15) rfl (by decide) ?_ dX9_isSpan_15
      cases h
      exact hq
    · replace h := fm_itn c7 h
      refine fm_iconstv (pc := 10) 1 (by decide) dX9_isSpan_10 ?_
      refine fm_goto (pc := 11) 15 (by decide) dX9_isSpan_11 ?_
      refine fm_zret (pc := 15) rfl (by decide) ?_ dX9_isSpan_15
      cases h
      exact hq
/-! X9_go -/
def F_X9_go (a1 : Int32) (M : fm_M) : Option (Int32 × fm_M) :=
    fm_bd (F_X9_isSpan a1 M) (fun v1 M2 =>
    if v1 = 0 then (
      some ((-1), M2)
    ) else (
      if ((M2.1 38 0) + a1) ≤ 9900 then (
        if a1 ≤ 0 then (
          some ((M2.1 38 0), M2)
        ) else (
          fm_lt (Int32.toNatClampNeg (M2.1 0 1)) (fun t3 =>
          fm_gd (fm_isTd t3) (
          fm_bd (F_X7_passDays 38 t3 a1 M2) (fun v5 M6 =>
          fm_lt (fm_up M6 59 3 0) (fun M7 =>
          some ((M7.1 38 0), M7)))))
        )
      ) else (
        some ((-1), M2)
      )
    ))
theorem sp_X9_go {d : Nat} {a1 : Int32} {M : fm_M} {x : Int32 × fm_M} {Q : Option Value → fm_M → Prop} (h : F_X9_go a1 M = some x) (hq : Q (some (.int x.1)) x.2) : fm_ct (d + 7) mX9_go [.ref 0, .int a1] M Q := by
  rw [F_X9_go] at h
  show fm_mw (d + 7) mX9_go Q 0 [some (.ref 0), some (.int a1)] [] M
  refine fl_iload1 (pc := 0) dX9_go_0 ?_
  obtain ⟨v1, M2, ev1, h⟩ := fm_bdp h
  refine fm_callS (pc := 1) mX9_isSpan [_] _ rfl csX9_isSpan ml_9_233 rfl (Nat.le_of_ble_eq_true rfl) (Nat.le_of_ble_eq_true rfl) dX9_go_1 ?_
  refine sp_X9_isSpan ev1 ?_
  refine fm_ret1 ?_
  refine fm_if_eq (pc := 4) 22 (by decide) dX9_go_4 (fun c4 => ?_) (fun c4 => ?_)
  · replace h := fm_itp c4 h
    refine fm_iconstv (pc := 22) (-1) (by decide) dX9_go_22 ?_
    refine fm_iret (pc := 23) rfl ?_ dX9_go_23
    cases h
    exact hq
  · replace h := fm_itn c4 h
    refine fl_aload0 (pc := 7) dX9_go_7 ?_
    refine fm_getr (pc := 8) lk_9_28 sh_0 rfl dX9_go_8 ?_
    refine fm_geti (pc := 11) lk_9_230 sh_38 rfl dX9_go_11 ?_
    refine fl_iload1 (pc := 14) dX9_go_14 ?_
    refine fm_iadd (pc := 15) dX9_go_15 ?_
    refine fm_sipushv (pc := 16) 9900 (by decide) dX9_go_16 ?_
    refine fm_icmp_le (pc := 19) 24 (by decide) dX9_go_19 (fun c19 => ?_) (fun c19 => ?_)
    · replace h := fm_itp c19 h
      refine fl_iload1 (pc := 24) dX9_go_24 ?_
      refine fm_if_le (pc := 25) 48 (by decide) dX9_go_25 (fun c25 => ?_) (fun c25 => ?_)
      · replace h := fm_itp c25 h
        refine fl_aload0 (pc := 48) dX9_go_48 ?_
        refine fm_getr (pc := 49) lk_9_28 sh_0 rfl dX9_go_49 ?_
        refine fm_geti (pc := 52) lk_9_230 sh_38 rfl dX9_go_52 ?_
        refine fm_iret (pc := 55) rfl ?_ dX9_go_55
        cases h
        exact hq
      · replace h := fm_itn c25 h
        refine fl_aload0 (pc := 28) dX9_go_28 ?_
        refine fm_getr (pc := 29) lk_9_28 sh_0 rfl dX9_go_29 ?_
        refine fl_aload0 (pc := 32) dX9_go_32 ?_
        obtain ⟨t3, et3, h⟩ := fm_ltp h
        obtain ⟨g4, h⟩ := fm_gdp h
        refine fm_getm (pc := 33) (fm_nn et3 g4) lk_9_21 sh_0 rfl dX9_go_33 ?_
        refine fm_cgr et3 ?_
        refine fl_iload1 (pc := 36) dX9_go_36 ?_
        obtain ⟨v5, M6, ev5, h⟩ := fm_bdp h
        refine fm_callV (pc := 37) mX7_passDays [_, _] _ rfl cvX7_passDays ml_9_236 sh_38 rfl rfl (Nat.le_of_ble_eq_true rfl) (Nat.le_of_ble_eq_true rfl) dX9_go_37 ?_
        refine sp_X7_passDays ev5 ?_
        refine fm_ret0 ?_
        refine fl_aload0 (pc := 40) dX9_go_40 ?_
        refine fm_getr (pc := 41) lk_9_41 sh_0 rfl dX9_go_41 ?_
        refine fm_iconstv (pc := 44) 0 (by decide) dX9_go_44 ?_
        refine fm_puti (pc := 45) lp_9_101 sh_59 rfl dX9_go_45 ?_
        obtain ⟨M7, eM7, h⟩ := fm_ltp h
        refine fm_cgm eM7 ?_
        refine fl_aload0 (pc := 48) dX9_go_48 ?_
        refine fm_getr (pc := 49) lk_9_28 sh_0 rfl dX9_go_49 ?_
        refine fm_geti (pc := 52) lk_9_230 sh_38 rfl dX9_go_52 ?_
        refine fm_iret (pc := 55) rfl ?_ dX9_go_55
        cases h
        exact hq
    · replace h := fm_itn c19 h
      refine fm_iconstv (pc := 22) (-1) (by decide) dX9_go_22 ?_
      refine fm_iret (pc := 23) rfl ?_ dX9_go_23
      cases h
      exact hq
/-! X9_ahead -/
def J_X9_ahead_107 (l1 : Int32) (l2 : Int32) (l3 : Int32) (s0 : Int32) (M : fm_M) : Option (Int32 × fm_M) :=
    fm_lt (Int32.toNatClampNeg (M.1 0 1)) (fun t9 =>
    fm_gd (fm_isTd t9) (
    fm_bd (F_X7_verdicts 45 t9 s0 M) (fun v11 M12 =>
    fm_lt (Int32.toNatClampNeg (M12.1 0 1)) (fun t13 =>
    fm_gd (fm_isTd t13) (
    fm_bd (F_X7_verdicts 38 t13 s0 M12) (fun v15 M16 =>
    some ((v11 - v15), M16)))))))
def J_X9_ahead_31 (l1 : Int32) (l2 : Int32) (l3 : Int32) (M : fm_M) : Option (Int32 × fm_M) :=
    fm_bd (F_X7_copyFrom 45 38 M) (fun v3 M4 =>
    fm_lt (Int32.toNatClampNeg (M4.1 0 1)) (fun t5 =>
    fm_gd (fm_isTd t5) (
    fm_bd (F_X7_passDays 45 t5 l1 M4) (fun v7 M8 =>
    if l2 = 3 then (
      fm_gd (fm_inb l3 8) (
      some ((M8.1 46 (Int32.toNatClampNeg l3)), M8))
    ) else (
      if l2 = 2 then (
        fm_lt (Int32.toNatClampNeg (M8.1 0 1)) (fun t17 =>
        fm_gd (fm_isTd t17) (
        fm_bd (F_X7_heardInSum 45 t17 M8) (fun v19 M20 =>
        fm_lt (Int32.toNatClampNeg (M20.1 0 1)) (fun t21 =>
        fm_gd (fm_isTd t21) (
        fm_bd (F_X7_heardInSum 38 t21 M20) (fun v23 M24 =>
        some ((v19 - v23), M24)))))))
      ) else (
        if l2 = 0 then (
          J_X9_ahead_107 l1 l2 l3 1 M8
        ) else (
          J_X9_ahead_107 l1 l2 l3 0 M8
        )
      )
    )))))
def F_X9_ahead (a1 : Int32) (a2 : Int32) (a3 : Int32) (M : fm_M) : Option (Int32 × fm_M) :=
    fm_bd (F_X9_isSpan a1 M) (fun v1 M2 =>
    if v1 = 0 then (
      some ((-1), M2)
    ) else (
      if a2 < 0 then (
        some ((-1), M2)
      ) else (
        if 3 < a2 then (
          some ((-1), M2)
        ) else (
          if a2 = 3 then (
            fm_bd (F_X9_isFork a3 M2) (fun v26 M27 =>
            if v26 = 0 then (
              some ((-1), M27)
            ) else (
              J_X9_ahead_31 a1 a2 a3 M27
            ))
          ) else (
            J_X9_ahead_31 a1 a2 a3 M2
          )
        )
      )
    ))
theorem jn_X9_ahead_107 {d : Nat} {Q : Option Value → fm_M → Prop}  (l1 : Int32) (l2 : Int32) (l3 : Int32) (s0 : Int32) {x : Int32 × fm_M}  (hq : Q (some (.int x.1)) x.2) (M : fm_M) (h : J_X9_ahead_107 l1 l2 l3 s0 M = some x) : fm_mw (d + 7) mX9_ahead Q 107 [some (.ref 0), some (.int l1), some (.int l2), some (.int l3), none] [(.int s0)] M := by
  rw [J_X9_ahead_107] at h
  refine fl_istore4 (pc := 107) rfl (by decide) dX9_ahead_107 ?_
  refine fl_aload0 (pc := 109) dX9_ahead_109 ?_
  refine fm_getr (pc := 110) lk_9_32 sh_0 rfl dX9_ahead_110 ?_
  refine fl_aload0 (pc := 113) dX9_ahead_113 ?_
  obtain ⟨t9, et9, h⟩ := fm_ltp h
  obtain ⟨g10, h⟩ := fm_gdp h
  refine fm_getm (pc := 114) (fm_nn et9 g10) lk_9_21 sh_0 rfl dX9_ahead_114 ?_
  refine fm_cgr et9 ?_
  refine fl_iload4 (pc := 117) dX9_ahead_117 ?_
  obtain ⟨v11, M12, ev11, h⟩ := fm_bdp h
  refine fm_callV (pc := 119) mX7_verdicts [_, _] _ rfl cvX7_verdicts ml_9_248 sh_45 rfl rfl (Nat.le_of_ble_eq_true rfl) (Nat.le_of_ble_eq_true rfl) dX9_ahead_119 ?_
  refine sp_X7_verdicts ev11 ?_
  refine fm_ret1 ?_
  refine fl_aload0 (pc := 122) dX9_ahead_122 ?_
  refine fm_getr (pc := 123) lk_9_28 sh_0 rfl dX9_ahead_123 ?_
  refine fl_aload0 (pc := 126) dX9_ahead_126 ?_
  obtain ⟨t13, et13, h⟩ := fm_ltp h
  obtain ⟨g14, h⟩ := fm_gdp h
  refine fm_getm (pc := 127) (fm_nn et13 g14) lk_9_21 sh_0 rfl dX9_ahead_127 ?_
  refine fm_cgr et13 ?_
  refine fl_iload4 (pc := 130) dX9_ahead_130 ?_
  obtain ⟨v15, M16, ev15, h⟩ := fm_bdp h
  refine fm_callV (pc := 132) mX7_verdicts [_, _] _ rfl cvX7_verdicts ml_9_248 sh_38 rfl rfl (Nat.le_of_ble_eq_true rfl) (Nat.le_of_ble_eq_true rfl) dX9_ahead_132 ?_
  refine sp_X7_verdicts ev15 ?_
  refine fm_ret1 ?_
  refine fm_isub (pc := 135) dX9_ahead_135 ?_
  refine fm_iret (pc := 136) rfl ?_ dX9_ahead_136
  cases h
  exact hq
theorem jn_X9_ahead_31 {d : Nat} {Q : Option Value → fm_M → Prop}  (l1 : Int32) (l2 : Int32) (l3 : Int32) {x : Int32 × fm_M}  (hq : Q (some (.int x.1)) x.2) (M : fm_M) (h : J_X9_ahead_31 l1 l2 l3 M = some x) : fm_mw (d + 7) mX9_ahead Q 31 [some (.ref 0), some (.int l1), some (.int l2), some (.int l3), none] [] M := by
  rw [J_X9_ahead_31] at h
  refine fl_aload0 (pc := 31) dX9_ahead_31 ?_
  refine fm_getr (pc := 32) lk_9_32 sh_0 rfl dX9_ahead_32 ?_
  refine fl_aload0 (pc := 35) dX9_ahead_35 ?_
  refine fm_getr (pc := 36) lk_9_28 sh_0 rfl dX9_ahead_36 ?_
  obtain ⟨v3, M4, ev3, h⟩ := fm_bdp h
  refine fm_callV (pc := 39) mX7_copyFrom [_] _ rfl cvX7_copyFrom ml_9_240 sh_45 rfl rfl (Nat.le_of_ble_eq_true rfl) (Nat.le_of_ble_eq_true rfl) dX9_ahead_39 ?_
  refine sp_X7_copyFrom ev3 ?_
  refine fm_ret0 ?_
  refine fl_aload0 (pc := 42) dX9_ahead_42 ?_
  refine fm_getr (pc := 43) lk_9_32 sh_0 rfl dX9_ahead_43 ?_
  refine fl_aload0 (pc := 46) dX9_ahead_46 ?_
  obtain ⟨t5, et5, h⟩ := fm_ltp h
  obtain ⟨g6, h⟩ := fm_gdp h
  refine fm_getm (pc := 47) (fm_nn et5 g6) lk_9_21 sh_0 rfl dX9_ahead_47 ?_
  refine fm_cgr et5 ?_
  refine fl_iload1 (pc := 50) dX9_ahead_50 ?_
  obtain ⟨v7, M8, ev7, h⟩ := fm_bdp h
  refine fm_callV (pc := 51) mX7_passDays [_, _] _ rfl cvX7_passDays ml_9_236 sh_45 rfl rfl (Nat.le_of_ble_eq_true rfl) (Nat.le_of_ble_eq_true rfl) dX9_ahead_51 ?_
  refine sp_X7_passDays ev7 ?_
  refine fm_ret0 ?_
  refine fl_iload2 (pc := 54) dX9_ahead_54 ?_
  refine fm_iconstv (pc := 55) 3 (by decide) dX9_ahead_55 ?_
  refine fm_icmp_ne (pc := 56) 69 (by decide) dX9_ahead_56 (fun c56 => ?_) (fun c56 => ?_)
  · replace h := fm_itn c56 h
    refine fl_iload2 (pc := 69) dX9_ahead_69 ?_
    refine fm_iconstv (pc := 70) 2 (by decide) dX9_ahead_70 ?_
    refine fm_icmp_ne (pc := 71) 98 (by decide) dX9_ahead_71 (fun c71 => ?_) (fun c71 => ?_)
    · replace h := fm_itn c71 h
      refine fl_iload2 (pc := 98) dX9_ahead_98 ?_
      refine fm_if_ne (pc := 99) 106 (by decide) dX9_ahead_99 (fun c99 => ?_) (fun c99 => ?_)
      · replace h := fm_itn c99 h
        refine fm_iconstv (pc := 106) 0 (by decide) dX9_ahead_106 ?_
        exact jn_X9_ahead_107 _ _ _ _  hq _ h
      · replace h := fm_itp c99 h
        refine fm_iconstv (pc := 102) 1 (by decide) dX9_ahead_102 ?_
        refine fm_goto (pc := 103) 107 (by decide) dX9_ahead_103 ?_
        exact jn_X9_ahead_107 _ _ _ _  hq _ h
    · replace h := fm_itp c71 h
      refine fl_aload0 (pc := 74) dX9_ahead_74 ?_
      refine fm_getr (pc := 75) lk_9_32 sh_0 rfl dX9_ahead_75 ?_
      refine fl_aload0 (pc := 78) dX9_ahead_78 ?_
      obtain ⟨t17, et17, h⟩ := fm_ltp h
      obtain ⟨g18, h⟩ := fm_gdp h
      refine fm_getm (pc := 79) (fm_nn et17 g18) lk_9_21 sh_0 rfl dX9_ahead_79 ?_
      refine fm_cgr et17 ?_
      obtain ⟨v19, M20, ev19, h⟩ := fm_bdp h
      refine fm_callV (pc := 82) mX7_heardInSum [_] _ rfl cvX7_heardInSum ml_9_244 sh_45 rfl rfl (Nat.le_of_ble_eq_true rfl) (Nat.le_of_ble_eq_true rfl) dX9_ahead_82 ?_
      refine sp_X7_heardInSum ev19 ?_
      refine fm_ret1 ?_
      refine fl_aload0 (pc := 85) dX9_ahead_85 ?_
      refine fm_getr (pc := 86) lk_9_28 sh_0 rfl dX9_ahead_86 ?_
      refine fl_aload0 (pc := 89) dX9_ahead_89 ?_
      obtain ⟨t21, et21, h⟩ := fm_ltp h
      obtain ⟨g22, h⟩ := fm_gdp h
      refine fm_getm (pc := 90) (fm_nn et21 g22) lk_9_21 sh_0 rfl dX9_ahead_90 ?_
      refine fm_cgr et21 ?_
      obtain ⟨v23, M24, ev23, h⟩ := fm_bdp h
      refine fm_callV (pc := 93) mX7_heardInSum [_] _ rfl cvX7_heardInSum ml_9_244 sh_38 rfl rfl (Nat.le_of_ble_eq_true rfl) (Nat.le_of_ble_eq_true rfl) dX9_ahead_93 ?_
      refine sp_X7_heardInSum ev23 ?_
      refine fm_ret1 ?_
      refine fm_isub (pc := 96) dX9_ahead_96 ?_
      refine fm_iret (pc := 97) rfl ?_ dX9_ahead_97
      cases h
      exact hq
  · replace h := fm_itp c56 h
    refine fl_aload0 (pc := 59) dX9_ahead_59 ?_
    refine fm_getr (pc := 60) lk_9_32 sh_0 rfl dX9_ahead_60 ?_
    refine fm_getr (pc := 63) lk_9_153 sh_45 rfl dX9_ahead_63 ?_
    refine fl_iload3 (pc := 66) dX9_ahead_66 ?_
    obtain ⟨g25, h⟩ := fm_gdp h
    refine fm_iald (pc := 67) sh_46 (fm_inb_ok g25) dX9_ahead_67 ?_
    refine fm_iret (pc := 68) rfl ?_ dX9_ahead_68
    cases h
    exact hq
theorem sp_X9_ahead {d : Nat} {a1 : Int32} {a2 : Int32} {a3 : Int32} {M : fm_M} {x : Int32 × fm_M} {Q : Option Value → fm_M → Prop} (h : F_X9_ahead a1 a2 a3 M = some x) (hq : Q (some (.int x.1)) x.2) : fm_ct (d + 7) mX9_ahead [.ref 0, .int a1, .int a2, .int a3] M Q := by
  rw [F_X9_ahead] at h
  show fm_mw (d + 7) mX9_ahead Q 0 [some (.ref 0), some (.int a1), some (.int a2), some (.int a3), none] [] M
  refine fl_iload1 (pc := 0) dX9_ahead_0 ?_
  obtain ⟨v1, M2, ev1, h⟩ := fm_bdp h
  refine fm_callS (pc := 1) mX9_isSpan [_] _ rfl csX9_isSpan ml_9_233 rfl (Nat.le_of_ble_eq_true rfl) (Nat.le_of_ble_eq_true rfl) dX9_ahead_1 ?_
  refine sp_X9_isSpan ev1 ?_
  refine fm_ret1 ?_
  refine fm_if_eq (pc := 4) 29 (by decide) dX9_ahead_4 (fun c4 => ?_) (fun c4 => ?_)
  · replace h := fm_itp c4 h
    refine fm_iconstv (pc := 29) (-1) (by decide) dX9_ahead_29 ?_
    refine fm_iret (pc := 30) rfl ?_ dX9_ahead_30
    cases h
    exact hq
  · replace h := fm_itn c4 h
    refine fl_iload2 (pc := 7) dX9_ahead_7 ?_
    refine fm_if_lt (pc := 8) 29 (by decide) dX9_ahead_8 (fun c8 => ?_) (fun c8 => ?_)
    · replace h := fm_itp c8 h
      refine fm_iconstv (pc := 29) (-1) (by decide) dX9_ahead_29 ?_
      refine fm_iret (pc := 30) rfl ?_ dX9_ahead_30
      cases h
      exact hq
    · replace h := fm_itn c8 h
      refine fl_iload2 (pc := 11) dX9_ahead_11 ?_
      refine fm_iconstv (pc := 12) 3 (by decide) dX9_ahead_12 ?_
      refine fm_icmp_gt (pc := 13) 29 (by decide) dX9_ahead_13 (fun c13 => ?_) (fun c13 => ?_)
      · replace h := fm_itp c13 h
        refine fm_iconstv (pc := 29) (-1) (by decide) dX9_ahead_29 ?_
        refine fm_iret (pc := 30) rfl ?_ dX9_ahead_30
        cases h
        exact hq
      · replace h := fm_itn c13 h
        refine fl_iload2 (pc := 16) dX9_ahead_16 ?_
        refine fm_iconstv (pc := 17) 3 (by decide) dX9_ahead_17 ?_
        refine fm_icmp_ne (pc := 18) 31 (by decide) dX9_ahead_18 (fun c18 => ?_) (fun c18 => ?_)
        · replace h := fm_itn c18 h
          exact jn_X9_ahead_31 _ _ _  hq _ h
        · replace h := fm_itp c18 h
          refine fl_aload0 (pc := 21) dX9_ahead_21 ?_
          refine fl_iload3 (pc := 22) dX9_ahead_22 ?_
          obtain ⟨v26, M27, ev26, h⟩ := fm_bdp h
          refine fm_callV (pc := 23) mX9_isFork [_] _ rfl cvX9_isFork ml_9_150 sh_0 rfl rfl (Nat.le_of_ble_eq_true rfl) (Nat.le_of_ble_eq_true rfl) dX9_ahead_23 ?_
          refine sp_X9_isFork ev26 ?_
          refine fm_ret1 ?_
          refine fm_if_ne (pc := 26) 31 (by decide) dX9_ahead_26 (fun c26 => ?_) (fun c26 => ?_)
          · replace h := fm_itn c26 h
            exact jn_X9_ahead_31 _ _ _  hq _ h
          · replace h := fm_itp c26 h
            refine fm_iconstv (pc := 29) (-1) (by decide) dX9_ahead_29 ?_
            refine fm_iret (pc := 30) rfl ?_ dX9_ahead_30
            cases h
            exact hq
/-! X9_best -/
def G_X9_best_20 : Nat → Int32 → Int32 → Int32 → Int32 → fm_M → Option ((Int32 × Int32 × Int32) × fm_M)
  | 0, _, _, _, _, _ => none
  | n + 1, l1, l2, l3, l4, M =>
    if 999 < l4 then (
      some ((l2, l3, l4), M)
    ) else (
      fm_lt (Int32.toNatClampNeg (M.1 0 1)) (fun t1 =>
      fm_gd (fm_isTd t1) (
      fm_bd (F_X7_humOfAll 38 t1 l4 M) (fun v3 M4 =>
      if v3 ≤ l3 then (
        G_X9_best_20 n l1 l2 l3 (l4 + 1) M4
      ) else (
        G_X9_best_20 n l1 l4 v3 (l4 + 1) M4
      ))))
    )
def J_X9_best_11 (l1 : Int32) (M : fm_M) : Option (Int32 × fm_M) :=
    fm_bd (G_X9_best_20 fm_fuel l1 100 (-1) 100 M) (fun w5 M6 =>
      if l1 = 0 then (
        some (w5.1, M6)
      ) else (
        some (w5.2.1, M6)
      ))
def F_X9_best (a1 : Int32) (M : fm_M) : Option (Int32 × fm_M) :=
    if a1 = 0 then (
      J_X9_best_11 a1 M
    ) else (
      if a1 = 1 then (
        J_X9_best_11 a1 M
      ) else (
        some ((-1), M)
      )
    )
theorem lp_X9_best_20 {d : Nat} {Q : Option Value → fm_M → Prop} {l1 : Int32}   {x : (Int32 × Int32 × Int32) × fm_M} (k1 : ∀ (v : Int32 × Int32 × Int32) (M2 : fm_M), x = (v, M2) → fm_mw (d + 5) mX9_best Q 61 [some (.ref 0), some (.int l1), some (.int v.1), some (.int v.2.1), some (.int v.2.2), none] [] M2) : ∀ (n : Nat) (l2 : Int32) (l3 : Int32) (l4 : Int32) (M : fm_M), G_X9_best_20 n l1 l2 l3 l4 M = some x → fm_mw (d + 5) mX9_best Q 20 [some (.ref 0), some (.int l1), some (.int l2), some (.int l3), some (.int l4), none] [] M := by
  intro n
  induction n with
  | zero => intro l2 l3 l4 M h; simp [G_X9_best_20] at h
  | succ n ih =>
    intro l2 l3 l4 M h
    rw [G_X9_best_20] at h
    refine fl_iload4 (pc := 20) dX9_best_20 ?_
    refine fm_sipushv (pc := 22) 999 (by decide) dX9_best_22 ?_
    refine fm_icmp_gt (pc := 25) 61 (by decide) dX9_best_25 (fun c25 => ?_) (fun c25 => ?_)
    · replace h := fm_itp c25 h
      refine fm_fgt [some (.ref 0), some (.int l1), some (.int l2), some (.int l3), some (.int l4), none] (by simp [fm_sub]) ?_
      cases h
      exact k1 _ _ rfl
    · replace h := fm_itn c25 h
      refine fl_aload0 (pc := 28) dX9_best_28 ?_
      refine fm_getr (pc := 29) lk_9_28 sh_0 rfl dX9_best_29 ?_
      refine fl_aload0 (pc := 32) dX9_best_32 ?_
      obtain ⟨t1, et1, h⟩ := fm_ltp h
      obtain ⟨g2, h⟩ := fm_gdp h
      refine fm_getm (pc := 33) (fm_nn et1 g2) lk_9_21 sh_0 rfl dX9_best_33 ?_
      refine fm_cgr et1 ?_
      refine fl_iload4 (pc := 36) dX9_best_36 ?_
      obtain ⟨v3, M4, ev3, h⟩ := fm_bdp h
      refine fm_callV (pc := 38) mX7_humOfAll [_, _] _ rfl cvX7_humOfAll ml_9_188 sh_38 rfl rfl (Nat.le_of_ble_eq_true rfl) (Nat.le_of_ble_eq_true rfl) dX9_best_38 ?_
      refine sp_X7_humOfAll ev3 ?_
      refine fm_ret1 ?_
      refine fl_istore5 (pc := 41) rfl (by decide) dX9_best_41 ?_
      refine fl_iload5 (pc := 43) dX9_best_43 ?_
      refine fl_iload3 (pc := 45) dX9_best_45 ?_
      refine fm_icmp_le (pc := 46) 55 (by decide) dX9_best_46 (fun c46 => ?_) (fun c46 => ?_)
      · replace h := fm_itp c46 h
        refine fl_iinc4 (pc := 55) rfl 1 (by decide) (by decide) dX9_best_55 ?_
        refine fm_goto (pc := 58) 20 (by decide) dX9_best_58 ?_
        refine fm_fgt [some (.ref 0), some (.int l1), some (.int l2), some (.int l3), some (.int (l4 + 1)), none] (by simp [fm_sub]) ?_
        exact ih _ _ _ _ h
      · replace h := fm_itn c46 h
        refine fl_iload5 (pc := 49) dX9_best_49 ?_
        refine fl_istore3 (pc := 51) rfl (by decide) dX9_best_51 ?_
        refine fl_iload4 (pc := 52) dX9_best_52 ?_
        refine fl_istore2 (pc := 54) rfl (by decide) dX9_best_54 ?_
        refine fl_iinc4 (pc := 55) rfl 1 (by decide) (by decide) dX9_best_55 ?_
        refine fm_goto (pc := 58) 20 (by decide) dX9_best_58 ?_
        refine fm_fgt [some (.ref 0), some (.int l1), some (.int l4), some (.int v3), some (.int (l4 + 1)), none] (by simp [fm_sub]) ?_
        exact ih _ _ _ _ h
theorem jn_X9_best_11 {d : Nat} {Q : Option Value → fm_M → Prop}  (l1 : Int32) {x : Int32 × fm_M}  (hq : Q (some (.int x.1)) x.2) (M : fm_M) (h : J_X9_best_11 l1 M = some x) : fm_mw (d + 5) mX9_best Q 11 [some (.ref 0), some (.int l1), none, none, none, none] [] M := by
  rw [J_X9_best_11] at h
  refine fm_bipushv (pc := 11) 100 (by decide) dX9_best_11 ?_
  refine fl_istore2 (pc := 13) rfl (by decide) dX9_best_13 ?_
  refine fm_iconstv (pc := 14) (-1) (by decide) dX9_best_14 ?_
  refine fl_istore3 (pc := 15) rfl (by decide) dX9_best_15 ?_
  refine fm_bipushv (pc := 16) 100 (by decide) dX9_best_16 ?_
  refine fl_istore4 (pc := 18) rfl (by decide) dX9_best_18 ?_
  obtain ⟨w5, M6, ew5, h⟩ := fm_bdp h
  refine lp_X9_best_20  ?_ _ _ _ _ _ ew5
  intro w59 M69 q9
  cases q9
  refine fl_iload1 (pc := 61) dX9_best_61 ?_
  refine fm_if_ne (pc := 62) 69 (by decide) dX9_best_62 (fun c62 => ?_) (fun c62 => ?_)
  · replace h := fm_itn c62 h
    refine fl_iload3 (pc := 69) dX9_best_69 ?_
    refine fm_iret (pc := 70) rfl ?_ dX9_best_70
    cases h
    exact hq
  · replace h := fm_itp c62 h
    refine fl_iload2 (pc := 65) dX9_best_65 ?_
    refine fm_goto (pc := 66) 70 (by decide) dX9_best_66 ?_
    refine fm_iret (pc := 70) rfl ?_ dX9_best_70
    cases h
    exact hq
theorem sp_X9_best {d : Nat} {a1 : Int32} {M : fm_M} {x : Int32 × fm_M} {Q : Option Value → fm_M → Prop} (h : F_X9_best a1 M = some x) (hq : Q (some (.int x.1)) x.2) : fm_ct (d + 5) mX9_best [.ref 0, .int a1] M Q := by
  rw [F_X9_best] at h
  show fm_mw (d + 5) mX9_best Q 0 [some (.ref 0), some (.int a1), none, none, none, none] [] M
  refine fl_iload1 (pc := 0) dX9_best_0 ?_
  refine fm_if_eq (pc := 1) 11 (by decide) dX9_best_1 (fun c1 => ?_) (fun c1 => ?_)
  · replace h := fm_itp c1 h
    exact jn_X9_best_11 _  hq _ h
  · replace h := fm_itn c1 h
    refine fl_iload1 (pc := 4) dX9_best_4 ?_
    refine fm_iconstv (pc := 5) 1 (by decide) dX9_best_5 ?_
    refine fm_icmp_eq (pc := 6) 11 (by decide) dX9_best_6 (fun c6 => ?_) (fun c6 => ?_)
    · replace h := fm_itp c6 h
      exact jn_X9_best_11 _  hq _ h
    · replace h := fm_itn c6 h
      refine fm_iconstv (pc := 9) (-1) (by decide) dX9_best_9 ?_
      refine fm_iret (pc := 10) rfl ?_ dX9_best_10
      cases h
      exact hq
/-! X9_open -/
def G_X9_open_5 : Nat → Int32 → Int32 → fm_M → Option ((Int32 × Int32) × fm_M)
  | 0, _, _, _ => none
  | n + 1, l1, l2, M =>
    if 999 < l2 then (
      some ((l1, l2), M)
    ) else (
      fm_lt (Int32.toNatClampNeg (M.1 0 1)) (fun t1 =>
      fm_gd (fm_isTd t1) (
      fm_bd (F_X7_carries 38 t1 l2 M) (fun v3 M4 =>
      if v3 = 0 then (
        G_X9_open_5 n l1 (l2 + 1) M4
      ) else (
        G_X9_open_5 n (l1 + 1) (l2 + 1) M4
      ))))
    )
def F_X9_open  (M : fm_M) : Option (Int32 × fm_M) :=
    fm_bd (G_X9_open_5 fm_fuel 0 100 M) (fun w5 M6 =>
      some (w5.1, M6))
theorem lp_X9_open_5 {d : Nat} {Q : Option Value → fm_M → Prop}    {x : (Int32 × Int32) × fm_M} (k1 : ∀ (v : Int32 × Int32) (M2 : fm_M), x = (v, M2) → fm_mw (d + 6) mX9_open Q 36 [some (.ref 0), some (.int v.1), some (.int v.2)] [] M2) : ∀ (n : Nat) (l1 : Int32) (l2 : Int32) (M : fm_M), G_X9_open_5 n l1 l2 M = some x → fm_mw (d + 6) mX9_open Q 5 [some (.ref 0), some (.int l1), some (.int l2)] [] M := by
  intro n
  induction n with
  | zero => intro l1 l2 M h; simp [G_X9_open_5] at h
  | succ n ih =>
    intro l1 l2 M h
    rw [G_X9_open_5] at h
    refine fl_iload2 (pc := 5) dX9_open_5 ?_
    refine fm_sipushv (pc := 6) 999 (by decide) dX9_open_6 ?_
    refine fm_icmp_gt (pc := 9) 36 (by decide) dX9_open_9 (fun c9 => ?_) (fun c9 => ?_)
    · replace h := fm_itp c9 h
      refine fm_fgt [some (.ref 0), some (.int l1), some (.int l2)] (by simp [fm_sub]) ?_
      cases h
      exact k1 _ _ rfl
    · replace h := fm_itn c9 h
      refine fl_aload0 (pc := 12) dX9_open_12 ?_
      refine fm_getr (pc := 13) lk_9_28 sh_0 rfl dX9_open_13 ?_
      refine fl_aload0 (pc := 16) dX9_open_16 ?_
      obtain ⟨t1, et1, h⟩ := fm_ltp h
      obtain ⟨g2, h⟩ := fm_gdp h
      refine fm_getm (pc := 17) (fm_nn et1 g2) lk_9_21 sh_0 rfl dX9_open_17 ?_
      refine fm_cgr et1 ?_
      refine fl_iload2 (pc := 20) dX9_open_20 ?_
      obtain ⟨v3, M4, ev3, h⟩ := fm_bdp h
      refine fm_callV (pc := 21) mX7_carries [_, _] _ rfl cvX7_carries ml_9_192 sh_38 rfl rfl (Nat.le_of_ble_eq_true rfl) (Nat.le_of_ble_eq_true rfl) dX9_open_21 ?_
      refine sp_X7_carries ev3 ?_
      refine fm_ret1 ?_
      refine fm_if_eq (pc := 24) 30 (by decide) dX9_open_24 (fun c24 => ?_) (fun c24 => ?_)
      · replace h := fm_itp c24 h
        refine fl_iinc2 (pc := 30) rfl 1 (by decide) (by decide) dX9_open_30 ?_
        refine fm_goto (pc := 33) 5 (by decide) dX9_open_33 ?_
        refine fm_fgt [some (.ref 0), some (.int l1), some (.int (l2 + 1))] (by simp [fm_sub]) ?_
        exact ih _ _ _ h
      · replace h := fm_itn c24 h
        refine fl_iinc1 (pc := 27) rfl 1 (by decide) (by decide) dX9_open_27 ?_
        refine fl_iinc2 (pc := 30) rfl 1 (by decide) (by decide) dX9_open_30 ?_
        refine fm_goto (pc := 33) 5 (by decide) dX9_open_33 ?_
        refine fm_fgt [some (.ref 0), some (.int (l1 + 1)), some (.int (l2 + 1))] (by simp [fm_sub]) ?_
        exact ih _ _ _ h
theorem sp_X9_open {d : Nat}  {M : fm_M} {x : Int32 × fm_M} {Q : Option Value → fm_M → Prop} (h : F_X9_open  M = some x) (hq : Q (some (.int x.1)) x.2) : fm_ct (d + 6) mX9_open [.ref 0] M Q := by
  rw [F_X9_open] at h
  show fm_mw (d + 6) mX9_open Q 0 [some (.ref 0), none, none] [] M
  refine fm_iconstv (pc := 0) 0 (by decide) dX9_open_0 ?_
  refine fl_istore1 (pc := 1) rfl (by decide) dX9_open_1 ?_
  refine fm_bipushv (pc := 2) 100 (by decide) dX9_open_2 ?_
  refine fl_istore2 (pc := 4) rfl (by decide) dX9_open_4 ?_
  obtain ⟨w5, M6, ew5, h⟩ := fm_bdp h
  refine lp_X9_open_5  ?_ _ _ _ _ ew5
  intro w59 M69 q9
  cases q9
  refine fl_iload1 (pc := 36) dX9_open_36 ?_
  refine fm_iret (pc := 37) rfl ?_ dX9_open_37
  cases h
  exact hq
/-! X9_bribe -/
def J_X9_bribe_38 (l1 : Int32) (l2 : Int32) (M : fm_M) : Option (Int32 × fm_M) :=
    fm_bd (F_X7_copyFrom 45 38 M) (fun v3 M4 =>
    fm_lt (Int32.toNatClampNeg (M4.1 0 1)) (fun t5 =>
    fm_gd (fm_isTd t5) (
    fm_bd (F_X0_seek t5 45 l1 M4) (fun v7 M8 =>
    if (M8.1 66 5) = (-1) then (
      some ((-8), M8)
    ) else (
      if l2 = 4 then (
        some ((M8.1 66 5), M8)
      ) else (
        fm_bd (F_X0_filingOf l2 M8) (fun v9 M10 =>
        some (v9, M10))
      )
    )))))
def F_X9_bribe (a1 : Int32) (a2 : Int32) (M : fm_M) : Option (Int32 × fm_M) :=
    fm_bd (F_X9_isNote a1 M) (fun v1 M2 =>
    if v1 = 0 then (
      some ((-2147483648), M2)
    ) else (
      if a2 < 0 then (
        some ((-2147483648), M2)
      ) else (
        if a2 ≤ 4 then (
          if 4 ≤ a2 then (
            J_X9_bribe_38 a1 a2 M2
          ) else (
            fm_lt (Int32.toNatClampNeg (M2.1 0 1)) (fun t11 =>
            fm_gd (fm_isTd t11) (
            if a2 < (M2.1 t11 0) then (
              J_X9_bribe_38 a1 a2 M2
            ) else (
              some ((-9), M2)
            )))
          )
        ) else (
          some ((-2147483648), M2)
        )
      )
    ))
theorem jn_X9_bribe_38 {d : Nat} {Q : Option Value → fm_M → Prop}  (l1 : Int32) (l2 : Int32) {x : Int32 × fm_M}  (hq : Q (some (.int x.1)) x.2) (M : fm_M) (h : J_X9_bribe_38 l1 l2 M = some x) : fm_mw (d + 6) mX9_bribe Q 38 [some (.ref 0), some (.int l1), some (.int l2)] [] M := by
  rw [J_X9_bribe_38] at h
  refine fl_aload0 (pc := 38) dX9_bribe_38 ?_
  refine fm_getr (pc := 39) lk_9_32 sh_0 rfl dX9_bribe_39 ?_
  refine fl_aload0 (pc := 42) dX9_bribe_42 ?_
  refine fm_getr (pc := 43) lk_9_28 sh_0 rfl dX9_bribe_43 ?_
  obtain ⟨v3, M4, ev3, h⟩ := fm_bdp h
  refine fm_callV (pc := 46) mX7_copyFrom [_] _ rfl cvX7_copyFrom ml_9_240 sh_45 rfl rfl (Nat.le_of_ble_eq_true rfl) (Nat.le_of_ble_eq_true rfl) dX9_bribe_46 ?_
  refine sp_X7_copyFrom ev3 ?_
  refine fm_ret0 ?_
  refine fl_aload0 (pc := 49) dX9_bribe_49 ?_
  refine fm_getr (pc := 50) lk_9_55 sh_0 rfl dX9_bribe_50 ?_
  refine fl_aload0 (pc := 53) dX9_bribe_53 ?_
  obtain ⟨t5, et5, h⟩ := fm_ltp h
  obtain ⟨g6, h⟩ := fm_gdp h
  refine fm_getm (pc := 54) (fm_nn et5 g6) lk_9_21 sh_0 rfl dX9_bribe_54 ?_
  refine fm_cgr et5 ?_
  refine fl_aload0 (pc := 57) dX9_bribe_57 ?_
  refine fm_getr (pc := 58) lk_9_32 sh_0 rfl dX9_bribe_58 ?_
  refine fl_iload1 (pc := 61) dX9_bribe_61 ?_
  obtain ⟨v7, M8, ev7, h⟩ := fm_bdp h
  refine fm_callV (pc := 62) mX0_seek [_, _, _] _ rfl cvX0_seek ml_9_257 sh_66 rfl rfl (Nat.le_of_ble_eq_true rfl) (Nat.le_of_ble_eq_true rfl) dX9_bribe_62 ?_
  refine sp_X0_seek ev7 ?_
  refine fm_ret0 ?_
  refine fl_aload0 (pc := 65) dX9_bribe_65 ?_
  refine fm_getr (pc := 66) lk_9_55 sh_0 rfl dX9_bribe_66 ?_
  refine fm_geti (pc := 69) lk_9_261 sh_66 rfl dX9_bribe_69 ?_
  refine fm_iconstv (pc := 72) (-1) (by decide) dX9_bribe_72 ?_
  refine fm_icmp_ne (pc := 73) 79 (by decide) dX9_bribe_73 (fun c73 => ?_) (fun c73 => ?_)
  · replace h := fm_itn c73 h
    refine fl_iload2 (pc := 79) dX9_bribe_79 ?_
    refine fm_iconstv (pc := 80) 4 (by decide) dX9_bribe_80 ?_
    refine fm_icmp_ne (pc := 81) 94 (by decide) dX9_bribe_81 (fun c81 => ?_) (fun c81 => ?_)
    · replace h := fm_itn c81 h
      refine fl_aload0 (pc := 94) dX9_bribe_94 ?_
      refine fm_getr (pc := 95) lk_9_55 sh_0 rfl dX9_bribe_95 ?_
      refine fl_iload2 (pc := 98) dX9_bribe_98 ?_
      obtain ⟨v9, M10, ev9, h⟩ := fm_bdp h
      refine fm_callV (pc := 99) mX0_filingOf [_] _ rfl cvX0_filingOf ml_9_264 sh_66 rfl rfl (Nat.le_of_ble_eq_true rfl) (Nat.le_of_ble_eq_true rfl) dX9_bribe_99 ?_
      refine sp_X0_filingOf ev9 ?_
      refine fm_ret1 ?_
      refine fm_iret (pc := 102) rfl ?_ dX9_bribe_102
      cases h
      exact hq
    · replace h := fm_itp c81 h
      refine fl_aload0 (pc := 84) dX9_bribe_84 ?_
      refine fm_getr (pc := 85) lk_9_55 sh_0 rfl dX9_bribe_85 ?_
      refine fm_geti (pc := 88) lk_9_261 sh_66 rfl dX9_bribe_88 ?_
      refine fm_goto (pc := 91) 102 (by decide) dX9_bribe_91 ?_
      refine fm_iret (pc := 102) rfl ?_ dX9_bribe_102
      cases h
      exact hq
  · replace h := fm_itp c73 h
    refine fm_bipushv (pc := 76) (-8) (by decide) dX9_bribe_76 ?_
    refine fm_iret (pc := 78) rfl ?_ dX9_bribe_78
    cases h
    exact hq
theorem sp_X9_bribe {d : Nat} {a1 : Int32} {a2 : Int32} {M : fm_M} {x : Int32 × fm_M} {Q : Option Value → fm_M → Prop} (h : F_X9_bribe a1 a2 M = some x) (hq : Q (some (.int x.1)) x.2) : fm_ct (d + 6) mX9_bribe [.ref 0, .int a1, .int a2] M Q := by
  rw [F_X9_bribe] at h
  show fm_mw (d + 6) mX9_bribe Q 0 [some (.ref 0), some (.int a1), some (.int a2)] [] M
  refine fl_iload1 (pc := 0) dX9_bribe_0 ?_
  obtain ⟨v1, M2, ev1, h⟩ := fm_bdp h
  refine fm_callS (pc := 1) mX9_isNote [_] _ rfl csX9_isNote ml_9_178 rfl (Nat.le_of_ble_eq_true rfl) (Nat.le_of_ble_eq_true rfl) dX9_bribe_1 ?_
  refine sp_X9_isNote ev1 ?_
  refine fm_ret1 ?_
  refine fm_if_eq (pc := 4) 16 (by decide) dX9_bribe_4 (fun c4 => ?_) (fun c4 => ?_)
  · replace h := fm_itp c4 h
    refine fm_ldc (pc := 16) kc_9_253 dX9_bribe_16 ?_
    refine fm_iret (pc := 18) rfl ?_ dX9_bribe_18
    cases h
    exact hq
  · replace h := fm_itn c4 h
    refine fl_iload2 (pc := 7) dX9_bribe_7 ?_
    refine fm_if_lt (pc := 8) 16 (by decide) dX9_bribe_8 (fun c8 => ?_) (fun c8 => ?_)
    · replace h := fm_itp c8 h
      refine fm_ldc (pc := 16) kc_9_253 dX9_bribe_16 ?_
      refine fm_iret (pc := 18) rfl ?_ dX9_bribe_18
      cases h
      exact hq
    · replace h := fm_itn c8 h
      refine fl_iload2 (pc := 11) dX9_bribe_11 ?_
      refine fm_iconstv (pc := 12) 4 (by decide) dX9_bribe_12 ?_
      refine fm_icmp_le (pc := 13) 19 (by decide) dX9_bribe_13 (fun c13 => ?_) (fun c13 => ?_)
      · replace h := fm_itp c13 h
        refine fl_iload2 (pc := 19) dX9_bribe_19 ?_
        refine fm_iconstv (pc := 20) 4 (by decide) dX9_bribe_20 ?_
        refine fm_icmp_ge (pc := 21) 38 (by decide) dX9_bribe_21 (fun c21 => ?_) (fun c21 => ?_)
        · replace h := fm_itp c21 h
          exact jn_X9_bribe_38 _ _  hq _ h
        · replace h := fm_itn c21 h
          refine fl_iload2 (pc := 24) dX9_bribe_24 ?_
          refine fl_aload0 (pc := 25) dX9_bribe_25 ?_
          obtain ⟨t11, et11, h⟩ := fm_ltp h
          obtain ⟨g12, h⟩ := fm_gdp h
          refine fm_getm (pc := 26) (fm_nn et11 g12) lk_9_21 sh_0 rfl dX9_bribe_26 ?_
          refine fm_cgr et11 ?_
          refine fm_geti (pc := 29) lk_9_254 (shTd0 g12) rfl dX9_bribe_29 ?_
          refine fm_icmp_lt (pc := 32) 38 (by decide) dX9_bribe_32 (fun c32 => ?_) (fun c32 => ?_)
          · replace h := fm_itp c32 h
            exact jn_X9_bribe_38 _ _  hq _ h
          · replace h := fm_itn c32 h
            refine fm_bipushv (pc := 35) (-9) (by decide) dX9_bribe_35 ?_
            refine fm_iret (pc := 37) rfl ?_ dX9_bribe_37
            cases h
            exact hq
      · replace h := fm_itn c13 h
        refine fm_ldc (pc := 16) kc_9_253 dX9_bribe_16 ?_
        refine fm_iret (pc := 18) rfl ?_ dX9_bribe_18
        cases h
        exact hq
/-! X9_swing -/
def G_X9_swing_49 : Nat → Int32 → Int32 → Int32 → Int32 → Int32 → fm_M → Option ((Int32 × Int32) × fm_M)
  | 0, _, _, _, _, _, _ => none
  | n + 1, l1, l2, l3, l4, l5, M =>
    fm_lt (Int32.toNatClampNeg (M.1 0 1)) (fun t13 =>
    fm_gd (fm_isTd t13) (
    if (1 <<< ((M.1 t13 0) &&& 31)) ≤ l5 then (
      some ((l4, l5), M)
    ) else (
      fm_bd (F_X9_bitOf l5 l1 M) (fun v15 M16 =>
      if v15 = 0 then (
        fm_lt (Int32.toNatClampNeg (M16.1 0 1)) (fun t17 =>
        fm_gd (fm_isTd t17) (
        fm_bd (F_X7_listenedTo 38 l5 (M16.1 t17 0) M16) (fun v19 M20 =>
        fm_lt (Int32.toNatClampNeg (M20.1 0 1)) (fun t21 =>
        fm_gd (fm_isTd t21) (
        if (M20.1 t21 13) ≤ v19 then (
          G_X9_swing_49 n l1 l2 l3 l4 (l5 + 1) M20
        ) else (
          fm_lt (Int32.toNatClampNeg (M20.1 0 1)) (fun t23 =>
          fm_gd (fm_isTd t23) (
          if (v19 + l3) < (M20.1 t23 13) then (
            G_X9_swing_49 n l1 l2 l3 l4 (l5 + 1) M20
          ) else (
            G_X9_swing_49 n l1 l2 l3 (l4 + 1) (l5 + 1) M20
          )))
        ))))))
      ) else (
        G_X9_swing_49 n l1 l2 l3 l4 (l5 + 1) M16
      ))
    )))
def F_X9_swing (a1 : Int32) (a2 : Int32) (M : fm_M) : Option (Int32 × fm_M) :=
    fm_bd (F_X9_isFork a1 M) (fun v1 M2 =>
    if v1 = 0 then (
      some ((-1), M2)
    ) else (
      fm_bd (F_X9_isNote a2 M2) (fun v3 M4 =>
      if v3 = 0 then (
        some ((-1), M4)
      ) else (
        fm_lt (Int32.toNatClampNeg (M4.1 0 1)) (fun t5 =>
        fm_gd (fm_isTd t5) (
        fm_bd (F_X7_humOf 38 t5 a1 a2 M4) (fun v7 M8 =>
        fm_lt (Int32.toNatClampNeg (M8.1 0 1)) (fun t9 =>
        fm_gd (fm_isTd t9) (
        fm_bd (F_X7_listen 38 t9 a2 M8) (fun v11 M12 =>
        fm_bd (G_X9_swing_49 fm_fuel a1 a2 v7 0 0 M12) (fun w25 M26 =>
          some (w25.1, M26))))))))
      ))
    ))
theorem lp_X9_swing_49 {d : Nat} {Q : Option Value → fm_M → Prop} {l1 : Int32} {l2 : Int32} {l3 : Int32}   {x : (Int32 × Int32) × fm_M} (k1 : ∀ (v : Int32 × Int32) (M2 : fm_M), x = (v, M2) → fm_mw (d + 5) mX9_swing Q 125 [some (.ref 0), some (.int l1), some (.int l2), some (.int l3), some (.int v.1), some (.int v.2), none] [] M2) : ∀ (n : Nat) (l4 : Int32) (l5 : Int32) (M : fm_M), G_X9_swing_49 n l1 l2 l3 l4 l5 M = some x → fm_mw (d + 5) mX9_swing Q 49 [some (.ref 0), some (.int l1), some (.int l2), some (.int l3), some (.int l4), some (.int l5), none] [] M := by
  intro n
  induction n with
  | zero => intro l4 l5 M h; simp [G_X9_swing_49] at h
  | succ n ih =>
    intro l4 l5 M h
    rw [G_X9_swing_49] at h
    refine fl_iload5 (pc := 49) dX9_swing_49 ?_
    refine fm_iconstv (pc := 51) 1 (by decide) dX9_swing_51 ?_
    refine fl_aload0 (pc := 52) dX9_swing_52 ?_
    obtain ⟨t13, et13, h⟩ := fm_ltp h
    obtain ⟨g14, h⟩ := fm_gdp h
    refine fm_getm (pc := 53) (fm_nn et13 g14) lk_9_21 sh_0 rfl dX9_swing_53 ?_
    refine fm_cgr et13 ?_
    refine fm_geti (pc := 56) lk_9_254 (shTd0 g14) rfl dX9_swing_56 ?_
    refine fm_ishl (pc := 59) dX9_swing_59 ?_
    refine fm_icmp_ge (pc := 60) 125 (by decide) dX9_swing_60 (fun c60 => ?_) (fun c60 => ?_)
    · replace h := fm_itp c60 h
      refine fm_fgt [some (.ref 0), some (.int l1), some (.int l2), some (.int l3), some (.int l4), some (.int l5), none] (by simp [fm_sub]) ?_
      cases h
      exact k1 _ _ rfl
    · replace h := fm_itn c60 h
      refine fl_iload5 (pc := 63) dX9_swing_63 ?_
      refine fl_iload1 (pc := 65) dX9_swing_65 ?_
      obtain ⟨v15, M16, ev15, h⟩ := fm_bdp h
      refine fm_callS (pc := 66) mX9_bitOf [_, _] _ rfl csX9_bitOf ml_9_168 rfl (Nat.le_of_ble_eq_true rfl) (Nat.le_of_ble_eq_true rfl) dX9_swing_66 ?_
      refine sp_X9_bitOf ev15 ?_
      refine fm_ret1 ?_
      refine fm_if_ne (pc := 69) 119 (by decide) dX9_swing_69 (fun c69 => ?_) (fun c69 => ?_)
      · replace h := fm_itn c69 h
        refine fl_iinc5 (pc := 119) rfl 1 (by decide) (by decide) dX9_swing_119 ?_
        refine fm_goto (pc := 122) 49 (by decide) dX9_swing_122 ?_
        refine fm_fgt [some (.ref 0), some (.int l1), some (.int l2), some (.int l3), some (.int l4), some (.int (l5 + 1)), none] (by simp [fm_sub]) ?_
        exact ih _ _ _ h
      · replace h := fm_itp c69 h
        refine fl_aload0 (pc := 72) dX9_swing_72 ?_
        refine fm_getr (pc := 73) lk_9_28 sh_0 rfl dX9_swing_73 ?_
        refine fl_iload5 (pc := 76) dX9_swing_76 ?_
        refine fl_aload0 (pc := 78) dX9_swing_78 ?_
        obtain ⟨t17, et17, h⟩ := fm_ltp h
        obtain ⟨g18, h⟩ := fm_gdp h
        refine fm_getm (pc := 79) (fm_nn et17 g18) lk_9_21 sh_0 rfl dX9_swing_79 ?_
        refine fm_cgr et17 ?_
        refine fm_geti (pc := 82) lk_9_254 (shTd0 g18) rfl dX9_swing_82 ?_
        obtain ⟨v19, M20, ev19, h⟩ := fm_bdp h
        refine fm_callV (pc := 85) mX7_listenedTo [_, _] _ rfl cvX7_listenedTo ml_9_270 sh_38 rfl rfl (Nat.le_of_ble_eq_true rfl) (Nat.le_of_ble_eq_true rfl) dX9_swing_85 ?_
        refine sp_X7_listenedTo ev19 ?_
        refine fm_ret1 ?_
        refine fl_istore6 (pc := 88) rfl (by decide) dX9_swing_88 ?_
        refine fl_iload6 (pc := 90) dX9_swing_90 ?_
        refine fl_aload0 (pc := 92) dX9_swing_92 ?_
        obtain ⟨t21, et21, h⟩ := fm_ltp h
        obtain ⟨g22, h⟩ := fm_gdp h
        refine fm_getm (pc := 93) (fm_nn et21 g22) lk_9_21 sh_0 rfl dX9_swing_93 ?_
        refine fm_cgr et21 ?_
        refine fm_geti (pc := 96) lk_9_273 (shTd0 g22) rfl dX9_swing_96 ?_
        refine fm_icmp_ge (pc := 99) 119 (by decide) dX9_swing_99 (fun c99 => ?_) (fun c99 => ?_)
        · replace h := fm_itp c99 h
          refine fl_iinc5 (pc := 119) rfl 1 (by decide) (by decide) dX9_swing_119 ?_
          refine fm_goto (pc := 122) 49 (by decide) dX9_swing_122 ?_
          refine fm_fgt [some (.ref 0), some (.int l1), some (.int l2), some (.int l3), some (.int l4), some (.int (l5 + 1)), none] (by simp [fm_sub]) ?_
          exact ih _ _ _ h
        · replace h := fm_itn c99 h
          refine fl_iload6 (pc := 102) dX9_swing_102 ?_
          refine fl_iload3 (pc := 104) dX9_swing_104 ?_
          refine fm_iadd (pc := 105) dX9_swing_105 ?_
          refine fl_aload0 (pc := 106) dX9_swing_106 ?_
          obtain ⟨t23, et23, h⟩ := fm_ltp h
          obtain ⟨g24, h⟩ := fm_gdp h
          refine fm_getm (pc := 107) (fm_nn et23 g24) lk_9_21 sh_0 rfl dX9_swing_107 ?_
          refine fm_cgr et23 ?_
          refine fm_geti (pc := 110) lk_9_273 (shTd0 g24) rfl dX9_swing_110 ?_
          refine fm_icmp_lt (pc := 113) 119 (by decide) dX9_swing_113 (fun c113 => ?_) (fun c113 => ?_)
          · replace h := fm_itp c113 h
            refine fl_iinc5 (pc := 119) rfl 1 (by decide) (by decide) dX9_swing_119 ?_
            refine fm_goto (pc := 122) 49 (by decide) dX9_swing_122 ?_
            refine fm_fgt [some (.ref 0), some (.int l1), some (.int l2), some (.int l3), some (.int l4), some (.int (l5 + 1)), none] (by simp [fm_sub]) ?_
            exact ih _ _ _ h
          · replace h := fm_itn c113 h
            refine fl_iinc4 (pc := 116) rfl 1 (by decide) (by decide) dX9_swing_116 ?_
            refine fl_iinc5 (pc := 119) rfl 1 (by decide) (by decide) dX9_swing_119 ?_
            refine fm_goto (pc := 122) 49 (by decide) dX9_swing_122 ?_
            refine fm_fgt [some (.ref 0), some (.int l1), some (.int l2), some (.int l3), some (.int (l4 + 1)), some (.int (l5 + 1)), none] (by simp [fm_sub]) ?_
            exact ih _ _ _ h
theorem sp_X9_swing {d : Nat} {a1 : Int32} {a2 : Int32} {M : fm_M} {x : Int32 × fm_M} {Q : Option Value → fm_M → Prop} (h : F_X9_swing a1 a2 M = some x) (hq : Q (some (.int x.1)) x.2) : fm_ct (d + 5) mX9_swing [.ref 0, .int a1, .int a2] M Q := by
  rw [F_X9_swing] at h
  show fm_mw (d + 5) mX9_swing Q 0 [some (.ref 0), some (.int a1), some (.int a2), none, none, none, none] [] M
  refine fl_aload0 (pc := 0) dX9_swing_0 ?_
  refine fl_iload1 (pc := 1) dX9_swing_1 ?_
  obtain ⟨v1, M2, ev1, h⟩ := fm_bdp h
  refine fm_callV (pc := 2) mX9_isFork [_] _ rfl cvX9_isFork ml_9_150 sh_0 rfl rfl (Nat.le_of_ble_eq_true rfl) (Nat.le_of_ble_eq_true rfl) dX9_swing_2 ?_
  refine sp_X9_isFork ev1 ?_
  refine fm_ret1 ?_
  refine fm_if_eq (pc := 5) 15 (by decide) dX9_swing_5 (fun c5 => ?_) (fun c5 => ?_)
  · replace h := fm_itp c5 h
    refine fm_iconstv (pc := 15) (-1) (by decide) dX9_swing_15 ?_
    refine fm_iret (pc := 16) rfl ?_ dX9_swing_16
    cases h
    exact hq
  · replace h := fm_itn c5 h
    refine fl_iload2 (pc := 8) dX9_swing_8 ?_
    obtain ⟨v3, M4, ev3, h⟩ := fm_bdp h
    refine fm_callS (pc := 9) mX9_isNote [_] _ rfl csX9_isNote ml_9_178 rfl (Nat.le_of_ble_eq_true rfl) (Nat.le_of_ble_eq_true rfl) dX9_swing_9 ?_
    refine sp_X9_isNote ev3 ?_
    refine fm_ret1 ?_
    refine fm_if_ne (pc := 12) 17 (by decide) dX9_swing_12 (fun c12 => ?_) (fun c12 => ?_)
    · replace h := fm_itn c12 h
      refine fl_aload0 (pc := 17) dX9_swing_17 ?_
      refine fm_getr (pc := 18) lk_9_28 sh_0 rfl dX9_swing_18 ?_
      refine fl_aload0 (pc := 21) dX9_swing_21 ?_
      obtain ⟨t5, et5, h⟩ := fm_ltp h
      obtain ⟨g6, h⟩ := fm_gdp h
      refine fm_getm (pc := 22) (fm_nn et5 g6) lk_9_21 sh_0 rfl dX9_swing_22 ?_
      refine fm_cgr et5 ?_
      refine fl_iload1 (pc := 25) dX9_swing_25 ?_
      refine fl_iload2 (pc := 26) dX9_swing_26 ?_
      obtain ⟨v7, M8, ev7, h⟩ := fm_bdp h
      refine fm_callV (pc := 27) mX7_humOf [_, _, _] _ rfl cvX7_humOf ml_9_184 sh_38 rfl rfl (Nat.le_of_ble_eq_true rfl) (Nat.le_of_ble_eq_true rfl) dX9_swing_27 ?_
      refine sp_X7_humOf ev7 ?_
      refine fm_ret1 ?_
      refine fl_istore3 (pc := 30) rfl (by decide) dX9_swing_30 ?_
      refine fl_aload0 (pc := 31) dX9_swing_31 ?_
      refine fm_getr (pc := 32) lk_9_28 sh_0 rfl dX9_swing_32 ?_
      refine fl_aload0 (pc := 35) dX9_swing_35 ?_
      obtain ⟨t9, et9, h⟩ := fm_ltp h
      obtain ⟨g10, h⟩ := fm_gdp h
      refine fm_getm (pc := 36) (fm_nn et9 g10) lk_9_21 sh_0 rfl dX9_swing_36 ?_
      refine fm_cgr et9 ?_
      refine fl_iload2 (pc := 39) dX9_swing_39 ?_
      obtain ⟨v11, M12, ev11, h⟩ := fm_bdp h
      refine fm_callV (pc := 40) mX7_listen [_, _] _ rfl cvX7_listen ml_9_267 sh_38 rfl rfl (Nat.le_of_ble_eq_true rfl) (Nat.le_of_ble_eq_true rfl) dX9_swing_40 ?_
      refine sp_X7_listen ev11 ?_
      refine fm_ret0 ?_
      refine fm_iconstv (pc := 43) 0 (by decide) dX9_swing_43 ?_
      refine fl_istore4 (pc := 44) rfl (by decide) dX9_swing_44 ?_
      refine fm_iconstv (pc := 46) 0 (by decide) dX9_swing_46 ?_
      refine fl_istore5 (pc := 47) rfl (by decide) dX9_swing_47 ?_
      obtain ⟨w25, M26, ew25, h⟩ := fm_bdp h
      refine lp_X9_swing_49  ?_ _ _ _ _ ew25
      intro w259 M269 q9
      cases q9
      refine fl_iload4 (pc := 125) dX9_swing_125 ?_
      refine fm_iret (pc := 127) rfl ?_ dX9_swing_127
      cases h
      exact hq
    · replace h := fm_itp c12 h
      refine fm_iconstv (pc := 15) (-1) (by decide) dX9_swing_15 ?_
      refine fm_iret (pc := 16) rfl ?_ dX9_swing_16
      cases h
      exact hq
/-! J6_bitCount_0f7a4 -/
def F_J6_bitCount_0f7a4 (a0 : Int32) (M : fm_M) : Option (Int32 × fm_M) :=
    fm_lt ((a0 - ((i_usr a0 1) &&& 1431655765))) (fun x1 =>
    fm_lt (((x1 &&& 858993459) + ((i_usr x1 2) &&& 858993459))) (fun x2 =>
    fm_lt (((x2 + (i_usr x2 4)) &&& 252645135)) (fun x3 =>
    fm_lt ((x3 + (i_usr x3 8))) (fun x4 =>
    fm_lt ((x4 + (i_usr x4 16))) (fun x5 =>
    some ((x5 &&& 63), M))))))
theorem sp_J6_bitCount_0f7a4 {d : Nat} {a0 : Int32} {M : fm_M} {x : Int32 × fm_M} {Q : Option Value → fm_M → Prop} (h : F_J6_bitCount_0f7a4 a0 M = some x) (hq : Q (some (.int x.1)) x.2) : fm_ct d mJ6_bitCount_0f7a4 [.int a0] M Q := by
  rw [F_J6_bitCount_0f7a4] at h
  show fm_mw d mJ6_bitCount_0f7a4 Q 0 [some (.int a0)] [] M
  refine fl_iload0 (pc := 0) dJ6_bitCount_0f7a4_0 ?_
  refine fl_iload0 (pc := 1) dJ6_bitCount_0f7a4_1 ?_
  refine fm_iconstv (pc := 2) 1 (by decide) dJ6_bitCount_0f7a4_2 ?_
  refine fq_iushr (pc := 3) dJ6_bitCount_0f7a4_3 ?_
  refine fm_ldcw (pc := 4) kc_J_265 dJ6_bitCount_0f7a4_4 ?_
  refine fm_iand (pc := 7) dJ6_bitCount_0f7a4_7 ?_
  refine fm_isub (pc := 8) dJ6_bitCount_0f7a4_8 ?_
  obtain ⟨x1, ex1, h⟩ := fm_ltp h
  refine fm_cgi ex1 ?_
  refine fl_istore0 (pc := 9) (by decide) dJ6_bitCount_0f7a4_9 ?_
  refine fl_iload0 (pc := 10) dJ6_bitCount_0f7a4_10 ?_
  refine fm_ldcw (pc := 11) kc_J_266 dJ6_bitCount_0f7a4_11 ?_
  refine fm_iand (pc := 14) dJ6_bitCount_0f7a4_14 ?_
  refine fl_iload0 (pc := 15) dJ6_bitCount_0f7a4_15 ?_
  refine fm_iconstv (pc := 16) 2 (by decide) dJ6_bitCount_0f7a4_16 ?_
  refine fq_iushr (pc := 17) dJ6_bitCount_0f7a4_17 ?_
  refine fm_ldcw (pc := 18) kc_J_266 dJ6_bitCount_0f7a4_18 ?_
  refine fm_iand (pc := 21) dJ6_bitCount_0f7a4_21 ?_
  refine fm_iadd (pc := 22) dJ6_bitCount_0f7a4_22 ?_
  obtain ⟨x2, ex2, h⟩ := fm_ltp h
  refine fm_cgi ex2 ?_
  refine fl_istore0 (pc := 23) (by decide) dJ6_bitCount_0f7a4_23 ?_
  refine fl_iload0 (pc := 24) dJ6_bitCount_0f7a4_24 ?_
  refine fl_iload0 (pc := 25) dJ6_bitCount_0f7a4_25 ?_
  refine fm_iconstv (pc := 26) 4 (by decide) dJ6_bitCount_0f7a4_26 ?_
  refine fq_iushr (pc := 27) dJ6_bitCount_0f7a4_27 ?_
  refine fm_iadd (pc := 28) dJ6_bitCount_0f7a4_28 ?_
  refine fm_ldcw (pc := 29) kc_J_267 dJ6_bitCount_0f7a4_29 ?_
  refine fm_iand (pc := 32) dJ6_bitCount_0f7a4_32 ?_
  obtain ⟨x3, ex3, h⟩ := fm_ltp h
  refine fm_cgi ex3 ?_
  refine fl_istore0 (pc := 33) (by decide) dJ6_bitCount_0f7a4_33 ?_
  refine fl_iload0 (pc := 34) dJ6_bitCount_0f7a4_34 ?_
  refine fl_iload0 (pc := 35) dJ6_bitCount_0f7a4_35 ?_
  refine fm_bipushv (pc := 36) 8 (by decide) dJ6_bitCount_0f7a4_36 ?_
  refine fq_iushr (pc := 38) dJ6_bitCount_0f7a4_38 ?_
  refine fm_iadd (pc := 39) dJ6_bitCount_0f7a4_39 ?_
  obtain ⟨x4, ex4, h⟩ := fm_ltp h
  refine fm_cgi ex4 ?_
  refine fl_istore0 (pc := 40) (by decide) dJ6_bitCount_0f7a4_40 ?_
  refine fl_iload0 (pc := 41) dJ6_bitCount_0f7a4_41 ?_
  refine fl_iload0 (pc := 42) dJ6_bitCount_0f7a4_42 ?_
  refine fm_bipushv (pc := 43) 16 (by decide) dJ6_bitCount_0f7a4_43 ?_
  refine fq_iushr (pc := 45) dJ6_bitCount_0f7a4_45 ?_
  refine fm_iadd (pc := 46) dJ6_bitCount_0f7a4_46 ?_
  obtain ⟨x5, ex5, h⟩ := fm_ltp h
  refine fm_cgi ex5 ?_
  refine fl_istore0 (pc := 47) (by decide) dJ6_bitCount_0f7a4_47 ?_
  refine fl_iload0 (pc := 48) dJ6_bitCount_0f7a4_48 ?_
  refine fm_bipushv (pc := 49) 63 (by decide) dJ6_bitCount_0f7a4_49 ?_
  refine fm_iand (pc := 51) dJ6_bitCount_0f7a4_51 ?_
  refine fm_iret (pc := 52) rfl ?_ dJ6_bitCount_0f7a4_52
  cases h
  exact hq
/-! X9_censure -/
def J_X9_censure_63 (rec : Int32 → Int32 → fm_M → Option ((Int32 × Int32) × fm_M)) (l1 : Int32) (l2 : Int32) (l3 : Int32) (l4 : Int32) (M : fm_M) : Option ((Int32 × Int32) × fm_M) :=
    fm_lt (Int32.toNatClampNeg (M.1 0 1)) (fun t10 =>
    fm_gd (fm_isTd t10) (
    fm_bd (F_X7_listenedTo 38 (l2 &&& (l4 ^^^ (-1))) (M.1 t10 0) M) (fun v12 M13 =>
    fm_lt (Int32.toNatClampNeg (M13.1 0 1)) (fun t14 =>
    fm_gd (fm_isTd t14) (
    fm_bd (F_X7_passes 38 t14 l1 v12 M13) (fun v16 M17 =>
    if v16 = 0 then (
      rec l4 (l4 + 1) M17
    ) else (
      rec l3 (l4 + 1) M17
    )))))))
def G_X9_censure_39 : Nat → Int32 → Int32 → Int32 → Int32 → fm_M → Option ((Int32 × Int32) × fm_M)
  | 0, _, _, _, _, _ => none
  | n + 1, l1, l2, l3, l4, M =>
    if l2 < l4 then (
      some ((l3, l4), M)
    ) else (
      if l3 = (-2) then (
        J_X9_censure_63 (G_X9_censure_39 n l1 l2) l1 l2 l3 l4 M
      ) else (
        fm_bd (F_J6_bitCount_0f7a4 l4 M) (fun v18 M19 =>
        fm_bd (F_J6_bitCount_0f7a4 l3 M19) (fun v20 M21 =>
        if v20 ≤ v18 then (
          G_X9_censure_39 n l1 l2 l3 (l4 + 1) M21
        ) else (
          J_X9_censure_63 (G_X9_censure_39 n l1 l2) l1 l2 l3 l4 M21
        )))
      )
    )
def F_X9_censure (a1 : Int32) (M : fm_M) : Option (Int32 × fm_M) :=
    fm_bd (F_X9_isNote a1 M) (fun v1 M2 =>
    if v1 = 0 then (
      some ((-1), M2)
    ) else (
      fm_lt (Int32.toNatClampNeg (M2.1 0 1)) (fun t3 =>
      fm_gd (fm_isTd t3) (
      fm_bd (F_X7_listen 38 t3 a1 M2) (fun v5 M6 =>
      fm_lt (Int32.toNatClampNeg (M6.1 0 1)) (fun t7 =>
      fm_gd (fm_isTd t7) (
      fm_lt (((1 <<< ((M6.1 t7 0) &&& 31)) - 1)) (fun x9 =>
      fm_bd (G_X9_censure_39 fm_fuel a1 x9 (-2) 0 M6) (fun w22 M23 =>
        some (w22.1, M23))))))))
    ))
theorem jn_X9_censure_63 {d : Nat} {Q : Option Value → fm_M → Prop} (rec : Int32 → Int32 → fm_M → Option ((Int32 × Int32) × fm_M))  (l1 : Int32) (l2 : Int32) (l3 : Int32) (l4 : Int32) {x : (Int32 × Int32) × fm_M}  (ih : ∀ (l3 : Int32) (l4 : Int32) (M : fm_M), rec l3 l4 M = some x → fm_mw (d + 5) mX9_censure Q 39 [some (.ref 0), some (.int l1), some (.int l2), some (.int l3), some (.int l4), none] [] M) (k1 : ∀ (v : Int32 × Int32) (M2 : fm_M), x = (v, M2) → fm_mw (d + 5) mX9_censure Q 111 [some (.ref 0), some (.int l1), some (.int l2), some (.int v.1), some (.int v.2), none] [] M2) (M : fm_M) (h : J_X9_censure_63 rec l1 l2 l3 l4 M = some x) : fm_mw (d + 5) mX9_censure Q 63 [some (.ref 0), some (.int l1), some (.int l2), some (.int l3), some (.int l4), none] [] M := by
  rw [J_X9_censure_63] at h
  refine fl_aload0 (pc := 63) dX9_censure_63 ?_
  refine fm_getr (pc := 64) lk_9_28 sh_0 rfl dX9_censure_64 ?_
  refine fl_iload2 (pc := 67) dX9_censure_67 ?_
  refine fl_iload4 (pc := 68) dX9_censure_68 ?_
  refine fm_iconstv (pc := 70) (-1) (by decide) dX9_censure_70 ?_
  refine fm_ixor (pc := 71) dX9_censure_71 ?_
  refine fm_iand (pc := 72) dX9_censure_72 ?_
  refine fl_aload0 (pc := 73) dX9_censure_73 ?_
  obtain ⟨t10, et10, h⟩ := fm_ltp h
  obtain ⟨g11, h⟩ := fm_gdp h
  refine fm_getm (pc := 74) (fm_nn et10 g11) lk_9_21 sh_0 rfl dX9_censure_74 ?_
  refine fm_cgr et10 ?_
  refine fm_geti (pc := 77) lk_9_254 (shTd0 g11) rfl dX9_censure_77 ?_
  obtain ⟨v12, M13, ev12, h⟩ := fm_bdp h
  refine fm_callV (pc := 80) mX7_listenedTo [_, _] _ rfl cvX7_listenedTo ml_9_270 sh_38 rfl rfl (Nat.le_of_ble_eq_true rfl) (Nat.le_of_ble_eq_true rfl) dX9_censure_80 ?_
  refine sp_X7_listenedTo ev12 ?_
  refine fm_ret1 ?_
  refine fl_istore5 (pc := 83) rfl (by decide) dX9_censure_83 ?_
  refine fl_aload0 (pc := 85) dX9_censure_85 ?_
  refine fm_getr (pc := 86) lk_9_28 sh_0 rfl dX9_censure_86 ?_
  refine fl_aload0 (pc := 89) dX9_censure_89 ?_
  obtain ⟨t14, et14, h⟩ := fm_ltp h
  obtain ⟨g15, h⟩ := fm_gdp h
  refine fm_getm (pc := 90) (fm_nn et14 g15) lk_9_21 sh_0 rfl dX9_censure_90 ?_
  refine fm_cgr et14 ?_
  refine fl_iload1 (pc := 93) dX9_censure_93 ?_
  refine fl_iload5 (pc := 94) dX9_censure_94 ?_
  obtain ⟨v16, M17, ev16, h⟩ := fm_bdp h
  refine fm_callV (pc := 96) mX7_passes [_, _, _] _ rfl cvX7_passes ml_9_279 sh_38 rfl rfl (Nat.le_of_ble_eq_true rfl) (Nat.le_of_ble_eq_true rfl) dX9_censure_96 ?_
  refine sp_X7_passes ev16 ?_
  refine fm_ret1 ?_
  refine fm_if_ne (pc := 99) 105 (by decide) dX9_censure_99 (fun c99 => ?_) (fun c99 => ?_)
  · replace h := fm_itn c99 h
    refine fl_iinc4 (pc := 105) rfl 1 (by decide) (by decide) dX9_censure_105 ?_
    refine fm_goto (pc := 108) 39 (by decide) dX9_censure_108 ?_
    refine fm_fgt [some (.ref 0), some (.int l1), some (.int l2), some (.int l3), some (.int (l4 + 1)), none] (by simp [fm_sub]) ?_
    exact ih _ _ _ h
  · replace h := fm_itp c99 h
    refine fl_iload4 (pc := 102) dX9_censure_102 ?_
    refine fl_istore3 (pc := 104) rfl (by decide) dX9_censure_104 ?_
    refine fl_iinc4 (pc := 105) rfl 1 (by decide) (by decide) dX9_censure_105 ?_
    refine fm_goto (pc := 108) 39 (by decide) dX9_censure_108 ?_
    refine fm_fgt [some (.ref 0), some (.int l1), some (.int l2), some (.int l4), some (.int (l4 + 1)), none] (by simp [fm_sub]) ?_
    exact ih _ _ _ h
theorem lp_X9_censure_39 {d : Nat} {Q : Option Value → fm_M → Prop} {l1 : Int32} {l2 : Int32}   {x : (Int32 × Int32) × fm_M} (k1 : ∀ (v : Int32 × Int32) (M2 : fm_M), x = (v, M2) → fm_mw (d + 5) mX9_censure Q 111 [some (.ref 0), some (.int l1), some (.int l2), some (.int v.1), some (.int v.2), none] [] M2) : ∀ (n : Nat) (l3 : Int32) (l4 : Int32) (M : fm_M), G_X9_censure_39 n l1 l2 l3 l4 M = some x → fm_mw (d + 5) mX9_censure Q 39 [some (.ref 0), some (.int l1), some (.int l2), some (.int l3), some (.int l4), none] [] M := by
  intro n
  induction n with
  | zero => intro l3 l4 M h; simp [G_X9_censure_39] at h
  | succ n ih =>
    intro l3 l4 M h
    rw [G_X9_censure_39] at h
    refine fl_iload4 (pc := 39) dX9_censure_39 ?_
    refine fl_iload2 (pc := 41) dX9_censure_41 ?_
    refine fm_icmp_gt (pc := 42) 111 (by decide) dX9_censure_42 (fun c42 => ?_) (fun c42 => ?_)
    · replace h := fm_itp c42 h
      refine fm_fgt [some (.ref 0), some (.int l1), some (.int l2), some (.int l3), some (.int l4), none] (by simp [fm_sub]) ?_
      cases h
      exact k1 _ _ rfl
    · replace h := fm_itn c42 h
      refine fl_iload3 (pc := 45) dX9_censure_45 ?_
      refine fm_bipushv (pc := 46) (-2) (by decide) dX9_censure_46 ?_
      refine fm_icmp_eq (pc := 48) 63 (by decide) dX9_censure_48 (fun c48 => ?_) (fun c48 => ?_)
      · replace h := fm_itp c48 h
        exact jn_X9_censure_63 _ _ _ _ _  ih k1 _ h
      · replace h := fm_itn c48 h
        refine fl_iload4 (pc := 51) dX9_censure_51 ?_
        obtain ⟨v18, M19, ev18, h⟩ := fm_bdp h
        refine fm_callS (pc := 53) mJ6_bitCount_0f7a4 [_] _ rfl csJ6_bitCount_0f7a4 ml_9_276 rfl (Nat.le_of_ble_eq_true rfl) (Nat.le_of_ble_eq_true rfl) dX9_censure_53 ?_
        refine sp_J6_bitCount_0f7a4 ev18 ?_
        refine fm_ret1 ?_
        refine fl_iload3 (pc := 56) dX9_censure_56 ?_
        obtain ⟨v20, M21, ev20, h⟩ := fm_bdp h
        refine fm_callS (pc := 57) mJ6_bitCount_0f7a4 [_] _ rfl csJ6_bitCount_0f7a4 ml_9_276 rfl (Nat.le_of_ble_eq_true rfl) (Nat.le_of_ble_eq_true rfl) dX9_censure_57 ?_
        refine sp_J6_bitCount_0f7a4 ev20 ?_
        refine fm_ret1 ?_
        refine fm_icmp_ge (pc := 60) 105 (by decide) dX9_censure_60 (fun c60 => ?_) (fun c60 => ?_)
        · replace h := fm_itp c60 h
          refine fl_iinc4 (pc := 105) rfl 1 (by decide) (by decide) dX9_censure_105 ?_
          refine fm_goto (pc := 108) 39 (by decide) dX9_censure_108 ?_
          refine fm_fgt [some (.ref 0), some (.int l1), some (.int l2), some (.int l3), some (.int (l4 + 1)), none] (by simp [fm_sub]) ?_
          exact ih _ _ _ h
        · replace h := fm_itn c60 h
          exact jn_X9_censure_63 _ _ _ _ _  ih k1 _ h
theorem sp_X9_censure {d : Nat} {a1 : Int32} {M : fm_M} {x : Int32 × fm_M} {Q : Option Value → fm_M → Prop} (h : F_X9_censure a1 M = some x) (hq : Q (some (.int x.1)) x.2) : fm_ct (d + 5) mX9_censure [.ref 0, .int a1] M Q := by
  rw [F_X9_censure] at h
  show fm_mw (d + 5) mX9_censure Q 0 [some (.ref 0), some (.int a1), none, none, none, none] [] M
  refine fl_iload1 (pc := 0) dX9_censure_0 ?_
  obtain ⟨v1, M2, ev1, h⟩ := fm_bdp h
  refine fm_callS (pc := 1) mX9_isNote [_] _ rfl csX9_isNote ml_9_178 rfl (Nat.le_of_ble_eq_true rfl) (Nat.le_of_ble_eq_true rfl) dX9_censure_1 ?_
  refine sp_X9_isNote ev1 ?_
  refine fm_ret1 ?_
  refine fm_if_ne (pc := 4) 9 (by decide) dX9_censure_4 (fun c4 => ?_) (fun c4 => ?_)
  · replace h := fm_itn c4 h
    refine fl_aload0 (pc := 9) dX9_censure_9 ?_
    refine fm_getr (pc := 10) lk_9_28 sh_0 rfl dX9_censure_10 ?_
    refine fl_aload0 (pc := 13) dX9_censure_13 ?_
    obtain ⟨t3, et3, h⟩ := fm_ltp h
    obtain ⟨g4, h⟩ := fm_gdp h
    refine fm_getm (pc := 14) (fm_nn et3 g4) lk_9_21 sh_0 rfl dX9_censure_14 ?_
    refine fm_cgr et3 ?_
    refine fl_iload1 (pc := 17) dX9_censure_17 ?_
    obtain ⟨v5, M6, ev5, h⟩ := fm_bdp h
    refine fm_callV (pc := 18) mX7_listen [_, _] _ rfl cvX7_listen ml_9_267 sh_38 rfl rfl (Nat.le_of_ble_eq_true rfl) (Nat.le_of_ble_eq_true rfl) dX9_censure_18 ?_
    refine sp_X7_listen ev5 ?_
    refine fm_ret0 ?_
    refine fm_iconstv (pc := 21) 1 (by decide) dX9_censure_21 ?_
    refine fl_aload0 (pc := 22) dX9_censure_22 ?_
    obtain ⟨t7, et7, h⟩ := fm_ltp h
    obtain ⟨g8, h⟩ := fm_gdp h
    refine fm_getm (pc := 23) (fm_nn et7 g8) lk_9_21 sh_0 rfl dX9_censure_23 ?_
    refine fm_cgr et7 ?_
    refine fm_geti (pc := 26) lk_9_254 (shTd0 g8) rfl dX9_censure_26 ?_
    refine fm_ishl (pc := 29) dX9_censure_29 ?_
    refine fm_iconstv (pc := 30) 1 (by decide) dX9_censure_30 ?_
    refine fm_isub (pc := 31) dX9_censure_31 ?_
    obtain ⟨x9, ex9, h⟩ := fm_ltp h
    refine fm_cgi ex9 ?_
    refine fl_istore2 (pc := 32) rfl (by decide) dX9_censure_32 ?_
    refine fm_bipushv (pc := 33) (-2) (by decide) dX9_censure_33 ?_
    refine fl_istore3 (pc := 35) rfl (by decide) dX9_censure_35 ?_
    refine fm_iconstv (pc := 36) 0 (by decide) dX9_censure_36 ?_
    refine fl_istore4 (pc := 37) rfl (by decide) dX9_censure_37 ?_
    obtain ⟨w22, M23, ew22, h⟩ := fm_bdp h
    refine lp_X9_censure_39  ?_ _ _ _ _ ew22
    intro w229 M239 q9
    cases q9
    refine fl_iload3 (pc := 111) dX9_censure_111 ?_
    refine fm_iret (pc := 112) rfl ?_ dX9_censure_112
    cases h
    exact hq
  · replace h := fm_itp c4 h
    refine fm_iconstv (pc := 7) (-1) (by decide) dX9_censure_7 ?_
    refine fm_iret (pc := 8) rfl ?_ dX9_censure_8
    cases h
    exact hq
/-! X9_party -/
def G_X9_party_23 : Nat → Int32 → Int32 → Int32 → Int32 → fm_M → Option ((Int32 × Int32) × fm_M)
  | 0, _, _, _, _, _ => none
  | n + 1, l1, l2, l3, l4, M =>
    fm_lt (Int32.toNatClampNeg (M.1 0 1)) (fun t3 =>
    fm_gd (fm_isTd t3) (
    if (M.1 t3 0) ≤ l4 then (
      some ((l3, l4), M)
    ) else (
      fm_lt (Int32.toNatClampNeg (M.1 0 1)) (fun t5 =>
      fm_gd (fm_isTd t5) (
      fm_gd (fm_inb l4 8) (
      if (M.1 (t5 + 5) (Int32.toNatClampNeg l4)) = l1 then (
        fm_lt (Int32.toNatClampNeg (M.1 0 1)) (fun t8 =>
        fm_gd (fm_isTd t8) (
        fm_bd (F_X7_humOf 38 t8 l4 l2 M) (fun v10 M11 =>
        fm_lt ((l3 + v10)) (fun x12 =>
        G_X9_party_23 n l1 l2 x12 (l4 + 1) M11))))
      ) else (
        G_X9_party_23 n l1 l2 l3 (l4 + 1) M
      ))))
    )))
def F_X9_party (a1 : Int32) (a2 : Int32) (M : fm_M) : Option (Int32 × fm_M) :=
    if a1 < 0 then (
      some ((-1), M)
    ) else (
      if 3 < a1 then (
        some ((-1), M)
      ) else (
        fm_bd (F_X9_isNote a2 M) (fun v1 M2 =>
        if v1 = 0 then (
          some ((-1), M2)
        ) else (
          fm_bd (G_X9_party_23 fm_fuel a1 a2 0 0 M2) (fun w13 M14 =>
            some (w13.1, M14))
        ))
      )
    )
theorem lp_X9_party_23 {d : Nat} {Q : Option Value → fm_M → Prop} {l1 : Int32} {l2 : Int32}   {x : (Int32 × Int32) × fm_M} (k1 : ∀ (v : Int32 × Int32) (M2 : fm_M), x = (v, M2) → fm_mw (d + 4) mX9_party Q 72 [some (.ref 0), some (.int l1), some (.int l2), some (.int v.1), some (.int v.2)] [] M2) : ∀ (n : Nat) (l3 : Int32) (l4 : Int32) (M : fm_M), G_X9_party_23 n l1 l2 l3 l4 M = some x → fm_mw (d + 4) mX9_party Q 23 [some (.ref 0), some (.int l1), some (.int l2), some (.int l3), some (.int l4)] [] M := by
  intro n
  induction n with
  | zero => intro l3 l4 M h; simp [G_X9_party_23] at h
  | succ n ih =>
    intro l3 l4 M h
    rw [G_X9_party_23] at h
    refine fl_iload4 (pc := 23) dX9_party_23 ?_
    refine fl_aload0 (pc := 25) dX9_party_25 ?_
    obtain ⟨t3, et3, h⟩ := fm_ltp h
    obtain ⟨g4, h⟩ := fm_gdp h
    refine fm_getm (pc := 26) (fm_nn et3 g4) lk_9_21 sh_0 rfl dX9_party_26 ?_
    refine fm_cgr et3 ?_
    refine fm_geti (pc := 29) lk_9_254 (shTd0 g4) rfl dX9_party_29 ?_
    refine fm_icmp_ge (pc := 32) 72 (by decide) dX9_party_32 (fun c32 => ?_) (fun c32 => ?_)
    · replace h := fm_itp c32 h
      refine fm_fgt [some (.ref 0), some (.int l1), some (.int l2), some (.int l3), some (.int l4)] (by simp [fm_sub]) ?_
      cases h
      exact k1 _ _ rfl
    · replace h := fm_itn c32 h
      refine fl_aload0 (pc := 35) dX9_party_35 ?_
      obtain ⟨t5, et5, h⟩ := fm_ltp h
      obtain ⟨g6, h⟩ := fm_gdp h
      refine fm_getm (pc := 36) (fm_nn et5 g6) lk_9_21 sh_0 rfl dX9_party_36 ?_
      refine fm_cgr et5 ?_
      refine fm_getr (pc := 39) lk_9_162 (shTd0 g6) rfl dX9_party_39 ?_
      refine fl_iload4 (pc := 42) dX9_party_42 ?_
      obtain ⟨g7, h⟩ := fm_gdp h
      refine fm_iald (pc := 44) (shTd5 g6) (fm_inb_ok g7) dX9_party_44 ?_
      refine fl_iload1 (pc := 45) dX9_party_45 ?_
      refine fm_icmp_ne (pc := 46) 66 (by decide) dX9_party_46 (fun c46 => ?_) (fun c46 => ?_)
      · replace h := fm_itn c46 h
        refine fl_iinc4 (pc := 66) rfl 1 (by decide) (by decide) dX9_party_66 ?_
        refine fm_goto (pc := 69) 23 (by decide) dX9_party_69 ?_
        refine fm_fgt [some (.ref 0), some (.int l1), some (.int l2), some (.int l3), some (.int (l4 + 1))] (by simp [fm_sub]) ?_
        exact ih _ _ _ h
      · replace h := fm_itp c46 h
        refine fl_iload3 (pc := 49) dX9_party_49 ?_
        refine fl_aload0 (pc := 50) dX9_party_50 ?_
        refine fm_getr (pc := 51) lk_9_28 sh_0 rfl dX9_party_51 ?_
        refine fl_aload0 (pc := 54) dX9_party_54 ?_
        obtain ⟨t8, et8, h⟩ := fm_ltp h
        obtain ⟨g9, h⟩ := fm_gdp h
        refine fm_getm (pc := 55) (fm_nn et8 g9) lk_9_21 sh_0 rfl dX9_party_55 ?_
        refine fm_cgr et8 ?_
        refine fl_iload4 (pc := 58) dX9_party_58 ?_
        refine fl_iload2 (pc := 60) dX9_party_60 ?_
        obtain ⟨v10, M11, ev10, h⟩ := fm_bdp h
        refine fm_callV (pc := 61) mX7_humOf [_, _, _] _ rfl cvX7_humOf ml_9_184 sh_38 rfl rfl (Nat.le_of_ble_eq_true rfl) (Nat.le_of_ble_eq_true rfl) dX9_party_61 ?_
        refine sp_X7_humOf ev10 ?_
        refine fm_ret1 ?_
        refine fm_iadd (pc := 64) dX9_party_64 ?_
        obtain ⟨x12, ex12, h⟩ := fm_ltp h
        refine fm_cgi ex12 ?_
        refine fl_istore3 (pc := 65) rfl (by decide) dX9_party_65 ?_
        refine fl_iinc4 (pc := 66) rfl 1 (by decide) (by decide) dX9_party_66 ?_
        refine fm_goto (pc := 69) 23 (by decide) dX9_party_69 ?_
        refine fm_fgt [some (.ref 0), some (.int l1), some (.int l2), some (.int x12), some (.int (l4 + 1))] (by simp [fm_sub]) ?_
        exact ih _ _ _ h
theorem sp_X9_party {d : Nat} {a1 : Int32} {a2 : Int32} {M : fm_M} {x : Int32 × fm_M} {Q : Option Value → fm_M → Prop} (h : F_X9_party a1 a2 M = some x) (hq : Q (some (.int x.1)) x.2) : fm_ct (d + 4) mX9_party [.ref 0, .int a1, .int a2] M Q := by
  rw [F_X9_party] at h
  show fm_mw (d + 4) mX9_party Q 0 [some (.ref 0), some (.int a1), some (.int a2), none, none] [] M
  refine fl_iload1 (pc := 0) dX9_party_0 ?_
  refine fm_if_lt (pc := 1) 16 (by decide) dX9_party_1 (fun c1 => ?_) (fun c1 => ?_)
  · replace h := fm_itp c1 h
    refine fm_iconstv (pc := 16) (-1) (by decide) dX9_party_16 ?_
    refine fm_iret (pc := 17) rfl ?_ dX9_party_17
    cases h
    exact hq
  · replace h := fm_itn c1 h
    refine fl_iload1 (pc := 4) dX9_party_4 ?_
    refine fm_iconstv (pc := 5) 3 (by decide) dX9_party_5 ?_
    refine fm_icmp_gt (pc := 6) 16 (by decide) dX9_party_6 (fun c6 => ?_) (fun c6 => ?_)
    · replace h := fm_itp c6 h
      refine fm_iconstv (pc := 16) (-1) (by decide) dX9_party_16 ?_
      refine fm_iret (pc := 17) rfl ?_ dX9_party_17
      cases h
      exact hq
    · replace h := fm_itn c6 h
      refine fl_iload2 (pc := 9) dX9_party_9 ?_
      obtain ⟨v1, M2, ev1, h⟩ := fm_bdp h
      refine fm_callS (pc := 10) mX9_isNote [_] _ rfl csX9_isNote ml_9_178 rfl (Nat.le_of_ble_eq_true rfl) (Nat.le_of_ble_eq_true rfl) dX9_party_10 ?_
      refine sp_X9_isNote ev1 ?_
      refine fm_ret1 ?_
      refine fm_if_ne (pc := 13) 18 (by decide) dX9_party_13 (fun c13 => ?_) (fun c13 => ?_)
      · replace h := fm_itn c13 h
        refine fm_iconstv (pc := 18) 0 (by decide) dX9_party_18 ?_
        refine fl_istore3 (pc := 19) rfl (by decide) dX9_party_19 ?_
        refine fm_iconstv (pc := 20) 0 (by decide) dX9_party_20 ?_
        refine fl_istore4 (pc := 21) rfl (by decide) dX9_party_21 ?_
        obtain ⟨w13, M14, ew13, h⟩ := fm_bdp h
        refine lp_X9_party_23  ?_ _ _ _ _ ew13
        intro w139 M149 q9
        cases q9
        refine fl_iload3 (pc := 72) dX9_party_72 ?_
        refine fm_iret (pc := 73) rfl ?_ dX9_party_73
        cases h
        exact hq
      · replace h := fm_itp c13 h
        refine fm_iconstv (pc := 16) (-1) (by decide) dX9_party_16 ?_
        refine fm_iret (pc := 17) rfl ?_ dX9_party_17
        cases h
        exact hq
/-! X9_arePair -/
def F_X9_arePair (a1 : Int32) (a2 : Int32) (M : fm_M) : Option (Int32 × fm_M) :=
    fm_bd (F_X9_isFork a1 M) (fun v1 M2 =>
    if v1 = 0 then (
      some (0, M2)
    ) else (
      fm_bd (F_X9_isFork a2 M2) (fun v3 M4 =>
      if v3 = 0 then (
        some (0, M4)
      ) else (
        if a1 = a2 then (
          some (0, M4)
        ) else (
          some (1, M4)
        )
      ))
    ))
theorem sp_X9_arePair {d : Nat} {a1 : Int32} {a2 : Int32} {M : fm_M} {x : Int32 × fm_M} {Q : Option Value → fm_M → Prop} (h : F_X9_arePair a1 a2 M = some x) (hq : Q (some (.int x.1)) x.2) : fm_ct (d + 1) mX9_arePair [.ref 0, .int a1, .int a2] M Q := by
  rw [F_X9_arePair] at h
  show fm_mw (d + 1) mX9_arePair Q 0 [some (.ref 0), some (.int a1), some (.int a2)] [] M
  refine fl_aload0 (pc := 0) dX9_arePair_0 ?_
  refine fl_iload1 (pc := 1) dX9_arePair_1 ?_
  obtain ⟨v1, M2, ev1, h⟩ := fm_bdp h
  refine fm_callV (pc := 2) mX9_isFork [_] _ rfl cvX9_isFork ml_9_150 sh_0 rfl rfl (Nat.le_of_ble_eq_true rfl) (Nat.le_of_ble_eq_true rfl) dX9_arePair_2 ?_
  refine sp_X9_isFork ev1 ?_
  refine fm_ret1 ?_
  refine fm_if_eq (pc := 5) 25 (by decide) dX9_arePair_5 (fun c5 => ?_) (fun c5 => ?_)
  · replace h := fm_itp c5 h
    refine fm_iconstv (pc := 25) 0 (by decide) dX9_arePair_25 ?_
    refine fm_zret (pc := 26) rfl (by decide) ?_ dX9_arePair_26
    cases h
    exact hq
  · replace h := fm_itn c5 h
    refine fl_aload0 (pc := 8) dX9_arePair_8 ?_
    refine fl_iload2 (pc := 9) dX9_arePair_9 ?_
    obtain ⟨v3, M4, ev3, h⟩ := fm_bdp h
    refine fm_callV (pc := 10) mX9_isFork [_] _ rfl cvX9_isFork ml_9_150 sh_0 rfl rfl (Nat.le_of_ble_eq_true rfl) (Nat.le_of_ble_eq_true rfl) dX9_arePair_10 ?_
    refine sp_X9_isFork ev3 ?_
    refine fm_ret1 ?_
    refine fm_if_eq (pc := 13) 25 (by decide) dX9_arePair_13 (fun c13 => ?_) (fun c13 => ?_)
    · replace h := fm_itp c13 h
      refine fm_iconstv (pc := 25) 0 (by decide) dX9_arePair_25 ?_
      refine fm_zret (pc := 26) rfl (by decide) ?_ dX9_arePair_26
      cases h
      exact hq
    · replace h := fm_itn c13 h
      refine fl_iload1 (pc := 16) dX9_arePair_16 ?_
      refine fl_iload2 (pc := 17) dX9_arePair_17 ?_
      refine fm_icmp_eq (pc := 18) 25 (by decide) dX9_arePair_18 (fun c18 => ?_) (fun c18 => ?_)
      · replace h := fm_itp c18 h
        refine fm_iconstv (pc := 25) 0 (by decide) dX9_arePair_25 ?_
        refine fm_zret (pc := 26) rfl (by decide) ?_ dX9_arePair_26
        cases h
        exact hq
      · replace h := fm_itn c18 h
        refine fm_iconstv (pc := 21) 1 (by decide) dX9_arePair_21 ?_
        refine fm_goto (pc := 22) 26 (by decide) dX9_arePair_22 ?_
        refine fm_zret (pc := 26) rfl (by decide) ?_ dX9_arePair_26
        cases h
        exact hq
