/-! X10_go -/
def G_X10_go_42 : Nat → Int32 → Int32 → fm_M → Option ((Int32) × fm_M)
  | 0, _, _, _ => none
  | n + 1, l1, l2, M =>
    if l1 ≤ l2 then (
      some (l2, M)
    ) else (
      fm_bd (F_X10_dayGoes 0 M) (fun v3 M4 =>
      G_X10_go_42 n l1 (l2 + 1) M4)
    )
def J_X10_go_40 (l1 : Int32) (M : fm_M) : Option (Int32 × fm_M) :=
    fm_bd (G_X10_go_42 fm_fuel l1 0 M) (fun w5 M6 =>
      fm_gd (fm_inb 0 23) (
      some ((M6.1 94 (Int32.toNatClampNeg 0)), M6)))
def F_X10_go (a1 : Int32) (M : fm_M) : Option (Int32 × fm_M) :=
    fm_lt (fm_up M 76 0 0) (fun M1 =>
    if a1 < 0 then (
      some ((-1), M1)
    ) else (
      if 99 < a1 then (
        some ((-1), M1)
      ) else (
        fm_gd (fm_inb 0 23) (
        if ((M1.1 94 (Int32.toNatClampNeg 0)) + a1) ≤ 9900 then (
          if a1 ≤ 0 then (
            J_X10_go_40 a1 M1
          ) else (
            fm_lt (fm_up M1 76 42 0) (fun M8 =>
            J_X10_go_40 a1 M8)
          )
        ) else (
          some ((-1), M1)
        ))
      )
    ))
theorem lp_X10_go_42 {d : Nat} {Q : Option Value → fm_M → Prop} {l1 : Int32}   {x : (Int32) × fm_M} (k1 : ∀ (v : Int32) (M2 : fm_M), x = (v, M2) → fm_mw (d + 10) mX10_go Q 58 [some (.ref 76), some (.int l1), some (.int v)] [] M2) : ∀ (n : Nat) (l2 : Int32) (M : fm_M), G_X10_go_42 n l1 l2 M = some x → fm_mw (d + 10) mX10_go Q 42 [some (.ref 76), some (.int l1), some (.int l2)] [] M := by
  intro n
  induction n with
  | zero => intro l2 M h; simp [G_X10_go_42] at h
  | succ n ih =>
    intro l2 M h
    rw [G_X10_go_42] at h
    refine fl_iload2 (pc := 42) dX10_go_42 ?_
    refine fl_iload1 (pc := 43) dX10_go_43 ?_
    refine fm_icmp_ge (pc := 44) 58 (by decide) dX10_go_44 (fun c44 => ?_) (fun c44 => ?_)
    · replace h := fm_itp c44 h
      refine fm_fgt [some (.ref 76), some (.int l1), some (.int l2)] (by simp [fm_sub]) ?_
      cases h
      exact k1 _ _ rfl
    · replace h := fm_itn c44 h
      refine fl_aload0 (pc := 47) dX10_go_47 ?_
      refine fm_iconstv (pc := 48) 0 (by decide) dX10_go_48 ?_
      obtain ⟨v3, M4, ev3, h⟩ := fm_bdp h
      refine fm_callV (pc := 49) mX10_dayGoes [_] _ rfl cvX10_dayGoes ml_10_398 sh_76 rfl rfl (Nat.le_of_ble_eq_true rfl) (Nat.le_of_ble_eq_true rfl) dX10_go_49 ?_
      refine sp_X10_dayGoes ev3 ?_
      refine fm_ret0 ?_
      refine fl_iinc2 (pc := 52) rfl 1 (by decide) (by decide) dX10_go_52 ?_
      refine fm_goto (pc := 55) 42 (by decide) dX10_go_55 ?_
      refine fm_fgt [some (.ref 76), some (.int l1), some (.int (l2 + 1))] (by simp [fm_sub]) ?_
      exact ih _ _ h
theorem jn_X10_go_40 {d : Nat} {Q : Option Value → fm_M → Prop}  (l1 : Int32) {x : Int32 × fm_M}  (hq : Q (some (.int x.1)) x.2) (M : fm_M) (h : J_X10_go_40 l1 M = some x) : fm_mw (d + 10) mX10_go Q 40 [some (.ref 76), some (.int l1), none] [] M := by
  rw [J_X10_go_40] at h
  refine fm_iconstv (pc := 40) 0 (by decide) dX10_go_40 ?_
  refine fl_istore2 (pc := 41) rfl (by decide) dX10_go_41 ?_
  obtain ⟨w5, M6, ew5, h⟩ := fm_bdp h
  refine lp_X10_go_42  ?_ _ _ _ ew5
  intro w59 M69 q9
  cases q9
  refine fl_aload0 (pc := 58) dX10_go_58 ?_
  refine fm_getr (pc := 59) lk_10_66 sh_76 rfl dX10_go_59 ?_
  refine fm_iconstv (pc := 62) 0 (by decide) dX10_go_62 ?_
  obtain ⟨g7, h⟩ := fm_gdp h
  refine fm_iald (pc := 63) sh_94 (fm_inb_ok g7) dX10_go_63 ?_
  refine fm_iret (pc := 64) rfl ?_ dX10_go_64
  cases h
  exact hq
theorem sp_X10_go {d : Nat} {a1 : Int32} {M : fm_M} {x : Int32 × fm_M} {Q : Option Value → fm_M → Prop} (h : F_X10_go a1 M = some x) (hq : Q (some (.int x.1)) x.2) : fm_ct (d + 10) mX10_go [.ref 76, .int a1] M Q := by
  rw [F_X10_go] at h
  show fm_mw (d + 10) mX10_go Q 0 [some (.ref 76), some (.int a1), none] [] M
  refine fl_aload0 (pc := 0) dX10_go_0 ?_
  refine fm_iconstv (pc := 1) 0 (by decide) dX10_go_1 ?_
  refine fm_puti (pc := 2) lp_10_130 sh_76 rfl dX10_go_2 ?_
  obtain ⟨M1, eM1, h⟩ := fm_ltp h
  refine fm_cgm eM1 ?_
  refine fl_iload1 (pc := 5) dX10_go_5 ?_
  refine fm_if_lt (pc := 6) 29 (by decide) dX10_go_6 (fun c6 => ?_) (fun c6 => ?_)
  · replace h := fm_itp c6 h
    refine fm_iconstv (pc := 29) (-1) (by decide) dX10_go_29 ?_
    refine fm_iret (pc := 30) rfl ?_ dX10_go_30
    cases h
    exact hq
  · replace h := fm_itn c6 h
    refine fl_iload1 (pc := 9) dX10_go_9 ?_
    refine fm_bipushv (pc := 10) 99 (by decide) dX10_go_10 ?_
    refine fm_icmp_gt (pc := 12) 29 (by decide) dX10_go_12 (fun c12 => ?_) (fun c12 => ?_)
    · replace h := fm_itp c12 h
      refine fm_iconstv (pc := 29) (-1) (by decide) dX10_go_29 ?_
      refine fm_iret (pc := 30) rfl ?_ dX10_go_30
      cases h
      exact hq
    · replace h := fm_itn c12 h
      refine fl_aload0 (pc := 15) dX10_go_15 ?_
      refine fm_getr (pc := 16) lk_10_66 sh_76 rfl dX10_go_16 ?_
      refine fm_iconstv (pc := 19) 0 (by decide) dX10_go_19 ?_
      obtain ⟨g2, h⟩ := fm_gdp h
      refine fm_iald (pc := 20) sh_94 (fm_inb_ok g2) dX10_go_20 ?_
      refine fl_iload1 (pc := 21) dX10_go_21 ?_
      refine fm_iadd (pc := 22) dX10_go_22 ?_
      refine fm_sipushv (pc := 23) 9900 (by decide) dX10_go_23 ?_
      refine fm_icmp_le (pc := 26) 31 (by decide) dX10_go_26 (fun c26 => ?_) (fun c26 => ?_)
      · replace h := fm_itp c26 h
        refine fl_iload1 (pc := 31) dX10_go_31 ?_
        refine fm_if_le (pc := 32) 40 (by decide) dX10_go_32 (fun c32 => ?_) (fun c32 => ?_)
        · replace h := fm_itp c32 h
          exact jn_X10_go_40 _  hq _ h
        · replace h := fm_itn c32 h
          refine fl_aload0 (pc := 35) dX10_go_35 ?_
          refine fm_iconstv (pc := 36) 0 (by decide) dX10_go_36 ?_
          refine fm_puti (pc := 37) lp_10_290 sh_76 rfl dX10_go_37 ?_
          obtain ⟨M8, eM8, h⟩ := fm_ltp h
          refine fm_cgm eM8 ?_
          exact jn_X10_go_40 _  hq _ h
      · replace h := fm_itn c26 h
        refine fm_iconstv (pc := 29) (-1) (by decide) dX10_go_29 ?_
        refine fm_iret (pc := 30) rfl ?_ dX10_go_30
        cases h
        exact hq
/-! X10_ahead -/
def J_X10_ahead_39 (l1 : Int32) (l2 : Int32) (l3 : Int32) (M : fm_M) : Option (Int32 × fm_M) :=
    fm_bd (F_X10_copies 1 0 M) (fun v2 M3 =>
    fm_bd (F_X10_goesOn l1 M3) (fun v4 M5 =>
    if l2 = 0 then (
      fm_bd (F_X10_manyOf 1 1 M5) (fun v6 M7 =>
      fm_bd (F_X10_manyOf 0 1 M7) (fun v8 M9 =>
      some ((v6 - v8), M9)))
    ) else (
    if l2 = 1 then (
      fm_bd (F_X10_manyOf 1 0 M5) (fun v10 M11 =>
      fm_bd (F_X10_manyOf 0 0 M11) (fun v12 M13 =>
      some ((v10 - v12), M13)))
    ) else (
    if l2 = 2 then (
      fm_bd (F_X10_heardAll 1 M5) (fun v14 M15 =>
      fm_bd (F_X10_heardAll 0 M15) (fun v16 M17 =>
      some ((v14 - v16), M17)))
    ) else (
    fm_gd (fm_inb (8 + l3) 184) (
    some ((M5.1 98 (Int32.toNatClampNeg (8 + l3))), M5)))))))
def F_X10_ahead (a1 : Int32) (a2 : Int32) (a3 : Int32) (M : fm_M) : Option (Int32 × fm_M) :=
    fm_lt (fm_up M 76 0 0) (fun M1 =>
    if a1 < 0 then (
      some ((-1), M1)
    ) else (
      if 99 < a1 then (
        some ((-1), M1)
      ) else (
        if a2 < 0 then (
          some ((-1), M1)
        ) else (
          if 3 < a2 then (
            some ((-1), M1)
          ) else (
            if a2 = 3 then (
              fm_bd (F_X10_isFork a3 M1) (fun v19 M20 =>
              if v19 = 0 then (
                some ((-1), M20)
              ) else (
                J_X10_ahead_39 a1 a2 a3 M20
              ))
            ) else (
              J_X10_ahead_39 a1 a2 a3 M1
            )
          )
        )
      )
    ))
theorem jn_X10_ahead_39 {d : Nat} {Q : Option Value → fm_M → Prop}  (l1 : Int32) (l2 : Int32) (l3 : Int32) {x : Int32 × fm_M}  (hq : Q (some (.int x.1)) x.2) (M : fm_M) (h : J_X10_ahead_39 l1 l2 l3 M = some x) : fm_mw (d + 11) mX10_ahead Q 39 [some (.ref 76), some (.int l1), some (.int l2), some (.int l3)] [] M := by
  rw [J_X10_ahead_39] at h
  refine fl_aload0 (pc := 39) dX10_ahead_39 ?_
  refine fm_iconstv (pc := 40) 1 (by decide) dX10_ahead_40 ?_
  refine fm_iconstv (pc := 41) 0 (by decide) dX10_ahead_41 ?_
  obtain ⟨v2, M3, ev2, h⟩ := fm_bdp h
  refine fm_callV (pc := 42) mX10_copies [_, _] _ rfl cvX10_copies ml_10_414 sh_76 rfl rfl (Nat.le_of_ble_eq_true rfl) (Nat.le_of_ble_eq_true rfl) dX10_ahead_42 ?_
  refine sp_X10_copies ev2 ?_
  refine fm_ret0 ?_
  refine fl_aload0 (pc := 45) dX10_ahead_45 ?_
  refine fl_iload1 (pc := 46) dX10_ahead_46 ?_
  obtain ⟨v4, M5, ev4, h⟩ := fm_bdp h
  refine fm_callV (pc := 47) mX10_goesOn [_] _ rfl cvX10_goesOn ml_10_420 sh_76 rfl rfl (Nat.le_of_ble_eq_true rfl) (Nat.le_of_ble_eq_true rfl) dX10_ahead_47 ?_
  refine sp_X10_goesOn ev4 ?_
  refine fm_ret0 ?_
  refine fl_iload2 (pc := 50) dX10_ahead_50 ?_
  by_cases s51_0 : l2 = 0
  · replace h := fm_itp s51_0 h
    refine fm_tswIn (pc := 51) 76 0 (25) (by rw [s51_0]; rfl) (by decide) (by decide) (by decide) (by decide) dX10_ahead_51 ?_
    refine fl_aload0 (pc := 76) dX10_ahead_76 ?_
    refine fm_iconstv (pc := 77) 1 (by decide) dX10_ahead_77 ?_
    refine fm_iconstv (pc := 78) 1 (by decide) dX10_ahead_78 ?_
    obtain ⟨v6, M7, ev6, h⟩ := fm_bdp h
    refine fm_callV (pc := 79) mX10_manyOf [_, _] _ rfl cvX10_manyOf ml_10_423 sh_76 rfl rfl (Nat.le_of_ble_eq_true rfl) (Nat.le_of_ble_eq_true rfl) dX10_ahead_79 ?_
    refine sp_X10_manyOf ev6 ?_
    refine fm_ret1 ?_
    refine fl_aload0 (pc := 82) dX10_ahead_82 ?_
    refine fm_iconstv (pc := 83) 0 (by decide) dX10_ahead_83 ?_
    refine fm_iconstv (pc := 84) 1 (by decide) dX10_ahead_84 ?_
    obtain ⟨v8, M9, ev8, h⟩ := fm_bdp h
    refine fm_callV (pc := 85) mX10_manyOf [_, _] _ rfl cvX10_manyOf ml_10_423 sh_76 rfl rfl (Nat.le_of_ble_eq_true rfl) (Nat.le_of_ble_eq_true rfl) dX10_ahead_85 ?_
    refine sp_X10_manyOf ev8 ?_
    refine fm_ret1 ?_
    refine fm_isub (pc := 88) dX10_ahead_88 ?_
    refine fm_iret (pc := 89) rfl ?_ dX10_ahead_89
    cases h
    exact hq
  · replace h := fm_itn s51_0 h
    by_cases s51_1 : l2 = 1
    · replace h := fm_itp s51_1 h
      refine fm_tswIn (pc := 51) 90 1 (39) (by rw [s51_1]; rfl) (by decide) (by decide) (by decide) (by decide) dX10_ahead_51 ?_
      refine fl_aload0 (pc := 90) dX10_ahead_90 ?_
      refine fm_iconstv (pc := 91) 1 (by decide) dX10_ahead_91 ?_
      refine fm_iconstv (pc := 92) 0 (by decide) dX10_ahead_92 ?_
      obtain ⟨v10, M11, ev10, h⟩ := fm_bdp h
      refine fm_callV (pc := 93) mX10_manyOf [_, _] _ rfl cvX10_manyOf ml_10_423 sh_76 rfl rfl (Nat.le_of_ble_eq_true rfl) (Nat.le_of_ble_eq_true rfl) dX10_ahead_93 ?_
      refine sp_X10_manyOf ev10 ?_
      refine fm_ret1 ?_
      refine fl_aload0 (pc := 96) dX10_ahead_96 ?_
      refine fm_iconstv (pc := 97) 0 (by decide) dX10_ahead_97 ?_
      refine fm_iconstv (pc := 98) 0 (by decide) dX10_ahead_98 ?_
      obtain ⟨v12, M13, ev12, h⟩ := fm_bdp h
      refine fm_callV (pc := 99) mX10_manyOf [_, _] _ rfl cvX10_manyOf ml_10_423 sh_76 rfl rfl (Nat.le_of_ble_eq_true rfl) (Nat.le_of_ble_eq_true rfl) dX10_ahead_99 ?_
      refine sp_X10_manyOf ev12 ?_
      refine fm_ret1 ?_
      refine fm_isub (pc := 102) dX10_ahead_102 ?_
      refine fm_iret (pc := 103) rfl ?_ dX10_ahead_103
      cases h
      exact hq
    · replace h := fm_itn s51_1 h
      by_cases s51_2 : l2 = 2
      · replace h := fm_itp s51_2 h
        refine fm_tswIn (pc := 51) 104 2 (53) (by rw [s51_2]; rfl) (by decide) (by decide) (by decide) (by decide) dX10_ahead_51 ?_
        refine fl_aload0 (pc := 104) dX10_ahead_104 ?_
        refine fm_iconstv (pc := 105) 1 (by decide) dX10_ahead_105 ?_
        obtain ⟨v14, M15, ev14, h⟩ := fm_bdp h
        refine fm_callV (pc := 106) mX10_heardAll [_] _ rfl cvX10_heardAll ml_10_426 sh_76 rfl rfl (Nat.le_of_ble_eq_true rfl) (Nat.le_of_ble_eq_true rfl) dX10_ahead_106 ?_
        refine sp_X10_heardAll ev14 ?_
        refine fm_ret1 ?_
        refine fl_aload0 (pc := 109) dX10_ahead_109 ?_
        refine fm_iconstv (pc := 110) 0 (by decide) dX10_ahead_110 ?_
        obtain ⟨v16, M17, ev16, h⟩ := fm_bdp h
        refine fm_callV (pc := 111) mX10_heardAll [_] _ rfl cvX10_heardAll ml_10_426 sh_76 rfl rfl (Nat.le_of_ble_eq_true rfl) (Nat.le_of_ble_eq_true rfl) dX10_ahead_111 ?_
        refine sp_X10_heardAll ev16 ?_
        refine fm_ret1 ?_
        refine fm_isub (pc := 114) dX10_ahead_114 ?_
        refine fm_iret (pc := 115) rfl ?_ dX10_ahead_115
        cases h
        exact hq
      · replace h := fm_itn s51_2 h
        have q0 : ¬ Int32.toInt l2 = 0 := fun q => s51_0 (Int32.toInt_inj.mp (by rw [q]; rfl))
        have q1 : ¬ Int32.toInt l2 = 1 := fun q => s51_1 (Int32.toInt_inj.mp (by rw [q]; rfl))
        have q2 : ¬ Int32.toInt l2 = 2 := fun q => s51_2 (Int32.toInt_inj.mp (by rw [q]; rfl))
        refine fm_tswOut (pc := 51) 116 (by omega) (by decide) dX10_ahead_51 ?_
        refine fl_aload0 (pc := 116) dX10_ahead_116 ?_
        refine fm_getr (pc := 117) lk_10_78 sh_76 rfl dX10_ahead_117 ?_
        refine fm_bipushv (pc := 120) 8 (by decide) dX10_ahead_120 ?_
        refine fl_iload3 (pc := 122) dX10_ahead_122 ?_
        refine fm_iadd (pc := 123) dX10_ahead_123 ?_
        obtain ⟨g18, h⟩ := fm_gdp h
        refine fm_iald (pc := 124) sh_98 (fm_inb_ok g18) dX10_ahead_124 ?_
        refine fm_iret (pc := 125) rfl ?_ dX10_ahead_125
        cases h
        exact hq
theorem sp_X10_ahead {d : Nat} {a1 : Int32} {a2 : Int32} {a3 : Int32} {M : fm_M} {x : Int32 × fm_M} {Q : Option Value → fm_M → Prop} (h : F_X10_ahead a1 a2 a3 M = some x) (hq : Q (some (.int x.1)) x.2) : fm_ct (d + 11) mX10_ahead [.ref 76, .int a1, .int a2, .int a3] M Q := by
  rw [F_X10_ahead] at h
  show fm_mw (d + 11) mX10_ahead Q 0 [some (.ref 76), some (.int a1), some (.int a2), some (.int a3)] [] M
  refine fl_aload0 (pc := 0) dX10_ahead_0 ?_
  refine fm_iconstv (pc := 1) 0 (by decide) dX10_ahead_1 ?_
  refine fm_puti (pc := 2) lp_10_130 sh_76 rfl dX10_ahead_2 ?_
  obtain ⟨M1, eM1, h⟩ := fm_ltp h
  refine fm_cgm eM1 ?_
  refine fl_iload1 (pc := 5) dX10_ahead_5 ?_
  refine fm_if_lt (pc := 6) 37 (by decide) dX10_ahead_6 (fun c6 => ?_) (fun c6 => ?_)
  · replace h := fm_itp c6 h
    refine fm_iconstv (pc := 37) (-1) (by decide) dX10_ahead_37 ?_
    refine fm_iret (pc := 38) rfl ?_ dX10_ahead_38
    cases h
    exact hq
  · replace h := fm_itn c6 h
    refine fl_iload1 (pc := 9) dX10_ahead_9 ?_
    refine fm_bipushv (pc := 10) 99 (by decide) dX10_ahead_10 ?_
    refine fm_icmp_gt (pc := 12) 37 (by decide) dX10_ahead_12 (fun c12 => ?_) (fun c12 => ?_)
    · replace h := fm_itp c12 h
      refine fm_iconstv (pc := 37) (-1) (by decide) dX10_ahead_37 ?_
      refine fm_iret (pc := 38) rfl ?_ dX10_ahead_38
      cases h
      exact hq
    · replace h := fm_itn c12 h
      refine fl_iload2 (pc := 15) dX10_ahead_15 ?_
      refine fm_if_lt (pc := 16) 37 (by decide) dX10_ahead_16 (fun c16 => ?_) (fun c16 => ?_)
      · replace h := fm_itp c16 h
        refine fm_iconstv (pc := 37) (-1) (by decide) dX10_ahead_37 ?_
        refine fm_iret (pc := 38) rfl ?_ dX10_ahead_38
        cases h
        exact hq
      · replace h := fm_itn c16 h
        refine fl_iload2 (pc := 19) dX10_ahead_19 ?_
        refine fm_iconstv (pc := 20) 3 (by decide) dX10_ahead_20 ?_
        refine fm_icmp_gt (pc := 21) 37 (by decide) dX10_ahead_21 (fun c21 => ?_) (fun c21 => ?_)
        · replace h := fm_itp c21 h
          refine fm_iconstv (pc := 37) (-1) (by decide) dX10_ahead_37 ?_
          refine fm_iret (pc := 38) rfl ?_ dX10_ahead_38
          cases h
          exact hq
        · replace h := fm_itn c21 h
          refine fl_iload2 (pc := 24) dX10_ahead_24 ?_
          refine fm_iconstv (pc := 25) 3 (by decide) dX10_ahead_25 ?_
          refine fm_icmp_ne (pc := 26) 39 (by decide) dX10_ahead_26 (fun c26 => ?_) (fun c26 => ?_)
          · replace h := fm_itn c26 h
            exact jn_X10_ahead_39 _ _ _  hq _ h
          · replace h := fm_itp c26 h
            refine fl_aload0 (pc := 29) dX10_ahead_29 ?_
            refine fl_iload3 (pc := 30) dX10_ahead_30 ?_
            obtain ⟨v19, M20, ev19, h⟩ := fm_bdp h
            refine fm_callV (pc := 31) mX10_isFork [_] _ rfl cvX10_isFork ml_10_404 sh_76 rfl rfl (Nat.le_of_ble_eq_true rfl) (Nat.le_of_ble_eq_true rfl) dX10_ahead_31 ?_
            refine sp_X10_isFork ev19 ?_
            refine fm_ret1 ?_
            refine fm_if_ne (pc := 34) 39 (by decide) dX10_ahead_34 (fun c34 => ?_) (fun c34 => ?_)
            · replace h := fm_itn c34 h
              exact jn_X10_ahead_39 _ _ _  hq _ h
            · replace h := fm_itp c34 h
              refine fm_iconstv (pc := 37) (-1) (by decide) dX10_ahead_37 ?_
              refine fm_iret (pc := 38) rfl ?_ dX10_ahead_38
              cases h
              exact hq
/-! X10_best -/
def G_X10_best_25 : Nat → Int32 → Int32 → Int32 → Int32 → fm_M → Option ((Int32 × Int32 × Int32) × fm_M)
  | 0, _, _, _, _, _ => none
  | n + 1, l1, l2, l3, l4, M =>
    if 999 < l4 then (
      some ((l2, l3, l4), M)
    ) else (
      fm_bd (F_X10_humAll 0 l4 M) (fun v2 M3 =>
      if l3 < v2 then (
        G_X10_best_25 n l1 l4 v2 (l4 + 1) M3
      ) else (
        G_X10_best_25 n l1 l2 l3 (l4 + 1) M3
      ))
    )
def F_X10_best (a1 : Int32) (M : fm_M) : Option (Int32 × fm_M) :=
    fm_lt (fm_up M 76 0 0) (fun M1 =>
    if a1 < 0 then (
      some ((-1), M1)
    ) else (
      if a1 ≤ 1 then (
        fm_bd (G_X10_best_25 fm_fuel a1 100 (-1) 100 M1) (fun w4 M5 =>
          if a1 = 0 then (
            some (w4.1, M5)
          ) else (
            some (w4.2.1, M5)
          ))
      ) else (
        some ((-1), M1)
      )
    ))
theorem lp_X10_best_25 {d : Nat} {Q : Option Value → fm_M → Prop} {l1 : Int32}   {x : (Int32 × Int32 × Int32) × fm_M} (k1 : ∀ (v : Int32 × Int32 × Int32) (M2 : fm_M), x = (v, M2) → fm_mw (d + 8) mX10_best Q 63 [some (.ref 76), some (.int l1), some (.int v.1), some (.int v.2.1), some (.int v.2.2), none] [] M2) : ∀ (n : Nat) (l2 : Int32) (l3 : Int32) (l4 : Int32) (M : fm_M), G_X10_best_25 n l1 l2 l3 l4 M = some x → fm_mw (d + 8) mX10_best Q 25 [some (.ref 76), some (.int l1), some (.int l2), some (.int l3), some (.int l4), none] [] M := by
  intro n
  induction n with
  | zero => intro l2 l3 l4 M h; simp [G_X10_best_25] at h
  | succ n ih =>
    intro l2 l3 l4 M h
    rw [G_X10_best_25] at h
    refine fl_iload4 (pc := 25) dX10_best_25 ?_
    refine fm_sipushv (pc := 27) 999 (by decide) dX10_best_27 ?_
    refine fm_icmp_gt (pc := 30) 63 (by decide) dX10_best_30 (fun c30 => ?_) (fun c30 => ?_)
    · replace h := fm_itp c30 h
      refine fm_fgt [some (.ref 76), some (.int l1), some (.int l2), some (.int l3), some (.int l4), none] (by simp [fm_sub]) ?_
      cases h
      exact k1 _ _ rfl
    · replace h := fm_itn c30 h
      refine fl_aload0 (pc := 33) dX10_best_33 ?_
      refine fm_iconstv (pc := 34) 0 (by decide) dX10_best_34 ?_
      refine fl_iload4 (pc := 35) dX10_best_35 ?_
      obtain ⟨v2, M3, ev2, h⟩ := fm_bdp h
      refine fm_callV (pc := 37) mX10_humAll [_, _] _ rfl cvX10_humAll ml_10_385 sh_76 rfl rfl (Nat.le_of_ble_eq_true rfl) (Nat.le_of_ble_eq_true rfl) dX10_best_37 ?_
      refine sp_X10_humAll ev2 ?_
      refine fm_ret1 ?_
      refine fl_istore5 (pc := 40) rfl (by decide) dX10_best_40 ?_
      refine fl_iload5 (pc := 42) dX10_best_42 ?_
      refine fl_iload3 (pc := 44) dX10_best_44 ?_
      refine fm_icmp_gt (pc := 45) 51 (by decide) dX10_best_45 (fun c45 => ?_) (fun c45 => ?_)
      · replace h := fm_itp c45 h
        refine fl_iload4 (pc := 51) dX10_best_51 ?_
        refine fl_istore2 (pc := 53) rfl (by decide) dX10_best_53 ?_
        refine fl_iload5 (pc := 54) dX10_best_54 ?_
        refine fl_istore3 (pc := 56) rfl (by decide) dX10_best_56 ?_
        refine fl_iinc4 (pc := 57) rfl 1 (by decide) (by decide) dX10_best_57 ?_
        refine fm_goto (pc := 60) 25 (by decide) dX10_best_60 ?_
        refine fm_fgt [some (.ref 76), some (.int l1), some (.int l4), some (.int v2), some (.int (l4 + 1)), none] (by simp [fm_sub]) ?_
        exact ih _ _ _ _ h
      · replace h := fm_itn c45 h
        refine fm_goto (pc := 48) 57 (by decide) dX10_best_48 ?_
        refine fl_iinc4 (pc := 57) rfl 1 (by decide) (by decide) dX10_best_57 ?_
        refine fm_goto (pc := 60) 25 (by decide) dX10_best_60 ?_
        refine fm_fgt [some (.ref 76), some (.int l1), some (.int l2), some (.int l3), some (.int (l4 + 1)), none] (by simp [fm_sub]) ?_
        exact ih _ _ _ _ h
theorem sp_X10_best {d : Nat} {a1 : Int32} {M : fm_M} {x : Int32 × fm_M} {Q : Option Value → fm_M → Prop} (h : F_X10_best a1 M = some x) (hq : Q (some (.int x.1)) x.2) : fm_ct (d + 8) mX10_best [.ref 76, .int a1] M Q := by
  rw [F_X10_best] at h
  show fm_mw (d + 8) mX10_best Q 0 [some (.ref 76), some (.int a1), none, none, none, none] [] M
  refine fl_aload0 (pc := 0) dX10_best_0 ?_
  refine fm_iconstv (pc := 1) 0 (by decide) dX10_best_1 ?_
  refine fm_puti (pc := 2) lp_10_130 sh_76 rfl dX10_best_2 ?_
  obtain ⟨M1, eM1, h⟩ := fm_ltp h
  refine fm_cgm eM1 ?_
  refine fl_iload1 (pc := 5) dX10_best_5 ?_
  refine fm_if_lt (pc := 6) 14 (by decide) dX10_best_6 (fun c6 => ?_) (fun c6 => ?_)
  · replace h := fm_itp c6 h
    refine fm_iconstv (pc := 14) (-1) (by decide) dX10_best_14 ?_
    refine fm_iret (pc := 15) rfl ?_ dX10_best_15
    cases h
    exact hq
  · replace h := fm_itn c6 h
    refine fl_iload1 (pc := 9) dX10_best_9 ?_
    refine fm_iconstv (pc := 10) 1 (by decide) dX10_best_10 ?_
    refine fm_icmp_le (pc := 11) 16 (by decide) dX10_best_11 (fun c11 => ?_) (fun c11 => ?_)
    · replace h := fm_itp c11 h
      refine fm_bipushv (pc := 16) 100 (by decide) dX10_best_16 ?_
      refine fl_istore2 (pc := 18) rfl (by decide) dX10_best_18 ?_
      refine fm_iconstv (pc := 19) (-1) (by decide) dX10_best_19 ?_
      refine fl_istore3 (pc := 20) rfl (by decide) dX10_best_20 ?_
      refine fm_bipushv (pc := 21) 100 (by decide) dX10_best_21 ?_
      refine fl_istore4 (pc := 23) rfl (by decide) dX10_best_23 ?_
      obtain ⟨w4, M5, ew4, h⟩ := fm_bdp h
      refine lp_X10_best_25  ?_ _ _ _ _ _ ew4
      intro w49 M59 q9
      cases q9
      refine fl_iload1 (pc := 63) dX10_best_63 ?_
      refine fm_if_ne (pc := 64) 71 (by decide) dX10_best_64 (fun c64 => ?_) (fun c64 => ?_)
      · replace h := fm_itn c64 h
        refine fl_iload3 (pc := 71) dX10_best_71 ?_
        refine fm_iret (pc := 72) rfl ?_ dX10_best_72
        cases h
        exact hq
      · replace h := fm_itp c64 h
        refine fl_iload2 (pc := 67) dX10_best_67 ?_
        refine fm_goto (pc := 68) 72 (by decide) dX10_best_68 ?_
        refine fm_iret (pc := 72) rfl ?_ dX10_best_72
        cases h
        exact hq
    · replace h := fm_itn c11 h
      refine fm_iconstv (pc := 14) (-1) (by decide) dX10_best_14 ?_
      refine fm_iret (pc := 15) rfl ?_ dX10_best_15
      cases h
      exact hq
/-! X10_open -/
def G_X10_open_10 : Nat → Int32 → Int32 → fm_M → Option ((Int32 × Int32) × fm_M)
  | 0, _, _, _ => none
  | n + 1, l1, l2, M =>
    if 999 < l2 then (
      some ((l1, l2), M)
    ) else (
      fm_bd (F_X10_humAll 0 l2 M) (fun v2 M3 =>
      fm_bd (F_X10_passes 0 l2 v2 M3) (fun v4 M5 =>
      if v4 = 0 then (
        fm_lt ((l1 + 0)) (fun x6 =>
        G_X10_open_10 n x6 (l2 + 1) M5)
      ) else (
        fm_lt ((l1 + 1)) (fun x7 =>
        G_X10_open_10 n x7 (l2 + 1) M5)
      )))
    )
def F_X10_open  (M : fm_M) : Option (Int32 × fm_M) :=
    fm_lt (fm_up M 76 0 0) (fun M1 =>
    fm_bd (G_X10_open_10 fm_fuel 0 100 M1) (fun w8 M9 =>
      some (w8.1, M9)))
theorem lp_X10_open_10 {d : Nat} {Q : Option Value → fm_M → Prop}    {x : (Int32 × Int32) × fm_M} (k1 : ∀ (v : Int32 × Int32) (M2 : fm_M), x = (v, M2) → fm_mw (d + 8) mX10_open Q 46 [some (.ref 76), some (.int v.1), some (.int v.2)] [] M2) : ∀ (n : Nat) (l1 : Int32) (l2 : Int32) (M : fm_M), G_X10_open_10 n l1 l2 M = some x → fm_mw (d + 8) mX10_open Q 10 [some (.ref 76), some (.int l1), some (.int l2)] [] M := by
  intro n
  induction n with
  | zero => intro l1 l2 M h; simp [G_X10_open_10] at h
  | succ n ih =>
    intro l1 l2 M h
    rw [G_X10_open_10] at h
    refine fl_iload2 (pc := 10) dX10_open_10 ?_
    refine fm_sipushv (pc := 11) 999 (by decide) dX10_open_11 ?_
    refine fm_icmp_gt (pc := 14) 46 (by decide) dX10_open_14 (fun c14 => ?_) (fun c14 => ?_)
    · replace h := fm_itp c14 h
      refine fm_fgt [some (.ref 76), some (.int l1), some (.int l2)] (by simp [fm_sub]) ?_
      cases h
      exact k1 _ _ rfl
    · replace h := fm_itn c14 h
      refine fl_iload1 (pc := 17) dX10_open_17 ?_
      refine fl_aload0 (pc := 18) dX10_open_18 ?_
      refine fm_iconstv (pc := 19) 0 (by decide) dX10_open_19 ?_
      refine fl_iload2 (pc := 20) dX10_open_20 ?_
      refine fl_aload0 (pc := 21) dX10_open_21 ?_
      refine fm_iconstv (pc := 22) 0 (by decide) dX10_open_22 ?_
      refine fl_iload2 (pc := 23) dX10_open_23 ?_
      obtain ⟨v2, M3, ev2, h⟩ := fm_bdp h
      refine fm_callV (pc := 24) mX10_humAll [_, _] _ rfl cvX10_humAll ml_10_385 sh_76 rfl rfl (Nat.le_of_ble_eq_true rfl) (Nat.le_of_ble_eq_true rfl) dX10_open_24 ?_
      refine sp_X10_humAll ev2 ?_
      refine fm_ret1 ?_
      obtain ⟨v4, M5, ev4, h⟩ := fm_bdp h
      refine fm_callV (pc := 27) mX10_passes [_, _, _] _ rfl cvX10_passes ml_10_388 sh_76 rfl rfl (Nat.le_of_ble_eq_true rfl) (Nat.le_of_ble_eq_true rfl) dX10_open_27 ?_
      refine sp_X10_passes ev4 ?_
      refine fm_ret1 ?_
      refine fm_if_eq (pc := 30) 37 (by decide) dX10_open_30 (fun c30 => ?_) (fun c30 => ?_)
      · replace h := fm_itp c30 h
        refine fm_iconstv (pc := 37) 0 (by decide) dX10_open_37 ?_
        refine fm_iadd (pc := 38) dX10_open_38 ?_
        obtain ⟨x6, ex6, h⟩ := fm_ltp h
        refine fm_cgi ex6 ?_
        refine fl_istore1 (pc := 39) rfl (by decide) dX10_open_39 ?_
        refine fl_iinc2 (pc := 40) rfl 1 (by decide) (by decide) dX10_open_40 ?_
        refine fm_goto (pc := 43) 10 (by decide) dX10_open_43 ?_
        refine fm_fgt [some (.ref 76), some (.int x6), some (.int (l2 + 1))] (by simp [fm_sub]) ?_
        exact ih _ _ _ h
      · replace h := fm_itn c30 h
        refine fm_iconstv (pc := 33) 1 (by decide) dX10_open_33 ?_
        refine fm_goto (pc := 34) 38 (by decide) dX10_open_34 ?_
        refine fm_iadd (pc := 38) dX10_open_38 ?_
        obtain ⟨x7, ex7, h⟩ := fm_ltp h
        refine fm_cgi ex7 ?_
        refine fl_istore1 (pc := 39) rfl (by decide) dX10_open_39 ?_
        refine fl_iinc2 (pc := 40) rfl 1 (by decide) (by decide) dX10_open_40 ?_
        refine fm_goto (pc := 43) 10 (by decide) dX10_open_43 ?_
        refine fm_fgt [some (.ref 76), some (.int x7), some (.int (l2 + 1))] (by simp [fm_sub]) ?_
        exact ih _ _ _ h
theorem sp_X10_open {d : Nat}  {M : fm_M} {x : Int32 × fm_M} {Q : Option Value → fm_M → Prop} (h : F_X10_open  M = some x) (hq : Q (some (.int x.1)) x.2) : fm_ct (d + 8) mX10_open [.ref 76] M Q := by
  rw [F_X10_open] at h
  show fm_mw (d + 8) mX10_open Q 0 [some (.ref 76), none, none] [] M
  refine fl_aload0 (pc := 0) dX10_open_0 ?_
  refine fm_iconstv (pc := 1) 0 (by decide) dX10_open_1 ?_
  refine fm_puti (pc := 2) lp_10_130 sh_76 rfl dX10_open_2 ?_
  obtain ⟨M1, eM1, h⟩ := fm_ltp h
  refine fm_cgm eM1 ?_
  refine fm_iconstv (pc := 5) 0 (by decide) dX10_open_5 ?_
  refine fl_istore1 (pc := 6) rfl (by decide) dX10_open_6 ?_
  refine fm_bipushv (pc := 7) 100 (by decide) dX10_open_7 ?_
  refine fl_istore2 (pc := 9) rfl (by decide) dX10_open_9 ?_
  obtain ⟨w8, M9, ew8, h⟩ := fm_bdp h
  refine lp_X10_open_10  ?_ _ _ _ _ ew8
  intro w89 M99 q9
  cases q9
  refine fl_iload1 (pc := 46) dX10_open_46 ?_
  refine fm_iret (pc := 47) rfl ?_ dX10_open_47
  cases h
  exact hq
/-! X10_nines -/
def G_X10_nines_4 : Nat → Int32 → Int32 → Int32 → fm_M → Option ((Int32 × Int32) × fm_M)
  | 0, _, _, _, _ => none
  | n + 1, l0, l1, l2, M =>
    if l0 ≤ l2 then (
      some ((l1, l2), M)
    ) else (
      fm_lt ((l1 * 9)) (fun x1 =>
      G_X10_nines_4 n l0 x1 (l2 + 1) M)
    )
def F_X10_nines (a0 : Int32) (M : fm_M) : Option (Int32 × fm_M) :=
    fm_bd (G_X10_nines_4 fm_fuel a0 1 0 M) (fun w2 M3 =>
      some (w2.1, M3))
theorem lp_X10_nines_4 {d : Nat} {Q : Option Value → fm_M → Prop} {l0 : Int32}   {x : (Int32 × Int32) × fm_M} (k1 : ∀ (v : Int32 × Int32) (M2 : fm_M), x = (v, M2) → fm_mw d mX10_nines Q 20 [some (.int l0), some (.int v.1), some (.int v.2)] [] M2) : ∀ (n : Nat) (l1 : Int32) (l2 : Int32) (M : fm_M), G_X10_nines_4 n l0 l1 l2 M = some x → fm_mw d mX10_nines Q 4 [some (.int l0), some (.int l1), some (.int l2)] [] M := by
  intro n
  induction n with
  | zero => intro l1 l2 M h; simp [G_X10_nines_4] at h
  | succ n ih =>
    intro l1 l2 M h
    rw [G_X10_nines_4] at h
    refine fl_iload2 (pc := 4) dX10_nines_4 ?_
    refine fl_iload0 (pc := 5) dX10_nines_5 ?_
    refine fm_icmp_ge (pc := 6) 20 (by decide) dX10_nines_6 (fun c6 => ?_) (fun c6 => ?_)
    · replace h := fm_itp c6 h
      refine fm_fgt [some (.int l0), some (.int l1), some (.int l2)] (by simp [fm_sub]) ?_
      cases h
      exact k1 _ _ rfl
    · replace h := fm_itn c6 h
      refine fl_iload1 (pc := 9) dX10_nines_9 ?_
      refine fm_bipushv (pc := 10) 9 (by decide) dX10_nines_10 ?_
      refine fm_imul (pc := 12) dX10_nines_12 ?_
      obtain ⟨x1, ex1, h⟩ := fm_ltp h
      refine fm_cgi ex1 ?_
      refine fl_istore1 (pc := 13) rfl (by decide) dX10_nines_13 ?_
      refine fl_iinc2 (pc := 14) rfl 1 (by decide) (by decide) dX10_nines_14 ?_
      refine fm_goto (pc := 17) 4 (by decide) dX10_nines_17 ?_
      refine fm_fgt [some (.int l0), some (.int x1), some (.int (l2 + 1))] (by simp [fm_sub]) ?_
      exact ih _ _ _ h
theorem sp_X10_nines {d : Nat} {a0 : Int32} {M : fm_M} {x : Int32 × fm_M} {Q : Option Value → fm_M → Prop} (h : F_X10_nines a0 M = some x) (hq : Q (some (.int x.1)) x.2) : fm_ct d mX10_nines [.int a0] M Q := by
  rw [F_X10_nines] at h
  show fm_mw d mX10_nines Q 0 [some (.int a0), none, none] [] M
  refine fm_iconstv (pc := 0) 1 (by decide) dX10_nines_0 ?_
  refine fl_istore1 (pc := 1) rfl (by decide) dX10_nines_1 ?_
  refine fm_iconstv (pc := 2) 0 (by decide) dX10_nines_2 ?_
  refine fl_istore2 (pc := 3) rfl (by decide) dX10_nines_3 ?_
  obtain ⟨w2, M3, ew2, h⟩ := fm_bdp h
  refine lp_X10_nines_4  ?_ _ _ _ _ ew2
  intro w29 M39 q9
  cases q9
  refine fl_iload1 (pc := 20) dX10_nines_20 ?_
  refine fm_iret (pc := 21) rfl ?_ dX10_nines_21
  cases h
  exact hq
/-! X10_layFiled -/
def G_X10_layFiled_10 : Nat → Int32 → Int32 → Int32 → Int32 → fm_M → Option ((Int32) × fm_M)
  | 0, _, _, _, _, _ => none
  | n + 1, l1, l2, l3, l4, M =>
    if 9 ≤ l4 then (
      some (l4, M)
    ) else (
      fm_gd (fm_inb l3 184) (
      fm_lt ((((M.1 98 (Int32.toNatClampNeg l3)) + l4) - 4)) (fun x2 =>
      fm_bd (F_X10_isNote x2 M) (fun v3 M4 =>
      if v3 = 0 then (
        fm_gd (fm_inb ((9 * l3) + l4) 36) (
        fm_lt (fm_up M4 102 (Int32.toNatClampNeg ((9 * l3) + l4)) (-1)) (fun M14 =>
        G_X10_layFiled_10 n l1 l2 l3 (l4 + 1) M14))
      ) else (
        fm_bd (F_X10_isTouched 0 l3 M4) (fun v5 M6 =>
        if v5 = 0 then (
          fm_bd (F_X10_loudAt 0 l3 x2 l2 M6) (fun v7 M8 =>
          fm_gd (fm_inb ((9 * l3) + l4) 36) (
          fm_lt (fm_up M8 102 (Int32.toNatClampNeg ((9 * l3) + l4)) v7) (fun M10 =>
          G_X10_layFiled_10 n l1 l2 l3 (l4 + 1) M10)))
        ) else (
          fm_gd (fm_inb ((9 * l3) + l4) 36) (
          fm_lt (fm_up M6 102 (Int32.toNatClampNeg ((9 * l3) + l4)) 0) (fun M12 =>
          G_X10_layFiled_10 n l1 l2 l3 (l4 + 1) M12))
        ))
      ))))
    )
def G_X10_layFiled_2 : Nat → Int32 → Int32 → Int32 → fm_M → Option ((Int32) × fm_M)
  | 0, _, _, _, _ => none
  | n + 1, l1, l2, l3, M =>
    if l1 ≤ l3 then (
      some (l3, M)
    ) else (
      fm_bd (G_X10_layFiled_10 fm_fuel l1 l2 l3 0 M) (fun w15 M16 =>
        G_X10_layFiled_2 n l1 l2 (l3 + 1) M16)
    )
def F_X10_layFiled (a1 : Int32) (a2 : Int32) (M : fm_M) : Option (Unit × fm_M) :=
    fm_bd (G_X10_layFiled_2 fm_fuel a1 a2 0 M) (fun w17 M18 =>
      some ((), M18))
theorem lp_X10_layFiled_10 {d : Nat} {Q : Option Value → fm_M → Prop} {l1 : Int32} {l2 : Int32} {l3 : Int32}   {x : (Int32) × fm_M} (k1 : ∀ (v : Int32) (M2 : fm_M), x = (v, M2) → fm_mw (d + 6) mX10_layFiled Q 86 [some (.ref 76), some (.int l1), some (.int l2), some (.int l3), some (.int v), none, none] [] M2) : ∀ (n : Nat) (l4 : Int32) (M : fm_M), G_X10_layFiled_10 n l1 l2 l3 l4 M = some x → fm_mw (d + 6) mX10_layFiled Q 10 [some (.ref 76), some (.int l1), some (.int l2), some (.int l3), some (.int l4), none, none] [] M := by
  intro n
  induction n with
  | zero => intro l4 M h; simp [G_X10_layFiled_10] at h
  | succ n ih =>
    intro l4 M h
    rw [G_X10_layFiled_10] at h
    refine fl_iload4 (pc := 10) dX10_layFiled_10 ?_
    refine fm_bipushv (pc := 12) 9 (by decide) dX10_layFiled_12 ?_
    refine fm_icmp_ge (pc := 14) 86 (by decide) dX10_layFiled_14 (fun c14 => ?_) (fun c14 => ?_)
    · replace h := fm_itp c14 h
      refine fm_fgt [some (.ref 76), some (.int l1), some (.int l2), some (.int l3), some (.int l4), none, none] (by simp [fm_sub]) ?_
      cases h
      exact k1 _ _ rfl
    · replace h := fm_itn c14 h
      refine fl_aload0 (pc := 17) dX10_layFiled_17 ?_
      refine fm_getr (pc := 18) lk_10_78 sh_76 rfl dX10_layFiled_18 ?_
      refine fl_iload3 (pc := 21) dX10_layFiled_21 ?_
      obtain ⟨g1, h⟩ := fm_gdp h
      refine fm_iald (pc := 22) sh_98 (fm_inb_ok g1) dX10_layFiled_22 ?_
      refine fl_iload4 (pc := 23) dX10_layFiled_23 ?_
      refine fm_iadd (pc := 25) dX10_layFiled_25 ?_
      refine fm_iconstv (pc := 26) 4 (by decide) dX10_layFiled_26 ?_
      refine fm_isub (pc := 27) dX10_layFiled_27 ?_
      obtain ⟨x2, ex2, h⟩ := fm_ltp h
      refine fm_cgi ex2 ?_
      refine fl_istore5 (pc := 28) rfl (by decide) dX10_layFiled_28 ?_
      refine fl_iload5 (pc := 30) dX10_layFiled_30 ?_
      obtain ⟨v3, M4, ev3, h⟩ := fm_bdp h
      refine fm_callS (pc := 32) mX10_isNote [_] _ rfl csX10_isNote ml_10_407 rfl (Nat.le_of_ble_eq_true rfl) (Nat.le_of_ble_eq_true rfl) dX10_layFiled_32 ?_
      refine sp_X10_isNote ev3 ?_
      refine fm_ret1 ?_
      refine fl_istore6 (pc := 35) rfl (by decide) dX10_layFiled_35 ?_
      refine fl_aload0 (pc := 37) dX10_layFiled_37 ?_
      refine fm_getr (pc := 38) lk_10_99 sh_76 rfl dX10_layFiled_38 ?_
      refine fm_bipushv (pc := 41) 9 (by decide) dX10_layFiled_41 ?_
      refine fl_iload3 (pc := 43) dX10_layFiled_43 ?_
      refine fm_imul (pc := 44) dX10_layFiled_44 ?_
      refine fl_iload4 (pc := 45) dX10_layFiled_45 ?_
      refine fm_iadd (pc := 47) dX10_layFiled_47 ?_
      refine fl_iload6 (pc := 48) dX10_layFiled_48 ?_
      refine fm_if_ne (pc := 50) 57 (by decide) dX10_layFiled_50 (fun c50 => ?_) (fun c50 => ?_)
      · replace h := fm_itn c50 h
        refine fl_aload0 (pc := 57) dX10_layFiled_57 ?_
        refine fm_iconstv (pc := 58) 0 (by decide) dX10_layFiled_58 ?_
        refine fl_iload3 (pc := 59) dX10_layFiled_59 ?_
        obtain ⟨v5, M6, ev5, h⟩ := fm_bdp h
        refine fm_callV (pc := 60) mX10_isTouched [_, _] _ rfl cvX10_isTouched ml_10_374 sh_76 rfl rfl (Nat.le_of_ble_eq_true rfl) (Nat.le_of_ble_eq_true rfl) dX10_layFiled_60 ?_
        refine sp_X10_isTouched ev5 ?_
        refine fm_ret1 ?_
        refine fm_if_eq (pc := 63) 70 (by decide) dX10_layFiled_63 (fun c63 => ?_) (fun c63 => ?_)
        · replace h := fm_itp c63 h
          refine fl_aload0 (pc := 70) dX10_layFiled_70 ?_
          refine fm_iconstv (pc := 71) 0 (by decide) dX10_layFiled_71 ?_
          refine fl_iload3 (pc := 72) dX10_layFiled_72 ?_
          refine fl_iload5 (pc := 73) dX10_layFiled_73 ?_
          refine fl_iload2 (pc := 75) dX10_layFiled_75 ?_
          obtain ⟨v7, M8, ev7, h⟩ := fm_bdp h
          refine fm_callV (pc := 76) mX10_loudAt [_, _, _, _] _ rfl cvX10_loudAt ml_10_378 sh_76 rfl rfl (Nat.le_of_ble_eq_true rfl) (Nat.le_of_ble_eq_true rfl) dX10_layFiled_76 ?_
          refine sp_X10_loudAt ev7 ?_
          refine fm_ret1 ?_
          obtain ⟨g9, h⟩ := fm_gdp h
          refine fm_iast (pc := 79) sh_102 (fm_inb_ok g9) dX10_layFiled_79 ?_
          obtain ⟨M10, eM10, h⟩ := fm_ltp h
          refine fm_cgm eM10 ?_
          refine fl_iinc4 (pc := 80) rfl 1 (by decide) (by decide) dX10_layFiled_80 ?_
          refine fm_goto (pc := 83) 10 (by decide) dX10_layFiled_83 ?_
          refine fm_fgt [some (.ref 76), some (.int l1), some (.int l2), some (.int l3), some (.int (l4 + 1)), none, none] (by simp [fm_sub]) ?_
          exact ih _ _ h
        · replace h := fm_itn c63 h
          refine fm_iconstv (pc := 66) 0 (by decide) dX10_layFiled_66 ?_
          refine fm_goto (pc := 67) 79 (by decide) dX10_layFiled_67 ?_
          obtain ⟨g11, h⟩ := fm_gdp h
          refine fm_iast (pc := 79) sh_102 (fm_inb_ok g11) dX10_layFiled_79 ?_
          obtain ⟨M12, eM12, h⟩ := fm_ltp h
          refine fm_cgm eM12 ?_
          refine fl_iinc4 (pc := 80) rfl 1 (by decide) (by decide) dX10_layFiled_80 ?_
          refine fm_goto (pc := 83) 10 (by decide) dX10_layFiled_83 ?_
          refine fm_fgt [some (.ref 76), some (.int l1), some (.int l2), some (.int l3), some (.int (l4 + 1)), none, none] (by simp [fm_sub]) ?_
          exact ih _ _ h
      · replace h := fm_itp c50 h
        refine fm_iconstv (pc := 53) (-1) (by decide) dX10_layFiled_53 ?_
        refine fm_goto (pc := 54) 79 (by decide) dX10_layFiled_54 ?_
        obtain ⟨g13, h⟩ := fm_gdp h
        refine fm_iast (pc := 79) sh_102 (fm_inb_ok g13) dX10_layFiled_79 ?_
        obtain ⟨M14, eM14, h⟩ := fm_ltp h
        refine fm_cgm eM14 ?_
        refine fl_iinc4 (pc := 80) rfl 1 (by decide) (by decide) dX10_layFiled_80 ?_
        refine fm_goto (pc := 83) 10 (by decide) dX10_layFiled_83 ?_
        refine fm_fgt [some (.ref 76), some (.int l1), some (.int l2), some (.int l3), some (.int (l4 + 1)), none, none] (by simp [fm_sub]) ?_
        exact ih _ _ h
theorem lp_X10_layFiled_2 {d : Nat} {Q : Option Value → fm_M → Prop} {l1 : Int32} {l2 : Int32}   {x : (Int32) × fm_M} (k1 : ∀ (v : Int32) (M2 : fm_M), x = (v, M2) → fm_mw (d + 6) mX10_layFiled Q 92 [some (.ref 76), some (.int l1), some (.int l2), some (.int v), none, none, none] [] M2) : ∀ (n : Nat) (l3 : Int32) (M : fm_M), G_X10_layFiled_2 n l1 l2 l3 M = some x → fm_mw (d + 6) mX10_layFiled Q 2 [some (.ref 76), some (.int l1), some (.int l2), some (.int l3), none, none, none] [] M := by
  intro n
  induction n with
  | zero => intro l3 M h; simp [G_X10_layFiled_2] at h
  | succ n ih =>
    intro l3 M h
    rw [G_X10_layFiled_2] at h
    refine fl_iload3 (pc := 2) dX10_layFiled_2 ?_
    refine fl_iload1 (pc := 3) dX10_layFiled_3 ?_
    refine fm_icmp_ge (pc := 4) 92 (by decide) dX10_layFiled_4 (fun c4 => ?_) (fun c4 => ?_)
    · replace h := fm_itp c4 h
      refine fm_fgt [some (.ref 76), some (.int l1), some (.int l2), some (.int l3), none, none, none] (by simp [fm_sub]) ?_
      cases h
      exact k1 _ _ rfl
    · replace h := fm_itn c4 h
      refine fm_iconstv (pc := 7) 0 (by decide) dX10_layFiled_7 ?_
      refine fl_istore4 (pc := 8) rfl (by decide) dX10_layFiled_8 ?_
      obtain ⟨w15, M16, ew15, h⟩ := fm_bdp h
      refine lp_X10_layFiled_10  ?_ _ _ _ ew15
      intro w159 M169 q9
      cases q9
      refine fl_iinc3 (pc := 86) rfl 1 (by decide) (by decide) dX10_layFiled_86 ?_
      refine fm_goto (pc := 89) 2 (by decide) dX10_layFiled_89 ?_
      refine fm_fgt [some (.ref 76), some (.int l1), some (.int l2), some (.int (l3 + 1)), none, none, none] (by simp [fm_sub]) ?_
      exact ih _ _ h
theorem sp_X10_layFiled {d : Nat} {a1 : Int32} {a2 : Int32} {M : fm_M} {x : Unit × fm_M} {Q : Option Value → fm_M → Prop} (h : F_X10_layFiled a1 a2 M = some x) (hq : Q none x.2) : fm_ct (d + 6) mX10_layFiled [.ref 76, .int a1, .int a2] M Q := by
  rw [F_X10_layFiled] at h
  show fm_mw (d + 6) mX10_layFiled Q 0 [some (.ref 76), some (.int a1), some (.int a2), none, none, none, none] [] M
  refine fm_iconstv (pc := 0) 0 (by decide) dX10_layFiled_0 ?_
  refine fl_istore3 (pc := 1) rfl (by decide) dX10_layFiled_1 ?_
  obtain ⟨w17, M18, ew17, h⟩ := fm_bdp h
  refine lp_X10_layFiled_2  ?_ _ _ _ ew17
  intro w179 M189 q9
  cases q9
  refine fm_vret (pc := 92) rfl ?_ dX10_layFiled_92
  cases h
  exact hq
/-! X10_bribe -/
def G_X10_bribe_61 : Nat → Int32 → Int32 → Int32 → Int32 → Int32 → fm_M → Option ((Int32 × Int32) × fm_M)
  | 0, _, _, _, _, _, _ => none
  | n + 1, l1, l2, l3, l4, l5, M =>
    fm_gd (fm_inb 0 20) (
    if (M.1 78 (Int32.toNatClampNeg 0)) ≤ l5 then (
      some ((l4, l5), M)
    ) else (
      fm_bd (F_X10_humOf 0 l5 l1 M) (fun v9 M10 =>
      fm_lt ((l4 + v9)) (fun x11 =>
      G_X10_bribe_61 n l1 l2 l3 x11 (l5 + 1) M10))
    ))
def J_X10_bribe_169 (rec : Int32 → Int32 → Int32 → Int32 → fm_M → Option ((Int32 × Int32 × Int32 × Int32) × fm_M)) (l1 : Int32) (l2 : Int32) (l3 : Int32) (l4 : Int32) (l5 : Int32) (l6 : Int32) (l7 : Int32) (l8 : Int32) (l9 : Int32) (l10 : Int32) (l11 : Int32) (l12 : Int32) (s0 : Int32) (s1 : Int32) (M : fm_M) : Option ((Int32 × Int32 × Int32 × Int32) × fm_M) :=
    fm_lt ((s0 &&& s1)) (fun x21 =>
    fm_gd (fm_inb ((9 * l11) + l12) 36) (
    fm_lt ((l8 + (M.1 102 (Int32.toNatClampNeg ((9 * l11) + l12))))) (fun x23 =>
    fm_gd (fm_inb 5 20) (
    fm_lt ((l9 + ((M.1 78 (Int32.toNatClampNeg 5)) * (i_abs (l12 - 4))))) (fun x25 =>
    rec x23 x25 x21 (l11 + 1) M)))))
def G_X10_bribe_122 : Nat → Int32 → Int32 → Int32 → Int32 → Int32 → Int32 → Int32 → Int32 → Int32 → Int32 → Int32 → fm_M → Option ((Int32 × Int32 × Int32 × Int32) × fm_M)
  | 0, _, _, _, _, _, _, _, _, _, _, _, _ => none
  | n + 1, l1, l2, l3, l4, l5, l6, l7, l8, l9, l10, l11, M =>
    if l3 ≤ l11 then (
      some ((l8, l9, l10, l11), M)
    ) else (
      fm_bd (F_X10_nines ((l3 - 1) - l11) M) (fun v16 M17 =>
      fm_gd (fm_nz v16) (
      fm_lt ((i_rem (l7 / v16) 9)) (fun x19 =>
      fm_gd (fm_inb ((9 * l11) + x19) 36) (
      if (M17.1 102 (Int32.toNatClampNeg ((9 * l11) + x19))) = (-1) then (
        J_X10_bribe_169 (G_X10_bribe_122 n l1 l2 l3 l4 l5 l6 l7) l1 l2 l3 l4 l5 l6 l7 l8 l9 l10 l11 x19 l10 0 M17
      ) else (
        J_X10_bribe_169 (G_X10_bribe_122 n l1 l2 l3 l4 l5 l6 l7) l1 l2 l3 l4 l5 l6 l7 l8 l9 l10 l11 x19 l10 1 M17
      )))))
    )
def J_X10_bribe_233 (rec : Int32 → Int32 → Int32 → fm_M → Option ((Int32 × Int32 × Int32) × fm_M)) (l1 : Int32) (l2 : Int32) (l3 : Int32) (l4 : Int32) (l5 : Int32) (l6 : Int32) (l7 : Int32) (l8 : Int32) (l9 : Int32) (l10 : Int32) (l11 : Int32) (M : fm_M) : Option ((Int32 × Int32 × Int32) × fm_M) :=
    fm_bd (F_X10_passes 0 l1 l8 M) (fun v28 M29 =>
    if v28 = 0 then (
      rec l5 l6 (l7 + 1) M29
    ) else (
      rec l7 l9 (l7 + 1) M29
    ))
def G_X10_bribe_100 : Nat → Int32 → Int32 → Int32 → Int32 → Int32 → Int32 → Int32 → fm_M → Option ((Int32 × Int32 × Int32) × fm_M)
  | 0, _, _, _, _, _, _, _, _ => none
  | n + 1, l1, l2, l3, l4, l5, l6, l7, M =>
    fm_bd (F_X10_nines l3 M) (fun v14 M15 =>
    if v14 ≤ l7 then (
      some ((l5, l6, l7), M15)
    ) else (
      fm_bd (G_X10_bribe_122 fm_fuel l1 l2 l3 l4 l5 l6 l7 l4 0 1 0 M15) (fun w26 M27 =>
        if w26.2.2.1 = 0 then (
          G_X10_bribe_100 n l1 l2 l3 l4 l5 l6 (l7 + 1) M27
        ) else (
          if l5 = (-1) then (
            J_X10_bribe_233 (G_X10_bribe_100 n l1 l2 l3 l4) l1 l2 l3 l4 l5 l6 l7 w26.1 w26.2.1 w26.2.2.1 w26.2.2.2 M27
          ) else (
            if l6 ≤ w26.2.1 then (
              G_X10_bribe_100 n l1 l2 l3 l4 l5 l6 (l7 + 1) M27
            ) else (
              J_X10_bribe_233 (G_X10_bribe_100 n l1 l2 l3 l4) l1 l2 l3 l4 l5 l6 l7 w26.1 w26.2.1 w26.2.2.1 w26.2.2.2 M27
            )
          )
        ))
    ))
def J_X10_bribe_49 (l1 : Int32) (l2 : Int32) (l3 : Int32) (M : fm_M) : Option (Int32 × fm_M) :=
    fm_bd (F_X10_layFiled l3 l1 M) (fun v6 M7 =>
    fm_bd (G_X10_bribe_61 fm_fuel l1 l2 l3 0 l3 M7) (fun w12 M13 =>
      fm_bd (G_X10_bribe_100 fm_fuel l1 l2 l3 w12.1 (-1) 0 0 M13) (fun w30 M31 =>
        if w30.1 = (-1) then (
          some ((-8), M31)
        ) else (
          if l2 = 4 then (
            some (w30.2.1, M31)
          ) else (
            fm_bd (F_X10_nines ((l3 - 1) - l2) M31) (fun v32 M33 =>
            fm_gd (fm_nz v32) (
            some (((i_rem (w30.1 / v32) 9) - 4), M33)))
          )
        ))))
def F_X10_bribe (a1 : Int32) (a2 : Int32) (M : fm_M) : Option (Int32 × fm_M) :=
    fm_lt (fm_up M 76 0 0) (fun M1 =>
    fm_bd (F_X10_isNote a1 M1) (fun v2 M3 =>
    if v2 = 0 then (
      some ((-2147483648), M3)
    ) else (
      if a2 < 0 then (
        some ((-2147483648), M3)
      ) else (
        if a2 ≤ 4 then (
          fm_gd (fm_inb 0 20) (
          fm_lt ((i_min 4 (M3.1 78 (Int32.toNatClampNeg 0)))) (fun x5 =>
          if 4 ≤ a2 then (
            J_X10_bribe_49 a1 a2 x5 M3
          ) else (
            if a2 < x5 then (
              J_X10_bribe_49 a1 a2 x5 M3
            ) else (
              some ((-9), M3)
            )
          )))
        ) else (
          some ((-2147483648), M3)
        )
      )
    )))
theorem lp_X10_bribe_61 {d : Nat} {Q : Option Value → fm_M → Prop} {l1 : Int32} {l2 : Int32} {l3 : Int32}   {x : (Int32 × Int32) × fm_M} (k1 : ∀ (v : Int32 × Int32) (M2 : fm_M), x = (v, M2) → fm_mw (d + 7) mX10_bribe Q 91 [some (.ref 76), some (.int l1), some (.int l2), some (.int l3), some (.int v.1), some (.int v.2), none, none, none, none, none, none, none] [] M2) : ∀ (n : Nat) (l4 : Int32) (l5 : Int32) (M : fm_M), G_X10_bribe_61 n l1 l2 l3 l4 l5 M = some x → fm_mw (d + 7) mX10_bribe Q 61 [some (.ref 76), some (.int l1), some (.int l2), some (.int l3), some (.int l4), some (.int l5), none, none, none, none, none, none, none] [] M := by
  intro n
  induction n with
  | zero => intro l4 l5 M h; simp [G_X10_bribe_61] at h
  | succ n ih =>
    intro l4 l5 M h
    rw [G_X10_bribe_61] at h
    refine fl_iload5 (pc := 61) dX10_bribe_61 ?_
    refine fl_aload0 (pc := 63) dX10_bribe_63 ?_
    refine fm_getr (pc := 64) lk_10_13 sh_76 rfl dX10_bribe_64 ?_
    refine fm_iconstv (pc := 67) 0 (by decide) dX10_bribe_67 ?_
    obtain ⟨g8, h⟩ := fm_gdp h
    refine fm_iald (pc := 68) sh_78 (fm_inb_ok g8) dX10_bribe_68 ?_
    refine fm_icmp_ge (pc := 69) 91 (by decide) dX10_bribe_69 (fun c69 => ?_) (fun c69 => ?_)
    · replace h := fm_itp c69 h
      refine fm_fgt [some (.ref 76), some (.int l1), some (.int l2), some (.int l3), some (.int l4), some (.int l5), none, none, none, none, none, none, none] (by simp [fm_sub]) ?_
      cases h
      exact k1 _ _ rfl
    · replace h := fm_itn c69 h
      refine fl_iload4 (pc := 72) dX10_bribe_72 ?_
      refine fl_aload0 (pc := 74) dX10_bribe_74 ?_
      refine fm_iconstv (pc := 75) 0 (by decide) dX10_bribe_75 ?_
      refine fl_iload5 (pc := 76) dX10_bribe_76 ?_
      refine fl_iload1 (pc := 78) dX10_bribe_78 ?_
      obtain ⟨v9, M10, ev9, h⟩ := fm_bdp h
      refine fm_callV (pc := 79) mX10_humOf [_, _, _] _ rfl cvX10_humOf ml_10_382 sh_76 rfl rfl (Nat.le_of_ble_eq_true rfl) (Nat.le_of_ble_eq_true rfl) dX10_bribe_79 ?_
      refine sp_X10_humOf ev9 ?_
      refine fm_ret1 ?_
      refine fm_iadd (pc := 82) dX10_bribe_82 ?_
      obtain ⟨x11, ex11, h⟩ := fm_ltp h
      refine fm_cgi ex11 ?_
      refine fl_istore4 (pc := 83) rfl (by decide) dX10_bribe_83 ?_
      refine fl_iinc5 (pc := 85) rfl 1 (by decide) (by decide) dX10_bribe_85 ?_
      refine fm_goto (pc := 88) 61 (by decide) dX10_bribe_88 ?_
      refine fm_fgt [some (.ref 76), some (.int l1), some (.int l2), some (.int l3), some (.int x11), some (.int (l5 + 1)), none, none, none, none, none, none, none] (by simp [fm_sub]) ?_
      exact ih _ _ _ h
theorem jn_X10_bribe_169 {d : Nat} {Q : Option Value → fm_M → Prop} (rec : Int32 → Int32 → Int32 → Int32 → fm_M → Option ((Int32 × Int32 × Int32 × Int32) × fm_M))  (l1 : Int32) (l2 : Int32) (l3 : Int32) (l4 : Int32) (l5 : Int32) (l6 : Int32) (l7 : Int32) (l8 : Int32) (l9 : Int32) (l10 : Int32) (l11 : Int32) (l12 : Int32) (s0 : Int32) (s1 : Int32) {x : (Int32 × Int32 × Int32 × Int32) × fm_M}  (ih : ∀ (l8 : Int32) (l9 : Int32) (l10 : Int32) (l11 : Int32) (M : fm_M), rec l8 l9 l10 l11 M = some x → fm_mw (d + 7) mX10_bribe Q 122 [some (.ref 76), some (.int l1), some (.int l2), some (.int l3), some (.int l4), some (.int l5), some (.int l6), some (.int l7), some (.int l8), some (.int l9), some (.int l10), some (.int l11), none] [] M) (k1 : ∀ (v : Int32 × Int32 × Int32 × Int32) (M2 : fm_M), x = (v, M2) → fm_mw (d + 7) mX10_bribe Q 215 [some (.ref 76), some (.int l1), some (.int l2), some (.int l3), some (.int l4), some (.int l5), some (.int l6), some (.int l7), some (.int v.1), some (.int v.2.1), some (.int v.2.2.1), some (.int v.2.2.2), none] [] M2) (M : fm_M) (h : J_X10_bribe_169 rec l1 l2 l3 l4 l5 l6 l7 l8 l9 l10 l11 l12 s0 s1 M = some x) : fm_mw (d + 7) mX10_bribe Q 169 [some (.ref 76), some (.int l1), some (.int l2), some (.int l3), some (.int l4), some (.int l5), some (.int l6), some (.int l7), some (.int l8), some (.int l9), some (.int l10), some (.int l11), some (.int l12)] [(.int s1), (.int s0)] M := by
  rw [J_X10_bribe_169] at h
  refine fm_iand (pc := 169) dX10_bribe_169 ?_
  obtain ⟨x21, ex21, h⟩ := fm_ltp h
  refine fm_cgi ex21 ?_
  refine fl_istore10 (pc := 170) rfl (by decide) dX10_bribe_170 ?_
  refine fl_iload8 (pc := 172) dX10_bribe_172 ?_
  refine fl_aload0 (pc := 174) dX10_bribe_174 ?_
  refine fm_getr (pc := 175) lk_10_99 sh_76 rfl dX10_bribe_175 ?_
  refine fm_bipushv (pc := 178) 9 (by decide) dX10_bribe_178 ?_
  refine fl_iload11 (pc := 180) dX10_bribe_180 ?_
  refine fm_imul (pc := 182) dX10_bribe_182 ?_
  refine fl_iload12 (pc := 183) dX10_bribe_183 ?_
  refine fm_iadd (pc := 185) dX10_bribe_185 ?_
  obtain ⟨g22, h⟩ := fm_gdp h
  refine fm_iald (pc := 186) sh_102 (fm_inb_ok g22) dX10_bribe_186 ?_
  refine fm_iadd (pc := 187) dX10_bribe_187 ?_
  obtain ⟨x23, ex23, h⟩ := fm_ltp h
  refine fm_cgi ex23 ?_
  refine fl_istore8 (pc := 188) rfl (by decide) dX10_bribe_188 ?_
  refine fl_iload9 (pc := 190) dX10_bribe_190 ?_
  refine fl_aload0 (pc := 192) dX10_bribe_192 ?_
  refine fm_getr (pc := 193) lk_10_13 sh_76 rfl dX10_bribe_193 ?_
  refine fm_iconstv (pc := 196) 5 (by decide) dX10_bribe_196 ?_
  obtain ⟨g24, h⟩ := fm_gdp h
  refine fm_iald (pc := 197) sh_78 (fm_inb_ok g24) dX10_bribe_197 ?_
  refine fl_iload12 (pc := 198) dX10_bribe_198 ?_
  refine fm_iconstv (pc := 200) 4 (by decide) dX10_bribe_200 ?_
  refine fm_isub (pc := 201) dX10_bribe_201 ?_
  refine fq_mabs (pc := 202) ml_10_334 (Nat.le_of_ble_eq_true rfl) dX10_bribe_202 ?_
  refine fm_imul (pc := 205) dX10_bribe_205 ?_
  refine fm_iadd (pc := 206) dX10_bribe_206 ?_
  obtain ⟨x25, ex25, h⟩ := fm_ltp h
  refine fm_cgi ex25 ?_
  refine fl_istore9 (pc := 207) rfl (by decide) dX10_bribe_207 ?_
  refine fl_iinc11 (pc := 209) rfl 1 (by decide) (by decide) dX10_bribe_209 ?_
  refine fm_goto (pc := 212) 122 (by decide) dX10_bribe_212 ?_
  refine fm_fgt [some (.ref 76), some (.int l1), some (.int l2), some (.int l3), some (.int l4), some (.int l5), some (.int l6), some (.int l7), some (.int x23), some (.int x25), some (.int x21), some (.int (l11 + 1)), none] (by simp [fm_sub]) ?_
  exact ih _ _ _ _ _ h
theorem lp_X10_bribe_122 {d : Nat} {Q : Option Value → fm_M → Prop} {l1 : Int32} {l2 : Int32} {l3 : Int32} {l4 : Int32} {l5 : Int32} {l6 : Int32} {l7 : Int32}   {x : (Int32 × Int32 × Int32 × Int32) × fm_M} (k1 : ∀ (v : Int32 × Int32 × Int32 × Int32) (M2 : fm_M), x = (v, M2) → fm_mw (d + 7) mX10_bribe Q 215 [some (.ref 76), some (.int l1), some (.int l2), some (.int l3), some (.int l4), some (.int l5), some (.int l6), some (.int l7), some (.int v.1), some (.int v.2.1), some (.int v.2.2.1), some (.int v.2.2.2), none] [] M2) : ∀ (n : Nat) (l8 : Int32) (l9 : Int32) (l10 : Int32) (l11 : Int32) (M : fm_M), G_X10_bribe_122 n l1 l2 l3 l4 l5 l6 l7 l8 l9 l10 l11 M = some x → fm_mw (d + 7) mX10_bribe Q 122 [some (.ref 76), some (.int l1), some (.int l2), some (.int l3), some (.int l4), some (.int l5), some (.int l6), some (.int l7), some (.int l8), some (.int l9), some (.int l10), some (.int l11), none] [] M := by
  intro n
  induction n with
  | zero => intro l8 l9 l10 l11 M h; simp [G_X10_bribe_122] at h
  | succ n ih =>
    intro l8 l9 l10 l11 M h
    rw [G_X10_bribe_122] at h
    refine fl_iload11 (pc := 122) dX10_bribe_122 ?_
    refine fl_iload3 (pc := 124) dX10_bribe_124 ?_
    refine fm_icmp_ge (pc := 125) 215 (by decide) dX10_bribe_125 (fun c125 => ?_) (fun c125 => ?_)
    · replace h := fm_itp c125 h
      refine fm_fgt [some (.ref 76), some (.int l1), some (.int l2), some (.int l3), some (.int l4), some (.int l5), some (.int l6), some (.int l7), some (.int l8), some (.int l9), some (.int l10), some (.int l11), none] (by simp [fm_sub]) ?_
      cases h
      exact k1 _ _ rfl
    · replace h := fm_itn c125 h
      refine fl_iload7 (pc := 128) dX10_bribe_128 ?_
      refine fl_iload3 (pc := 130) dX10_bribe_130 ?_
      refine fm_iconstv (pc := 131) 1 (by decide) dX10_bribe_131 ?_
      refine fm_isub (pc := 132) dX10_bribe_132 ?_
      refine fl_iload11 (pc := 133) dX10_bribe_133 ?_
      refine fm_isub (pc := 135) dX10_bribe_135 ?_
      obtain ⟨v16, M17, ev16, h⟩ := fm_bdp h
      refine fm_callS (pc := 136) mX10_nines [_] _ rfl csX10_nines ml_10_435 rfl (Nat.le_of_ble_eq_true rfl) (Nat.le_of_ble_eq_true rfl) dX10_bribe_136 ?_
      refine sp_X10_nines ev16 ?_
      refine fm_ret1 ?_
      obtain ⟨g18, h⟩ := fm_gdp h
      refine fm_idiv (pc := 139) (fm_nz_ok g18) dX10_bribe_139 ?_
      refine fm_bipushv (pc := 140) 9 (by decide) dX10_bribe_140 ?_
      refine fq_irem (pc := 142) (by decide) dX10_bribe_142 ?_
      obtain ⟨x19, ex19, h⟩ := fm_ltp h
      refine fm_cgi ex19 ?_
      refine fl_istore12 (pc := 143) rfl (by decide) dX10_bribe_143 ?_
      refine fl_iload10 (pc := 145) dX10_bribe_145 ?_
      refine fl_aload0 (pc := 147) dX10_bribe_147 ?_
      refine fm_getr (pc := 148) lk_10_99 sh_76 rfl dX10_bribe_148 ?_
      refine fm_bipushv (pc := 151) 9 (by decide) dX10_bribe_151 ?_
      refine fl_iload11 (pc := 153) dX10_bribe_153 ?_
      refine fm_imul (pc := 155) dX10_bribe_155 ?_
      refine fl_iload12 (pc := 156) dX10_bribe_156 ?_
      refine fm_iadd (pc := 158) dX10_bribe_158 ?_
      obtain ⟨g20, h⟩ := fm_gdp h
      refine fm_iald (pc := 159) sh_102 (fm_inb_ok g20) dX10_bribe_159 ?_
      refine fm_iconstv (pc := 160) (-1) (by decide) dX10_bribe_160 ?_
      refine fm_icmp_eq (pc := 161) 168 (by decide) dX10_bribe_161 (fun c161 => ?_) (fun c161 => ?_)
      · replace h := fm_itp c161 h
        refine fm_iconstv (pc := 168) 0 (by decide) dX10_bribe_168 ?_
        exact jn_X10_bribe_169 _ _ _ _ _ _ _ _ _ _ _ _ _ _ _  ih k1 _ h
      · replace h := fm_itn c161 h
        refine fm_iconstv (pc := 164) 1 (by decide) dX10_bribe_164 ?_
        refine fm_goto (pc := 165) 169 (by decide) dX10_bribe_165 ?_
        exact jn_X10_bribe_169 _ _ _ _ _ _ _ _ _ _ _ _ _ _ _  ih k1 _ h
theorem jn_X10_bribe_233 {d : Nat} {Q : Option Value → fm_M → Prop} (rec : Int32 → Int32 → Int32 → fm_M → Option ((Int32 × Int32 × Int32) × fm_M))  (l1 : Int32) (l2 : Int32) (l3 : Int32) (l4 : Int32) (l5 : Int32) (l6 : Int32) (l7 : Int32) (l8 : Int32) (l9 : Int32) (l10 : Int32) (l11 : Int32) {x : (Int32 × Int32 × Int32) × fm_M}  (ih : ∀ (l5 : Int32) (l6 : Int32) (l7 : Int32) (M : fm_M), rec l5 l6 l7 M = some x → fm_mw (d + 7) mX10_bribe Q 100 [some (.ref 76), some (.int l1), some (.int l2), some (.int l3), some (.int l4), some (.int l5), some (.int l6), some (.int l7), none, none, none, none, none] [] M) (k1 : ∀ (v : Int32 × Int32 × Int32) (M2 : fm_M), x = (v, M2) → fm_mw (d + 7) mX10_bribe Q 261 [some (.ref 76), some (.int l1), some (.int l2), some (.int l3), some (.int l4), some (.int v.1), some (.int v.2.1), some (.int v.2.2), none, none, none, none, none] [] M2) (M : fm_M) (h : J_X10_bribe_233 rec l1 l2 l3 l4 l5 l6 l7 l8 l9 l10 l11 M = some x) : fm_mw (d + 7) mX10_bribe Q 233 [some (.ref 76), some (.int l1), some (.int l2), some (.int l3), some (.int l4), some (.int l5), some (.int l6), some (.int l7), some (.int l8), some (.int l9), some (.int l10), some (.int l11), none] [] M := by
  rw [J_X10_bribe_233] at h
  refine fl_aload0 (pc := 233) dX10_bribe_233 ?_
  refine fm_iconstv (pc := 234) 0 (by decide) dX10_bribe_234 ?_
  refine fl_iload1 (pc := 235) dX10_bribe_235 ?_
  refine fl_iload8 (pc := 236) dX10_bribe_236 ?_
  obtain ⟨v28, M29, ev28, h⟩ := fm_bdp h
  refine fm_callV (pc := 238) mX10_passes [_, _, _] _ rfl cvX10_passes ml_10_388 sh_76 rfl rfl (Nat.le_of_ble_eq_true rfl) (Nat.le_of_ble_eq_true rfl) dX10_bribe_238 ?_
  refine sp_X10_passes ev28 ?_
  refine fm_ret1 ?_
  refine fm_if_ne (pc := 241) 247 (by decide) dX10_bribe_241 (fun c241 => ?_) (fun c241 => ?_)
  · replace h := fm_itn c241 h
    refine fl_iload7 (pc := 247) dX10_bribe_247 ?_
    refine fl_istore5 (pc := 249) rfl (by decide) dX10_bribe_249 ?_
    refine fl_iload9 (pc := 251) dX10_bribe_251 ?_
    refine fl_istore6 (pc := 253) rfl (by decide) dX10_bribe_253 ?_
    refine fl_iinc7 (pc := 255) rfl 1 (by decide) (by decide) dX10_bribe_255 ?_
    refine fm_goto (pc := 258) 100 (by decide) dX10_bribe_258 ?_
    refine fm_fgt [some (.ref 76), some (.int l1), some (.int l2), some (.int l3), some (.int l4), some (.int l7), some (.int l9), some (.int (l7 + 1)), none, none, none, none, none] (by simp [fm_sub]) ?_
    exact ih _ _ _ _ h
  · replace h := fm_itp c241 h
    refine fm_goto (pc := 244) 255 (by decide) dX10_bribe_244 ?_
    refine fl_iinc7 (pc := 255) rfl 1 (by decide) (by decide) dX10_bribe_255 ?_
    refine fm_goto (pc := 258) 100 (by decide) dX10_bribe_258 ?_
    refine fm_fgt [some (.ref 76), some (.int l1), some (.int l2), some (.int l3), some (.int l4), some (.int l5), some (.int l6), some (.int (l7 + 1)), none, none, none, none, none] (by simp [fm_sub]) ?_
    exact ih _ _ _ _ h
theorem lp_X10_bribe_100 {d : Nat} {Q : Option Value → fm_M → Prop} {l1 : Int32} {l2 : Int32} {l3 : Int32} {l4 : Int32}   {x : (Int32 × Int32 × Int32) × fm_M} (k1 : ∀ (v : Int32 × Int32 × Int32) (M2 : fm_M), x = (v, M2) → fm_mw (d + 7) mX10_bribe Q 261 [some (.ref 76), some (.int l1), some (.int l2), some (.int l3), some (.int l4), some (.int v.1), some (.int v.2.1), some (.int v.2.2), none, none, none, none, none] [] M2) : ∀ (n : Nat) (l5 : Int32) (l6 : Int32) (l7 : Int32) (M : fm_M), G_X10_bribe_100 n l1 l2 l3 l4 l5 l6 l7 M = some x → fm_mw (d + 7) mX10_bribe Q 100 [some (.ref 76), some (.int l1), some (.int l2), some (.int l3), some (.int l4), some (.int l5), some (.int l6), some (.int l7), none, none, none, none, none] [] M := by
  intro n
  induction n with
  | zero => intro l5 l6 l7 M h; simp [G_X10_bribe_100] at h
  | succ n ih =>
    intro l5 l6 l7 M h
    rw [G_X10_bribe_100] at h
    refine fl_iload7 (pc := 100) dX10_bribe_100 ?_
    refine fl_iload3 (pc := 102) dX10_bribe_102 ?_
    obtain ⟨v14, M15, ev14, h⟩ := fm_bdp h
    refine fm_callS (pc := 103) mX10_nines [_] _ rfl csX10_nines ml_10_435 rfl (Nat.le_of_ble_eq_true rfl) (Nat.le_of_ble_eq_true rfl) dX10_bribe_103 ?_
    refine sp_X10_nines ev14 ?_
    refine fm_ret1 ?_
    refine fm_icmp_ge (pc := 106) 261 (by decide) dX10_bribe_106 (fun c106 => ?_) (fun c106 => ?_)
    · replace h := fm_itp c106 h
      refine fm_fgt [some (.ref 76), some (.int l1), some (.int l2), some (.int l3), some (.int l4), some (.int l5), some (.int l6), some (.int l7), none, none, none, none, none] (by simp [fm_sub]) ?_
      cases h
      exact k1 _ _ rfl
    · replace h := fm_itn c106 h
      refine fl_iload4 (pc := 109) dX10_bribe_109 ?_
      refine fl_istore8 (pc := 111) rfl (by decide) dX10_bribe_111 ?_
      refine fm_iconstv (pc := 113) 0 (by decide) dX10_bribe_113 ?_
      refine fl_istore9 (pc := 114) rfl (by decide) dX10_bribe_114 ?_
      refine fm_iconstv (pc := 116) 1 (by decide) dX10_bribe_116 ?_
      refine fl_istore10 (pc := 117) rfl (by decide) dX10_bribe_117 ?_
      refine fm_iconstv (pc := 119) 0 (by decide) dX10_bribe_119 ?_
      refine fl_istore11 (pc := 120) rfl (by decide) dX10_bribe_120 ?_
      obtain ⟨w26, M27, ew26, h⟩ := fm_bdp h
      refine lp_X10_bribe_122  ?_ _ _ _ _ _ _ ew26
      intro w269 M279 q9
      cases q9
      refine fl_iload10 (pc := 215) dX10_bribe_215 ?_
      refine fm_if_eq (pc := 217) 255 (by decide) dX10_bribe_217 (fun c217 => ?_) (fun c217 => ?_)
      · replace h := fm_itp c217 h
        refine fl_iinc7 (pc := 255) rfl 1 (by decide) (by decide) dX10_bribe_255 ?_
        refine fm_goto (pc := 258) 100 (by decide) dX10_bribe_258 ?_
        refine fm_fgt [some (.ref 76), some (.int l1), some (.int l2), some (.int l3), some (.int l4), some (.int l5), some (.int l6), some (.int (l7 + 1)), none, none, none, none, none] (by simp [fm_sub]) ?_
        exact ih _ _ _ _ h
      · replace h := fm_itn c217 h
        refine fl_iload5 (pc := 220) dX10_bribe_220 ?_
        refine fm_iconstv (pc := 222) (-1) (by decide) dX10_bribe_222 ?_
        refine fm_icmp_eq (pc := 223) 233 (by decide) dX10_bribe_223 (fun c223 => ?_) (fun c223 => ?_)
        · replace h := fm_itp c223 h
          exact jn_X10_bribe_233 _ _ _ _ _ _ _ _ _ _ _ _  ih k1 _ h
        · replace h := fm_itn c223 h
          refine fl_iload9 (pc := 226) dX10_bribe_226 ?_
          refine fl_iload6 (pc := 228) dX10_bribe_228 ?_
          refine fm_icmp_ge (pc := 230) 255 (by decide) dX10_bribe_230 (fun c230 => ?_) (fun c230 => ?_)
          · replace h := fm_itp c230 h
            refine fl_iinc7 (pc := 255) rfl 1 (by decide) (by decide) dX10_bribe_255 ?_
            refine fm_goto (pc := 258) 100 (by decide) dX10_bribe_258 ?_
            refine fm_fgt [some (.ref 76), some (.int l1), some (.int l2), some (.int l3), some (.int l4), some (.int l5), some (.int l6), some (.int (l7 + 1)), none, none, none, none, none] (by simp [fm_sub]) ?_
            exact ih _ _ _ _ h
          · replace h := fm_itn c230 h
            exact jn_X10_bribe_233 _ _ _ _ _ _ _ _ _ _ _ _  ih k1 _ h
theorem jn_X10_bribe_49 {d : Nat} {Q : Option Value → fm_M → Prop}  (l1 : Int32) (l2 : Int32) (l3 : Int32) {x : Int32 × fm_M}  (hq : Q (some (.int x.1)) x.2) (M : fm_M) (h : J_X10_bribe_49 l1 l2 l3 M = some x) : fm_mw (d + 7) mX10_bribe Q 49 [some (.ref 76), some (.int l1), some (.int l2), some (.int l3), none, none, none, none, none, none, none, none, none] [] M := by
  rw [J_X10_bribe_49] at h
  refine fl_aload0 (pc := 49) dX10_bribe_49 ?_
  refine fl_iload3 (pc := 50) dX10_bribe_50 ?_
  refine fl_iload1 (pc := 51) dX10_bribe_51 ?_
  obtain ⟨v6, M7, ev6, h⟩ := fm_bdp h
  refine fm_callV (pc := 52) mX10_layFiled [_, _] _ rfl cvX10_layFiled ml_10_432 sh_76 rfl rfl (Nat.le_of_ble_eq_true rfl) (Nat.le_of_ble_eq_true rfl) dX10_bribe_52 ?_
  refine sp_X10_layFiled ev6 ?_
  refine fm_ret0 ?_
  refine fm_iconstv (pc := 55) 0 (by decide) dX10_bribe_55 ?_
  refine fl_istore4 (pc := 56) rfl (by decide) dX10_bribe_56 ?_
  refine fl_iload3 (pc := 58) dX10_bribe_58 ?_
  refine fl_istore5 (pc := 59) rfl (by decide) dX10_bribe_59 ?_
  obtain ⟨w12, M13, ew12, h⟩ := fm_bdp h
  refine lp_X10_bribe_61  ?_ _ _ _ _ ew12
  intro w129 M139 q9
  cases q9
  refine fm_iconstv (pc := 91) (-1) (by decide) dX10_bribe_91 ?_
  refine fl_istore5 (pc := 92) rfl (by decide) dX10_bribe_92 ?_
  refine fm_iconstv (pc := 94) 0 (by decide) dX10_bribe_94 ?_
  refine fl_istore6 (pc := 95) rfl (by decide) dX10_bribe_95 ?_
  refine fm_iconstv (pc := 97) 0 (by decide) dX10_bribe_97 ?_
  refine fl_istore7 (pc := 98) rfl (by decide) dX10_bribe_98 ?_
  obtain ⟨w30, M31, ew30, h⟩ := fm_bdp h
  refine lp_X10_bribe_100  ?_ _ _ _ _ _ ew30
  intro w309 M319 q9
  cases q9
  refine fl_iload5 (pc := 261) dX10_bribe_261 ?_
  refine fm_iconstv (pc := 263) (-1) (by decide) dX10_bribe_263 ?_
  refine fm_icmp_ne (pc := 264) 270 (by decide) dX10_bribe_264 (fun c264 => ?_) (fun c264 => ?_)
  · replace h := fm_itn c264 h
    refine fl_iload2 (pc := 270) dX10_bribe_270 ?_
    refine fm_iconstv (pc := 271) 4 (by decide) dX10_bribe_271 ?_
    refine fm_icmp_ne (pc := 272) 280 (by decide) dX10_bribe_272 (fun c272 => ?_) (fun c272 => ?_)
    · replace h := fm_itn c272 h
      refine fl_iload5 (pc := 280) dX10_bribe_280 ?_
      refine fl_iload3 (pc := 282) dX10_bribe_282 ?_
      refine fm_iconstv (pc := 283) 1 (by decide) dX10_bribe_283 ?_
      refine fm_isub (pc := 284) dX10_bribe_284 ?_
      refine fl_iload2 (pc := 285) dX10_bribe_285 ?_
      refine fm_isub (pc := 286) dX10_bribe_286 ?_
      obtain ⟨v32, M33, ev32, h⟩ := fm_bdp h
      refine fm_callS (pc := 287) mX10_nines [_] _ rfl csX10_nines ml_10_435 rfl (Nat.le_of_ble_eq_true rfl) (Nat.le_of_ble_eq_true rfl) dX10_bribe_287 ?_
      refine sp_X10_nines ev32 ?_
      refine fm_ret1 ?_
      obtain ⟨g34, h⟩ := fm_gdp h
      refine fm_idiv (pc := 290) (fm_nz_ok g34) dX10_bribe_290 ?_
      refine fm_bipushv (pc := 291) 9 (by decide) dX10_bribe_291 ?_
      refine fq_irem (pc := 293) (by decide) dX10_bribe_293 ?_
      refine fm_iconstv (pc := 294) 4 (by decide) dX10_bribe_294 ?_
      refine fm_isub (pc := 295) dX10_bribe_295 ?_
      refine fm_iret (pc := 296) rfl ?_ dX10_bribe_296
      cases h
      exact hq
    · replace h := fm_itp c272 h
      refine fl_iload6 (pc := 275) dX10_bribe_275 ?_
      refine fm_goto (pc := 277) 296 (by decide) dX10_bribe_277 ?_
      refine fm_iret (pc := 296) rfl ?_ dX10_bribe_296
      cases h
      exact hq
  · replace h := fm_itp c264 h
    refine fm_bipushv (pc := 267) (-8) (by decide) dX10_bribe_267 ?_
    refine fm_iret (pc := 269) rfl ?_ dX10_bribe_269
    cases h
    exact hq
theorem sp_X10_bribe {d : Nat} {a1 : Int32} {a2 : Int32} {M : fm_M} {x : Int32 × fm_M} {Q : Option Value → fm_M → Prop} (h : F_X10_bribe a1 a2 M = some x) (hq : Q (some (.int x.1)) x.2) : fm_ct (d + 7) mX10_bribe [.ref 76, .int a1, .int a2] M Q := by
  rw [F_X10_bribe] at h
  show fm_mw (d + 7) mX10_bribe Q 0 [some (.ref 76), some (.int a1), some (.int a2), none, none, none, none, none, none, none, none, none, none] [] M
  refine fl_aload0 (pc := 0) dX10_bribe_0 ?_
  refine fm_iconstv (pc := 1) 0 (by decide) dX10_bribe_1 ?_
  refine fm_puti (pc := 2) lp_10_130 sh_76 rfl dX10_bribe_2 ?_
  obtain ⟨M1, eM1, h⟩ := fm_ltp h
  refine fm_cgm eM1 ?_
  refine fl_iload1 (pc := 5) dX10_bribe_5 ?_
  obtain ⟨v2, M3, ev2, h⟩ := fm_bdp h
  refine fm_callS (pc := 6) mX10_isNote [_] _ rfl csX10_isNote ml_10_407 rfl (Nat.le_of_ble_eq_true rfl) (Nat.le_of_ble_eq_true rfl) dX10_bribe_6 ?_
  refine sp_X10_isNote ev2 ?_
  refine fm_ret1 ?_
  refine fm_if_eq (pc := 9) 21 (by decide) dX10_bribe_9 (fun c9 => ?_) (fun c9 => ?_)
  · replace h := fm_itp c9 h
    refine fm_ldcw (pc := 21) kc_10_431 dX10_bribe_21 ?_
    refine fm_iret (pc := 24) rfl ?_ dX10_bribe_24
    cases h
    exact hq
  · replace h := fm_itn c9 h
    refine fl_iload2 (pc := 12) dX10_bribe_12 ?_
    refine fm_if_lt (pc := 13) 21 (by decide) dX10_bribe_13 (fun c13 => ?_) (fun c13 => ?_)
    · replace h := fm_itp c13 h
      refine fm_ldcw (pc := 21) kc_10_431 dX10_bribe_21 ?_
      refine fm_iret (pc := 24) rfl ?_ dX10_bribe_24
      cases h
      exact hq
    · replace h := fm_itn c13 h
      refine fl_iload2 (pc := 16) dX10_bribe_16 ?_
      refine fm_iconstv (pc := 17) 4 (by decide) dX10_bribe_17 ?_
      refine fm_icmp_le (pc := 18) 25 (by decide) dX10_bribe_18 (fun c18 => ?_) (fun c18 => ?_)
      · replace h := fm_itp c18 h
        refine fm_iconstv (pc := 25) 4 (by decide) dX10_bribe_25 ?_
        refine fl_aload0 (pc := 26) dX10_bribe_26 ?_
        refine fm_getr (pc := 27) lk_10_13 sh_76 rfl dX10_bribe_27 ?_
        refine fm_iconstv (pc := 30) 0 (by decide) dX10_bribe_30 ?_
        obtain ⟨g4, h⟩ := fm_gdp h
        refine fm_iald (pc := 31) sh_78 (fm_inb_ok g4) dX10_bribe_31 ?_
        refine fq_mmin (pc := 32) ml_10_336 (Nat.le_of_ble_eq_true rfl) dX10_bribe_32 ?_
        obtain ⟨x5, ex5, h⟩ := fm_ltp h
        refine fm_cgi ex5 ?_
        refine fl_istore3 (pc := 35) rfl (by decide) dX10_bribe_35 ?_
        refine fl_iload2 (pc := 36) dX10_bribe_36 ?_
        refine fm_iconstv (pc := 37) 4 (by decide) dX10_bribe_37 ?_
        refine fm_icmp_ge (pc := 38) 49 (by decide) dX10_bribe_38 (fun c38 => ?_) (fun c38 => ?_)
        · replace h := fm_itp c38 h
          exact jn_X10_bribe_49 _ _ _  hq _ h
        · replace h := fm_itn c38 h
          refine fl_iload2 (pc := 41) dX10_bribe_41 ?_
          refine fl_iload3 (pc := 42) dX10_bribe_42 ?_
          refine fm_icmp_lt (pc := 43) 49 (by decide) dX10_bribe_43 (fun c43 => ?_) (fun c43 => ?_)
          · replace h := fm_itp c43 h
            exact jn_X10_bribe_49 _ _ _  hq _ h
          · replace h := fm_itn c43 h
            refine fm_bipushv (pc := 46) (-9) (by decide) dX10_bribe_46 ?_
            refine fm_iret (pc := 48) rfl ?_ dX10_bribe_48
            cases h
            exact hq
      · replace h := fm_itn c18 h
        refine fm_ldcw (pc := 21) kc_10_431 dX10_bribe_21 ?_
        refine fm_iret (pc := 24) rfl ?_ dX10_bribe_24
        cases h
        exact hq
/-! X10_swing -/
def G_X10_swing_68 : Nat → Int32 → Int32 → Int32 → Int32 → Int32 → Int32 → Int32 → fm_M → Option ((Int32 × Int32) × fm_M)
  | 0, _, _, _, _, _, _, _, _ => none
  | n + 1, l1, l2, l3, l4, l5, l6, l7, M =>
    fm_gd (fm_inb 0 20) (
    if (M.1 78 (Int32.toNatClampNeg 0)) ≤ l7 then (
      some ((l6, l7), M)
    ) else (
      if ((l5 >>> (l7 &&& 31)) &&& 1) = 1 then (
        fm_bd (F_X10_humOf 0 l7 l2 M) (fun v11 M12 =>
        fm_lt ((l6 + v11)) (fun x13 =>
        G_X10_swing_68 n l1 l2 l3 l4 l5 x13 (l7 + 1) M12))
      ) else (
        fm_lt ((l6 + 0)) (fun x10 =>
        G_X10_swing_68 n l1 l2 l3 l4 l5 x10 (l7 + 1) M)
      )
    ))
def G_X10_swing_36 : Nat → Int32 → Int32 → Int32 → Int32 → Int32 → fm_M → Option ((Int32 × Int32) × fm_M)
  | 0, _, _, _, _, _, _ => none
  | n + 1, l1, l2, l3, l4, l5, M =>
    fm_gd (fm_inb 0 20) (
    if (1 <<< ((M.1 78 (Int32.toNatClampNeg 0)) &&& 31)) ≤ l5 then (
      some ((l4, l5), M)
    ) else (
      if ((l5 >>> (l1 &&& 31)) &&& 1) = 1 then (
        G_X10_swing_36 n l1 l2 l3 l4 (l5 + 1) M
      ) else (
        fm_bd (G_X10_swing_68 fm_fuel l1 l2 l3 l4 l5 0 0 M) (fun w14 M15 =>
          fm_gd (fm_inb 2 20) (
          if (M15.1 78 (Int32.toNatClampNeg 2)) ≤ w14.1 then (
            fm_lt ((l4 + 0)) (fun x17 =>
            G_X10_swing_36 n l1 l2 l3 x17 (l5 + 1) M15)
          ) else (
            fm_gd (fm_inb 2 20) (
            if (w14.1 + l3) < (M15.1 78 (Int32.toNatClampNeg 2)) then (
              fm_lt ((l4 + 0)) (fun x19 =>
              G_X10_swing_36 n l1 l2 l3 x19 (l5 + 1) M15)
            ) else (
              fm_lt ((l4 + 1)) (fun x20 =>
              G_X10_swing_36 n l1 l2 l3 x20 (l5 + 1) M15)
            ))
          )))
      )
    ))
def F_X10_swing (a1 : Int32) (a2 : Int32) (M : fm_M) : Option (Int32 × fm_M) :=
    fm_lt (fm_up M 76 0 0) (fun M1 =>
    fm_bd (F_X10_isFork a1 M1) (fun v2 M3 =>
    if v2 = 0 then (
      some ((-1), M3)
    ) else (
      fm_bd (F_X10_isNote a2 M3) (fun v4 M5 =>
      if v4 = 0 then (
        some ((-1), M5)
      ) else (
        fm_bd (F_X10_humOf 0 a1 a2 M5) (fun v6 M7 =>
        fm_bd (G_X10_swing_36 fm_fuel a1 a2 v6 0 0 M7) (fun w21 M22 =>
          some (w21.1, M22)))
      ))
    )))
theorem lp_X10_swing_68 {d : Nat} {Q : Option Value → fm_M → Prop} {l1 : Int32} {l2 : Int32} {l3 : Int32} {l4 : Int32} {l5 : Int32}   {x : (Int32 × Int32) × fm_M} (k1 : ∀ (v : Int32 × Int32) (M2 : fm_M), x = (v, M2) → fm_mw (d + 7) mX10_swing Q 113 [some (.ref 76), some (.int l1), some (.int l2), some (.int l3), some (.int l4), some (.int l5), some (.int v.1), some (.int v.2)] [] M2) : ∀ (n : Nat) (l6 : Int32) (l7 : Int32) (M : fm_M), G_X10_swing_68 n l1 l2 l3 l4 l5 l6 l7 M = some x → fm_mw (d + 7) mX10_swing Q 68 [some (.ref 76), some (.int l1), some (.int l2), some (.int l3), some (.int l4), some (.int l5), some (.int l6), some (.int l7)] [] M := by
  intro n
  induction n with
  | zero => intro l6 l7 M h; simp [G_X10_swing_68] at h
  | succ n ih =>
    intro l6 l7 M h
    rw [G_X10_swing_68] at h
    refine fl_iload7 (pc := 68) dX10_swing_68 ?_
    refine fl_aload0 (pc := 70) dX10_swing_70 ?_
    refine fm_getr (pc := 71) lk_10_13 sh_76 rfl dX10_swing_71 ?_
    refine fm_iconstv (pc := 74) 0 (by decide) dX10_swing_74 ?_
    obtain ⟨g9, h⟩ := fm_gdp h
    refine fm_iald (pc := 75) sh_78 (fm_inb_ok g9) dX10_swing_75 ?_
    refine fm_icmp_ge (pc := 76) 113 (by decide) dX10_swing_76 (fun c76 => ?_) (fun c76 => ?_)
    · replace h := fm_itp c76 h
      refine fm_fgt [some (.ref 76), some (.int l1), some (.int l2), some (.int l3), some (.int l4), some (.int l5), some (.int l6), some (.int l7)] (by simp [fm_sub]) ?_
      cases h
      exact k1 _ _ rfl
    · replace h := fm_itn c76 h
      refine fl_iload6 (pc := 79) dX10_swing_79 ?_
      refine fl_iload5 (pc := 81) dX10_swing_81 ?_
      refine fl_iload7 (pc := 83) dX10_swing_83 ?_
      refine fm_ishr (pc := 85) dX10_swing_85 ?_
      refine fm_iconstv (pc := 86) 1 (by decide) dX10_swing_86 ?_
      refine fm_iand (pc := 87) dX10_swing_87 ?_
      refine fm_iconstv (pc := 88) 1 (by decide) dX10_swing_88 ?_
      refine fm_icmp_ne (pc := 89) 103 (by decide) dX10_swing_89 (fun c89 => ?_) (fun c89 => ?_)
      · replace h := fm_itn c89 h
        refine fm_iconstv (pc := 103) 0 (by decide) dX10_swing_103 ?_
        refine fm_iadd (pc := 104) dX10_swing_104 ?_
        obtain ⟨x10, ex10, h⟩ := fm_ltp h
        refine fm_cgi ex10 ?_
        refine fl_istore6 (pc := 105) rfl (by decide) dX10_swing_105 ?_
        refine fl_iinc7 (pc := 107) rfl 1 (by decide) (by decide) dX10_swing_107 ?_
        refine fm_goto (pc := 110) 68 (by decide) dX10_swing_110 ?_
        refine fm_fgt [some (.ref 76), some (.int l1), some (.int l2), some (.int l3), some (.int l4), some (.int l5), some (.int x10), some (.int (l7 + 1))] (by simp [fm_sub]) ?_
        exact ih _ _ _ h
      · replace h := fm_itp c89 h
        refine fl_aload0 (pc := 92) dX10_swing_92 ?_
        refine fm_iconstv (pc := 93) 0 (by decide) dX10_swing_93 ?_
        refine fl_iload7 (pc := 94) dX10_swing_94 ?_
        refine fl_iload2 (pc := 96) dX10_swing_96 ?_
        obtain ⟨v11, M12, ev11, h⟩ := fm_bdp h
        refine fm_callV (pc := 97) mX10_humOf [_, _, _] _ rfl cvX10_humOf ml_10_382 sh_76 rfl rfl (Nat.le_of_ble_eq_true rfl) (Nat.le_of_ble_eq_true rfl) dX10_swing_97 ?_
        refine sp_X10_humOf ev11 ?_
        refine fm_ret1 ?_
        refine fm_goto (pc := 100) 104 (by decide) dX10_swing_100 ?_
        refine fm_iadd (pc := 104) dX10_swing_104 ?_
        obtain ⟨x13, ex13, h⟩ := fm_ltp h
        refine fm_cgi ex13 ?_
        refine fl_istore6 (pc := 105) rfl (by decide) dX10_swing_105 ?_
        refine fl_iinc7 (pc := 107) rfl 1 (by decide) (by decide) dX10_swing_107 ?_
        refine fm_goto (pc := 110) 68 (by decide) dX10_swing_110 ?_
        refine fm_fgt [some (.ref 76), some (.int l1), some (.int l2), some (.int l3), some (.int l4), some (.int l5), some (.int x13), some (.int (l7 + 1))] (by simp [fm_sub]) ?_
        exact ih _ _ _ h
theorem lp_X10_swing_36 {d : Nat} {Q : Option Value → fm_M → Prop} {l1 : Int32} {l2 : Int32} {l3 : Int32}   {x : (Int32 × Int32) × fm_M} (k1 : ∀ (v : Int32 × Int32) (M2 : fm_M), x = (v, M2) → fm_mw (d + 7) mX10_swing Q 153 [some (.ref 76), some (.int l1), some (.int l2), some (.int l3), some (.int v.1), some (.int v.2), none, none] [] M2) : ∀ (n : Nat) (l4 : Int32) (l5 : Int32) (M : fm_M), G_X10_swing_36 n l1 l2 l3 l4 l5 M = some x → fm_mw (d + 7) mX10_swing Q 36 [some (.ref 76), some (.int l1), some (.int l2), some (.int l3), some (.int l4), some (.int l5), none, none] [] M := by
  intro n
  induction n with
  | zero => intro l4 l5 M h; simp [G_X10_swing_36] at h
  | succ n ih =>
    intro l4 l5 M h
    rw [G_X10_swing_36] at h
    refine fl_iload5 (pc := 36) dX10_swing_36 ?_
    refine fm_iconstv (pc := 38) 1 (by decide) dX10_swing_38 ?_
    refine fl_aload0 (pc := 39) dX10_swing_39 ?_
    refine fm_getr (pc := 40) lk_10_13 sh_76 rfl dX10_swing_40 ?_
    refine fm_iconstv (pc := 43) 0 (by decide) dX10_swing_43 ?_
    obtain ⟨g8, h⟩ := fm_gdp h
    refine fm_iald (pc := 44) sh_78 (fm_inb_ok g8) dX10_swing_44 ?_
    refine fm_ishl (pc := 45) dX10_swing_45 ?_
    refine fm_icmp_ge (pc := 46) 153 (by decide) dX10_swing_46 (fun c46 => ?_) (fun c46 => ?_)
    · replace h := fm_itp c46 h
      refine fm_fgt [some (.ref 76), some (.int l1), some (.int l2), some (.int l3), some (.int l4), some (.int l5), none, none] (by simp [fm_sub]) ?_
      cases h
      exact k1 _ _ rfl
    · replace h := fm_itn c46 h
      refine fl_iload5 (pc := 49) dX10_swing_49 ?_
      refine fl_iload1 (pc := 51) dX10_swing_51 ?_
      refine fm_ishr (pc := 52) dX10_swing_52 ?_
      refine fm_iconstv (pc := 53) 1 (by decide) dX10_swing_53 ?_
      refine fm_iand (pc := 54) dX10_swing_54 ?_
      refine fm_iconstv (pc := 55) 1 (by decide) dX10_swing_55 ?_
      refine fm_icmp_ne (pc := 56) 62 (by decide) dX10_swing_56 (fun c56 => ?_) (fun c56 => ?_)
      · replace h := fm_itn c56 h
        refine fm_iconstv (pc := 62) 0 (by decide) dX10_swing_62 ?_
        refine fl_istore6 (pc := 63) rfl (by decide) dX10_swing_63 ?_
        refine fm_iconstv (pc := 65) 0 (by decide) dX10_swing_65 ?_
        refine fl_istore7 (pc := 66) rfl (by decide) dX10_swing_66 ?_
        obtain ⟨w14, M15, ew14, h⟩ := fm_bdp h
        refine lp_X10_swing_68  ?_ _ _ _ _ ew14
        intro w149 M159 q9
        cases q9
        refine fl_iload4 (pc := 113) dX10_swing_113 ?_
        refine fl_iload6 (pc := 115) dX10_swing_115 ?_
        refine fl_aload0 (pc := 117) dX10_swing_117 ?_
        refine fm_getr (pc := 118) lk_10_13 sh_76 rfl dX10_swing_118 ?_
        refine fm_iconstv (pc := 121) 2 (by decide) dX10_swing_121 ?_
        obtain ⟨g16, h⟩ := fm_gdp h
        refine fm_iald (pc := 122) sh_78 (fm_inb_ok g16) dX10_swing_122 ?_
        refine fm_icmp_ge (pc := 123) 143 (by decide) dX10_swing_123 (fun c123 => ?_) (fun c123 => ?_)
        · replace h := fm_itp c123 h
          refine fm_iconstv (pc := 143) 0 (by decide) dX10_swing_143 ?_
          refine fm_iadd (pc := 144) dX10_swing_144 ?_
          obtain ⟨x17, ex17, h⟩ := fm_ltp h
          refine fm_cgi ex17 ?_
          refine fl_istore4 (pc := 145) rfl (by decide) dX10_swing_145 ?_
          refine fl_iinc5 (pc := 147) rfl 1 (by decide) (by decide) dX10_swing_147 ?_
          refine fm_goto (pc := 150) 36 (by decide) dX10_swing_150 ?_
          refine fm_fgt [some (.ref 76), some (.int l1), some (.int l2), some (.int l3), some (.int x17), some (.int (l5 + 1)), none, none] (by simp [fm_sub]) ?_
          exact ih _ _ _ h
        · replace h := fm_itn c123 h
          refine fl_iload6 (pc := 126) dX10_swing_126 ?_
          refine fl_iload3 (pc := 128) dX10_swing_128 ?_
          refine fm_iadd (pc := 129) dX10_swing_129 ?_
          refine fl_aload0 (pc := 130) dX10_swing_130 ?_
          refine fm_getr (pc := 131) lk_10_13 sh_76 rfl dX10_swing_131 ?_
          refine fm_iconstv (pc := 134) 2 (by decide) dX10_swing_134 ?_
          obtain ⟨g18, h⟩ := fm_gdp h
          refine fm_iald (pc := 135) sh_78 (fm_inb_ok g18) dX10_swing_135 ?_
          refine fm_icmp_lt (pc := 136) 143 (by decide) dX10_swing_136 (fun c136 => ?_) (fun c136 => ?_)
          · replace h := fm_itp c136 h
            refine fm_iconstv (pc := 143) 0 (by decide) dX10_swing_143 ?_
            refine fm_iadd (pc := 144) dX10_swing_144 ?_
            obtain ⟨x19, ex19, h⟩ := fm_ltp h
            refine fm_cgi ex19 ?_
            refine fl_istore4 (pc := 145) rfl (by decide) dX10_swing_145 ?_
            refine fl_iinc5 (pc := 147) rfl 1 (by decide) (by decide) dX10_swing_147 ?_
            refine fm_goto (pc := 150) 36 (by decide) dX10_swing_150 ?_
            refine fm_fgt [some (.ref 76), some (.int l1), some (.int l2), some (.int l3), some (.int x19), some (.int (l5 + 1)), none, none] (by simp [fm_sub]) ?_
            exact ih _ _ _ h
          · replace h := fm_itn c136 h
            refine fm_iconstv (pc := 139) 1 (by decide) dX10_swing_139 ?_
            refine fm_goto (pc := 140) 144 (by decide) dX10_swing_140 ?_
            refine fm_iadd (pc := 144) dX10_swing_144 ?_
            obtain ⟨x20, ex20, h⟩ := fm_ltp h
            refine fm_cgi ex20 ?_
            refine fl_istore4 (pc := 145) rfl (by decide) dX10_swing_145 ?_
            refine fl_iinc5 (pc := 147) rfl 1 (by decide) (by decide) dX10_swing_147 ?_
            refine fm_goto (pc := 150) 36 (by decide) dX10_swing_150 ?_
            refine fm_fgt [some (.ref 76), some (.int l1), some (.int l2), some (.int l3), some (.int x20), some (.int (l5 + 1)), none, none] (by simp [fm_sub]) ?_
            exact ih _ _ _ h
      · replace h := fm_itp c56 h
        refine fm_goto (pc := 59) 147 (by decide) dX10_swing_59 ?_
        refine fl_iinc5 (pc := 147) rfl 1 (by decide) (by decide) dX10_swing_147 ?_
        refine fm_goto (pc := 150) 36 (by decide) dX10_swing_150 ?_
        refine fm_fgt [some (.ref 76), some (.int l1), some (.int l2), some (.int l3), some (.int l4), some (.int (l5 + 1)), none, none] (by simp [fm_sub]) ?_
        exact ih _ _ _ h
theorem sp_X10_swing {d : Nat} {a1 : Int32} {a2 : Int32} {M : fm_M} {x : Int32 × fm_M} {Q : Option Value → fm_M → Prop} (h : F_X10_swing a1 a2 M = some x) (hq : Q (some (.int x.1)) x.2) : fm_ct (d + 7) mX10_swing [.ref 76, .int a1, .int a2] M Q := by
  rw [F_X10_swing] at h
  show fm_mw (d + 7) mX10_swing Q 0 [some (.ref 76), some (.int a1), some (.int a2), none, none, none, none, none] [] M
  refine fl_aload0 (pc := 0) dX10_swing_0 ?_
  refine fm_iconstv (pc := 1) 0 (by decide) dX10_swing_1 ?_
  refine fm_puti (pc := 2) lp_10_130 sh_76 rfl dX10_swing_2 ?_
  obtain ⟨M1, eM1, h⟩ := fm_ltp h
  refine fm_cgm eM1 ?_
  refine fl_aload0 (pc := 5) dX10_swing_5 ?_
  refine fl_iload1 (pc := 6) dX10_swing_6 ?_
  obtain ⟨v2, M3, ev2, h⟩ := fm_bdp h
  refine fm_callV (pc := 7) mX10_isFork [_] _ rfl cvX10_isFork ml_10_404 sh_76 rfl rfl (Nat.le_of_ble_eq_true rfl) (Nat.le_of_ble_eq_true rfl) dX10_swing_7 ?_
  refine sp_X10_isFork ev2 ?_
  refine fm_ret1 ?_
  refine fm_if_eq (pc := 10) 20 (by decide) dX10_swing_10 (fun c10 => ?_) (fun c10 => ?_)
  · replace h := fm_itp c10 h
    refine fm_iconstv (pc := 20) (-1) (by decide) dX10_swing_20 ?_
    refine fm_iret (pc := 21) rfl ?_ dX10_swing_21
    cases h
    exact hq
  · replace h := fm_itn c10 h
    refine fl_iload2 (pc := 13) dX10_swing_13 ?_
    obtain ⟨v4, M5, ev4, h⟩ := fm_bdp h
    refine fm_callS (pc := 14) mX10_isNote [_] _ rfl csX10_isNote ml_10_407 rfl (Nat.le_of_ble_eq_true rfl) (Nat.le_of_ble_eq_true rfl) dX10_swing_14 ?_
    refine sp_X10_isNote ev4 ?_
    refine fm_ret1 ?_
    refine fm_if_ne (pc := 17) 22 (by decide) dX10_swing_17 (fun c17 => ?_) (fun c17 => ?_)
    · replace h := fm_itn c17 h
      refine fl_aload0 (pc := 22) dX10_swing_22 ?_
      refine fm_iconstv (pc := 23) 0 (by decide) dX10_swing_23 ?_
      refine fl_iload1 (pc := 24) dX10_swing_24 ?_
      refine fl_iload2 (pc := 25) dX10_swing_25 ?_
      obtain ⟨v6, M7, ev6, h⟩ := fm_bdp h
      refine fm_callV (pc := 26) mX10_humOf [_, _, _] _ rfl cvX10_humOf ml_10_382 sh_76 rfl rfl (Nat.le_of_ble_eq_true rfl) (Nat.le_of_ble_eq_true rfl) dX10_swing_26 ?_
      refine sp_X10_humOf ev6 ?_
      refine fm_ret1 ?_
      refine fl_istore3 (pc := 29) rfl (by decide) dX10_swing_29 ?_
      refine fm_iconstv (pc := 30) 0 (by decide) dX10_swing_30 ?_
      refine fl_istore4 (pc := 31) rfl (by decide) dX10_swing_31 ?_
      refine fm_iconstv (pc := 33) 0 (by decide) dX10_swing_33 ?_
      refine fl_istore5 (pc := 34) rfl (by decide) dX10_swing_34 ?_
      obtain ⟨w21, M22, ew21, h⟩ := fm_bdp h
      refine lp_X10_swing_36  ?_ _ _ _ _ ew21
      intro w219 M229 q9
      cases q9
      refine fl_iload4 (pc := 153) dX10_swing_153 ?_
      refine fm_iret (pc := 155) rfl ?_ dX10_swing_155
      cases h
      exact hq
    · replace h := fm_itp c17 h
      refine fm_iconstv (pc := 20) (-1) (by decide) dX10_swing_20 ?_
      refine fm_iret (pc := 21) rfl ?_ dX10_swing_21
      cases h
      exact hq
/-! X10_bitsOf -/
def G_X10_bitsOf_4 : Nat → Int32 → Int32 → Int32 → fm_M → Option ((Int32 × Int32) × fm_M)
  | 0, _, _, _, _ => none
  | n + 1, l0, l1, l2, M =>
    if 10 ≤ l2 then (
      some ((l1, l2), M)
    ) else (
      fm_lt ((l1 + ((l0 >>> (l2 &&& 31)) &&& 1))) (fun x1 =>
      G_X10_bitsOf_4 n l0 x1 (l2 + 1) M)
    )
def F_X10_bitsOf (a0 : Int32) (M : fm_M) : Option (Int32 × fm_M) :=
    fm_bd (G_X10_bitsOf_4 fm_fuel a0 0 0 M) (fun w2 M3 =>
      some (w2.1, M3))
theorem lp_X10_bitsOf_4 {d : Nat} {Q : Option Value → fm_M → Prop} {l0 : Int32}   {x : (Int32 × Int32) × fm_M} (k1 : ∀ (v : Int32 × Int32) (M2 : fm_M), x = (v, M2) → fm_mw d mX10_bitsOf Q 24 [some (.int l0), some (.int v.1), some (.int v.2)] [] M2) : ∀ (n : Nat) (l1 : Int32) (l2 : Int32) (M : fm_M), G_X10_bitsOf_4 n l0 l1 l2 M = some x → fm_mw d mX10_bitsOf Q 4 [some (.int l0), some (.int l1), some (.int l2)] [] M := by
  intro n
  induction n with
  | zero => intro l1 l2 M h; simp [G_X10_bitsOf_4] at h
  | succ n ih =>
    intro l1 l2 M h
    rw [G_X10_bitsOf_4] at h
    refine fl_iload2 (pc := 4) dX10_bitsOf_4 ?_
    refine fm_bipushv (pc := 5) 10 (by decide) dX10_bitsOf_5 ?_
    refine fm_icmp_ge (pc := 7) 24 (by decide) dX10_bitsOf_7 (fun c7 => ?_) (fun c7 => ?_)
    · replace h := fm_itp c7 h
      refine fm_fgt [some (.int l0), some (.int l1), some (.int l2)] (by simp [fm_sub]) ?_
      cases h
      exact k1 _ _ rfl
    · replace h := fm_itn c7 h
      refine fl_iload1 (pc := 10) dX10_bitsOf_10 ?_
      refine fl_iload0 (pc := 11) dX10_bitsOf_11 ?_
      refine fl_iload2 (pc := 12) dX10_bitsOf_12 ?_
      refine fm_ishr (pc := 13) dX10_bitsOf_13 ?_
      refine fm_iconstv (pc := 14) 1 (by decide) dX10_bitsOf_14 ?_
      refine fm_iand (pc := 15) dX10_bitsOf_15 ?_
      refine fm_iadd (pc := 16) dX10_bitsOf_16 ?_
      obtain ⟨x1, ex1, h⟩ := fm_ltp h
      refine fm_cgi ex1 ?_
      refine fl_istore1 (pc := 17) rfl (by decide) dX10_bitsOf_17 ?_
      refine fl_iinc2 (pc := 18) rfl 1 (by decide) (by decide) dX10_bitsOf_18 ?_
      refine fm_goto (pc := 21) 4 (by decide) dX10_bitsOf_21 ?_
      refine fm_fgt [some (.int l0), some (.int x1), some (.int (l2 + 1))] (by simp [fm_sub]) ?_
      exact ih _ _ _ h
theorem sp_X10_bitsOf {d : Nat} {a0 : Int32} {M : fm_M} {x : Int32 × fm_M} {Q : Option Value → fm_M → Prop} (h : F_X10_bitsOf a0 M = some x) (hq : Q (some (.int x.1)) x.2) : fm_ct d mX10_bitsOf [.int a0] M Q := by
  rw [F_X10_bitsOf] at h
  show fm_mw d mX10_bitsOf Q 0 [some (.int a0), none, none] [] M
  refine fm_iconstv (pc := 0) 0 (by decide) dX10_bitsOf_0 ?_
  refine fl_istore1 (pc := 1) rfl (by decide) dX10_bitsOf_1 ?_
  refine fm_iconstv (pc := 2) 0 (by decide) dX10_bitsOf_2 ?_
  refine fl_istore2 (pc := 3) rfl (by decide) dX10_bitsOf_3 ?_
  obtain ⟨w2, M3, ew2, h⟩ := fm_bdp h
  refine lp_X10_bitsOf_4  ?_ _ _ _ _ ew2
  intro w29 M39 q9
  cases q9
  refine fl_iload1 (pc := 24) dX10_bitsOf_24 ?_
  refine fm_iret (pc := 25) rfl ?_ dX10_bitsOf_25
  cases h
  exact hq
/-! X10_censure -/
def G_X10_censure_55 : Nat → Int32 → Int32 → Int32 → Int32 → Int32 → fm_M → Option ((Int32 × Int32) × fm_M)
  | 0, _, _, _, _, _, _ => none
  | n + 1, l1, l2, l3, l4, l5, M =>
    fm_gd (fm_inb 0 20) (
    if (M.1 78 (Int32.toNatClampNeg 0)) ≤ l5 then (
      some ((l4, l5), M)
    ) else (
      if ((l3 >>> (l5 &&& 31)) &&& 1) = 0 then (
        fm_bd (F_X10_humOf 0 l5 l1 M) (fun v7 M8 =>
        fm_lt ((l4 + v7)) (fun x9 =>
        G_X10_censure_55 n l1 l2 l3 x9 (l5 + 1) M8))
      ) else (
        fm_lt ((l4 + 0)) (fun x6 =>
        G_X10_censure_55 n l1 l2 l3 x6 (l5 + 1) M)
      )
    ))
def J_X10_censure_49 (rec : Int32 → Int32 → fm_M → Option ((Int32 × Int32) × fm_M)) (l1 : Int32) (l2 : Int32) (l3 : Int32) (M : fm_M) : Option ((Int32 × Int32) × fm_M) :=
    fm_bd (G_X10_censure_55 fm_fuel l1 l2 l3 0 0 M) (fun w10 M11 =>
      fm_bd (F_X10_passes 0 l1 w10.1 M11) (fun v12 M13 =>
      if v12 = 0 then (
        rec l3 (l3 + 1) M13
      ) else (
        rec l2 (l3 + 1) M13
      )))
def G_X10_censure_19 : Nat → Int32 → Int32 → Int32 → fm_M → Option ((Int32 × Int32) × fm_M)
  | 0, _, _, _, _ => none
  | n + 1, l1, l2, l3, M =>
    fm_gd (fm_inb 0 20) (
    if (1 <<< ((M.1 78 (Int32.toNatClampNeg 0)) &&& 31)) ≤ l3 then (
      some ((l2, l3), M)
    ) else (
      if l2 < 0 then (
        J_X10_censure_49 (G_X10_censure_19 n l1) l1 l2 l3 M
      ) else (
        fm_bd (F_X10_bitsOf l3 M) (fun v14 M15 =>
        fm_bd (F_X10_bitsOf l2 M15) (fun v16 M17 =>
        if v14 < v16 then (
          J_X10_censure_49 (G_X10_censure_19 n l1) l1 l2 l3 M17
        ) else (
          G_X10_censure_19 n l1 l2 (l3 + 1) M17
        )))
      )
    ))
def F_X10_censure (a1 : Int32) (M : fm_M) : Option (Int32 × fm_M) :=
    fm_lt (fm_up M 76 0 0) (fun M1 =>
    fm_bd (F_X10_isNote a1 M1) (fun v2 M3 =>
    if v2 = 0 then (
      some ((-1), M3)
    ) else (
      fm_bd (G_X10_censure_19 fm_fuel a1 (-2) 0 M3) (fun w18 M19 =>
        some (w18.1, M19))
    )))
theorem lp_X10_censure_55 {d : Nat} {Q : Option Value → fm_M → Prop} {l1 : Int32} {l2 : Int32} {l3 : Int32}   {x : (Int32 × Int32) × fm_M} (k1 : ∀ (v : Int32 × Int32) (M2 : fm_M), x = (v, M2) → fm_mw (d + 7) mX10_censure Q 98 [some (.ref 76), some (.int l1), some (.int l2), some (.int l3), some (.int v.1), some (.int v.2)] [] M2) : ∀ (n : Nat) (l4 : Int32) (l5 : Int32) (M : fm_M), G_X10_censure_55 n l1 l2 l3 l4 l5 M = some x → fm_mw (d + 7) mX10_censure Q 55 [some (.ref 76), some (.int l1), some (.int l2), some (.int l3), some (.int l4), some (.int l5)] [] M := by
  intro n
  induction n with
  | zero => intro l4 l5 M h; simp [G_X10_censure_55] at h
  | succ n ih =>
    intro l4 l5 M h
    rw [G_X10_censure_55] at h
    refine fl_iload5 (pc := 55) dX10_censure_55 ?_
    refine fl_aload0 (pc := 57) dX10_censure_57 ?_
    refine fm_getr (pc := 58) lk_10_13 sh_76 rfl dX10_censure_58 ?_
    refine fm_iconstv (pc := 61) 0 (by decide) dX10_censure_61 ?_
    obtain ⟨g5, h⟩ := fm_gdp h
    refine fm_iald (pc := 62) sh_78 (fm_inb_ok g5) dX10_censure_62 ?_
    refine fm_icmp_ge (pc := 63) 98 (by decide) dX10_censure_63 (fun c63 => ?_) (fun c63 => ?_)
    · replace h := fm_itp c63 h
      refine fm_fgt [some (.ref 76), some (.int l1), some (.int l2), some (.int l3), some (.int l4), some (.int l5)] (by simp [fm_sub]) ?_
      cases h
      exact k1 _ _ rfl
    · replace h := fm_itn c63 h
      refine fl_iload4 (pc := 66) dX10_censure_66 ?_
      refine fl_iload3 (pc := 68) dX10_censure_68 ?_
      refine fl_iload5 (pc := 69) dX10_censure_69 ?_
      refine fm_ishr (pc := 71) dX10_censure_71 ?_
      refine fm_iconstv (pc := 72) 1 (by decide) dX10_censure_72 ?_
      refine fm_iand (pc := 73) dX10_censure_73 ?_
      refine fm_if_ne (pc := 74) 88 (by decide) dX10_censure_74 (fun c74 => ?_) (fun c74 => ?_)
      · replace h := fm_itn c74 h
        refine fm_iconstv (pc := 88) 0 (by decide) dX10_censure_88 ?_
        refine fm_iadd (pc := 89) dX10_censure_89 ?_
        obtain ⟨x6, ex6, h⟩ := fm_ltp h
        refine fm_cgi ex6 ?_
        refine fl_istore4 (pc := 90) rfl (by decide) dX10_censure_90 ?_
        refine fl_iinc5 (pc := 92) rfl 1 (by decide) (by decide) dX10_censure_92 ?_
        refine fm_goto (pc := 95) 55 (by decide) dX10_censure_95 ?_
        refine fm_fgt [some (.ref 76), some (.int l1), some (.int l2), some (.int l3), some (.int x6), some (.int (l5 + 1))] (by simp [fm_sub]) ?_
        exact ih _ _ _ h
      · replace h := fm_itp c74 h
        refine fl_aload0 (pc := 77) dX10_censure_77 ?_
        refine fm_iconstv (pc := 78) 0 (by decide) dX10_censure_78 ?_
        refine fl_iload5 (pc := 79) dX10_censure_79 ?_
        refine fl_iload1 (pc := 81) dX10_censure_81 ?_
        obtain ⟨v7, M8, ev7, h⟩ := fm_bdp h
        refine fm_callV (pc := 82) mX10_humOf [_, _, _] _ rfl cvX10_humOf ml_10_382 sh_76 rfl rfl (Nat.le_of_ble_eq_true rfl) (Nat.le_of_ble_eq_true rfl) dX10_censure_82 ?_
        refine sp_X10_humOf ev7 ?_
        refine fm_ret1 ?_
        refine fm_goto (pc := 85) 89 (by decide) dX10_censure_85 ?_
        refine fm_iadd (pc := 89) dX10_censure_89 ?_
        obtain ⟨x9, ex9, h⟩ := fm_ltp h
        refine fm_cgi ex9 ?_
        refine fl_istore4 (pc := 90) rfl (by decide) dX10_censure_90 ?_
        refine fl_iinc5 (pc := 92) rfl 1 (by decide) (by decide) dX10_censure_92 ?_
        refine fm_goto (pc := 95) 55 (by decide) dX10_censure_95 ?_
        refine fm_fgt [some (.ref 76), some (.int l1), some (.int l2), some (.int l3), some (.int x9), some (.int (l5 + 1))] (by simp [fm_sub]) ?_
        exact ih _ _ _ h
theorem jn_X10_censure_49 {d : Nat} {Q : Option Value → fm_M → Prop} (rec : Int32 → Int32 → fm_M → Option ((Int32 × Int32) × fm_M))  (l1 : Int32) (l2 : Int32) (l3 : Int32) {x : (Int32 × Int32) × fm_M}  (ih : ∀ (l2 : Int32) (l3 : Int32) (M : fm_M), rec l2 l3 M = some x → fm_mw (d + 7) mX10_censure Q 19 [some (.ref 76), some (.int l1), some (.int l2), some (.int l3), none, none] [] M) (k1 : ∀ (v : Int32 × Int32) (M2 : fm_M), x = (v, M2) → fm_mw (d + 7) mX10_censure Q 117 [some (.ref 76), some (.int l1), some (.int v.1), some (.int v.2), none, none] [] M2) (M : fm_M) (h : J_X10_censure_49 rec l1 l2 l3 M = some x) : fm_mw (d + 7) mX10_censure Q 49 [some (.ref 76), some (.int l1), some (.int l2), some (.int l3), none, none] [] M := by
  rw [J_X10_censure_49] at h
  refine fm_iconstv (pc := 49) 0 (by decide) dX10_censure_49 ?_
  refine fl_istore4 (pc := 50) rfl (by decide) dX10_censure_50 ?_
  refine fm_iconstv (pc := 52) 0 (by decide) dX10_censure_52 ?_
  refine fl_istore5 (pc := 53) rfl (by decide) dX10_censure_53 ?_
  obtain ⟨w10, M11, ew10, h⟩ := fm_bdp h
  refine lp_X10_censure_55  ?_ _ _ _ _ ew10
  intro w109 M119 q9
  cases q9
  refine fl_aload0 (pc := 98) dX10_censure_98 ?_
  refine fm_iconstv (pc := 99) 0 (by decide) dX10_censure_99 ?_
  refine fl_iload1 (pc := 100) dX10_censure_100 ?_
  refine fl_iload4 (pc := 101) dX10_censure_101 ?_
  obtain ⟨v12, M13, ev12, h⟩ := fm_bdp h
  refine fm_callV (pc := 103) mX10_passes [_, _, _] _ rfl cvX10_passes ml_10_388 sh_76 rfl rfl (Nat.le_of_ble_eq_true rfl) (Nat.le_of_ble_eq_true rfl) dX10_censure_103 ?_
  refine sp_X10_passes ev12 ?_
  refine fm_ret1 ?_
  refine fm_if_ne (pc := 106) 111 (by decide) dX10_censure_106 (fun c106 => ?_) (fun c106 => ?_)
  · replace h := fm_itn c106 h
    refine fl_iinc3 (pc := 111) rfl 1 (by decide) (by decide) dX10_censure_111 ?_
    refine fm_goto (pc := 114) 19 (by decide) dX10_censure_114 ?_
    refine fm_fgt [some (.ref 76), some (.int l1), some (.int l2), some (.int (l3 + 1)), none, none] (by simp [fm_sub]) ?_
    exact ih _ _ _ h
  · replace h := fm_itp c106 h
    refine fl_iload3 (pc := 109) dX10_censure_109 ?_
    refine fl_istore2 (pc := 110) rfl (by decide) dX10_censure_110 ?_
    refine fl_iinc3 (pc := 111) rfl 1 (by decide) (by decide) dX10_censure_111 ?_
    refine fm_goto (pc := 114) 19 (by decide) dX10_censure_114 ?_
    refine fm_fgt [some (.ref 76), some (.int l1), some (.int l3), some (.int (l3 + 1)), none, none] (by simp [fm_sub]) ?_
    exact ih _ _ _ h
theorem lp_X10_censure_19 {d : Nat} {Q : Option Value → fm_M → Prop} {l1 : Int32}   {x : (Int32 × Int32) × fm_M} (k1 : ∀ (v : Int32 × Int32) (M2 : fm_M), x = (v, M2) → fm_mw (d + 7) mX10_censure Q 117 [some (.ref 76), some (.int l1), some (.int v.1), some (.int v.2), none, none] [] M2) : ∀ (n : Nat) (l2 : Int32) (l3 : Int32) (M : fm_M), G_X10_censure_19 n l1 l2 l3 M = some x → fm_mw (d + 7) mX10_censure Q 19 [some (.ref 76), some (.int l1), some (.int l2), some (.int l3), none, none] [] M := by
  intro n
  induction n with
  | zero => intro l2 l3 M h; simp [G_X10_censure_19] at h
  | succ n ih =>
    intro l2 l3 M h
    rw [G_X10_censure_19] at h
    refine fl_iload3 (pc := 19) dX10_censure_19 ?_
    refine fm_iconstv (pc := 20) 1 (by decide) dX10_censure_20 ?_
    refine fl_aload0 (pc := 21) dX10_censure_21 ?_
    refine fm_getr (pc := 22) lk_10_13 sh_76 rfl dX10_censure_22 ?_
    refine fm_iconstv (pc := 25) 0 (by decide) dX10_censure_25 ?_
    obtain ⟨g4, h⟩ := fm_gdp h
    refine fm_iald (pc := 26) sh_78 (fm_inb_ok g4) dX10_censure_26 ?_
    refine fm_ishl (pc := 27) dX10_censure_27 ?_
    refine fm_icmp_ge (pc := 28) 117 (by decide) dX10_censure_28 (fun c28 => ?_) (fun c28 => ?_)
    · replace h := fm_itp c28 h
      refine fm_fgt [some (.ref 76), some (.int l1), some (.int l2), some (.int l3), none, none] (by simp [fm_sub]) ?_
      cases h
      exact k1 _ _ rfl
    · replace h := fm_itn c28 h
      refine fl_iload2 (pc := 31) dX10_censure_31 ?_
      refine fm_if_lt (pc := 32) 49 (by decide) dX10_censure_32 (fun c32 => ?_) (fun c32 => ?_)
      · replace h := fm_itp c32 h
        exact jn_X10_censure_49 _ _ _ _  ih k1 _ h
      · replace h := fm_itn c32 h
        refine fl_iload3 (pc := 35) dX10_censure_35 ?_
        obtain ⟨v14, M15, ev14, h⟩ := fm_bdp h
        refine fm_callS (pc := 36) mX10_bitsOf [_] _ rfl csX10_bitsOf ml_10_438 rfl (Nat.le_of_ble_eq_true rfl) (Nat.le_of_ble_eq_true rfl) dX10_censure_36 ?_
        refine sp_X10_bitsOf ev14 ?_
        refine fm_ret1 ?_
        refine fl_iload2 (pc := 39) dX10_censure_39 ?_
        obtain ⟨v16, M17, ev16, h⟩ := fm_bdp h
        refine fm_callS (pc := 40) mX10_bitsOf [_] _ rfl csX10_bitsOf ml_10_438 rfl (Nat.le_of_ble_eq_true rfl) (Nat.le_of_ble_eq_true rfl) dX10_censure_40 ?_
        refine sp_X10_bitsOf ev16 ?_
        refine fm_ret1 ?_
        refine fm_icmp_lt (pc := 43) 49 (by decide) dX10_censure_43 (fun c43 => ?_) (fun c43 => ?_)
        · replace h := fm_itp c43 h
          exact jn_X10_censure_49 _ _ _ _  ih k1 _ h
        · replace h := fm_itn c43 h
          refine fm_goto (pc := 46) 111 (by decide) dX10_censure_46 ?_
          refine fl_iinc3 (pc := 111) rfl 1 (by decide) (by decide) dX10_censure_111 ?_
          refine fm_goto (pc := 114) 19 (by decide) dX10_censure_114 ?_
          refine fm_fgt [some (.ref 76), some (.int l1), some (.int l2), some (.int (l3 + 1)), none, none] (by simp [fm_sub]) ?_
          exact ih _ _ _ h
theorem sp_X10_censure {d : Nat} {a1 : Int32} {M : fm_M} {x : Int32 × fm_M} {Q : Option Value → fm_M → Prop} (h : F_X10_censure a1 M = some x) (hq : Q (some (.int x.1)) x.2) : fm_ct (d + 7) mX10_censure [.ref 76, .int a1] M Q := by
  rw [F_X10_censure] at h
  show fm_mw (d + 7) mX10_censure Q 0 [some (.ref 76), some (.int a1), none, none, none, none] [] M
  refine fl_aload0 (pc := 0) dX10_censure_0 ?_
  refine fm_iconstv (pc := 1) 0 (by decide) dX10_censure_1 ?_
  refine fm_puti (pc := 2) lp_10_130 sh_76 rfl dX10_censure_2 ?_
  obtain ⟨M1, eM1, h⟩ := fm_ltp h
  refine fm_cgm eM1 ?_
  refine fl_iload1 (pc := 5) dX10_censure_5 ?_
  obtain ⟨v2, M3, ev2, h⟩ := fm_bdp h
  refine fm_callS (pc := 6) mX10_isNote [_] _ rfl csX10_isNote ml_10_407 rfl (Nat.le_of_ble_eq_true rfl) (Nat.le_of_ble_eq_true rfl) dX10_censure_6 ?_
  refine sp_X10_isNote ev2 ?_
  refine fm_ret1 ?_
  refine fm_if_ne (pc := 9) 14 (by decide) dX10_censure_9 (fun c9 => ?_) (fun c9 => ?_)
  · replace h := fm_itn c9 h
    refine fm_bipushv (pc := 14) (-2) (by decide) dX10_censure_14 ?_
    refine fl_istore2 (pc := 16) rfl (by decide) dX10_censure_16 ?_
    refine fm_iconstv (pc := 17) 0 (by decide) dX10_censure_17 ?_
    refine fl_istore3 (pc := 18) rfl (by decide) dX10_censure_18 ?_
    obtain ⟨w18, M19, ew18, h⟩ := fm_bdp h
    refine lp_X10_censure_19  ?_ _ _ _ _ ew18
    intro w189 M199 q9
    cases q9
    refine fl_iload2 (pc := 117) dX10_censure_117 ?_
    refine fm_iret (pc := 118) rfl ?_ dX10_censure_118
    cases h
    exact hq
  · replace h := fm_itp c9 h
    refine fm_iconstv (pc := 12) (-1) (by decide) dX10_censure_12 ?_
    refine fm_iret (pc := 13) rfl ?_ dX10_censure_13
    cases h
    exact hq
/-! X10_party -/
def G_X10_party_28 : Nat → Int32 → Int32 → Int32 → Int32 → fm_M → Option ((Int32 × Int32) × fm_M)
  | 0, _, _, _, _, _ => none
  | n + 1, l1, l2, l3, l4, M =>
    fm_gd (fm_inb 0 20) (
    if (M.1 78 (Int32.toNatClampNeg 0)) ≤ l4 then (
      some ((l3, l4), M)
    ) else (
      fm_gd (fm_inb l4 16) (
      if (M.1 83 (Int32.toNatClampNeg l4)) = l1 then (
        fm_bd (F_X10_humOf 0 l4 l2 M) (fun v7 M8 =>
        fm_lt ((l3 + v7)) (fun x9 =>
        G_X10_party_28 n l1 l2 x9 (l4 + 1) M8))
      ) else (
        fm_lt ((l3 + 0)) (fun x6 =>
        G_X10_party_28 n l1 l2 x6 (l4 + 1) M)
      ))
    ))
def F_X10_party (a1 : Int32) (a2 : Int32) (M : fm_M) : Option (Int32 × fm_M) :=
    fm_lt (fm_up M 76 0 0) (fun M1 =>
    if a1 < 0 then (
      some ((-1), M1)
    ) else (
      if 3 < a1 then (
        some ((-1), M1)
      ) else (
        fm_bd (F_X10_isNote a2 M1) (fun v2 M3 =>
        if v2 = 0 then (
          some ((-1), M3)
        ) else (
          fm_bd (G_X10_party_28 fm_fuel a1 a2 0 0 M3) (fun w10 M11 =>
            some (w10.1, M11))
        ))
      )
    ))
theorem lp_X10_party_28 {d : Nat} {Q : Option Value → fm_M → Prop} {l1 : Int32} {l2 : Int32}   {x : (Int32 × Int32) × fm_M} (k1 : ∀ (v : Int32 × Int32) (M2 : fm_M), x = (v, M2) → fm_mw (d + 7) mX10_party Q 71 [some (.ref 76), some (.int l1), some (.int l2), some (.int v.1), some (.int v.2)] [] M2) : ∀ (n : Nat) (l3 : Int32) (l4 : Int32) (M : fm_M), G_X10_party_28 n l1 l2 l3 l4 M = some x → fm_mw (d + 7) mX10_party Q 28 [some (.ref 76), some (.int l1), some (.int l2), some (.int l3), some (.int l4)] [] M := by
  intro n
  induction n with
  | zero => intro l3 l4 M h; simp [G_X10_party_28] at h
  | succ n ih =>
    intro l3 l4 M h
    rw [G_X10_party_28] at h
    refine fl_iload4 (pc := 28) dX10_party_28 ?_
    refine fl_aload0 (pc := 30) dX10_party_30 ?_
    refine fm_getr (pc := 31) lk_10_13 sh_76 rfl dX10_party_31 ?_
    refine fm_iconstv (pc := 34) 0 (by decide) dX10_party_34 ?_
    obtain ⟨g4, h⟩ := fm_gdp h
    refine fm_iald (pc := 35) sh_78 (fm_inb_ok g4) dX10_party_35 ?_
    refine fm_icmp_ge (pc := 36) 71 (by decide) dX10_party_36 (fun c36 => ?_) (fun c36 => ?_)
    · replace h := fm_itp c36 h
      refine fm_fgt [some (.ref 76), some (.int l1), some (.int l2), some (.int l3), some (.int l4)] (by simp [fm_sub]) ?_
      cases h
      exact k1 _ _ rfl
    · replace h := fm_itn c36 h
      refine fl_iload3 (pc := 39) dX10_party_39 ?_
      refine fl_aload0 (pc := 40) dX10_party_40 ?_
      refine fm_getr (pc := 41) lk_10_28 sh_76 rfl dX10_party_41 ?_
      refine fl_iload4 (pc := 44) dX10_party_44 ?_
      obtain ⟨g5, h⟩ := fm_gdp h
      refine fm_iald (pc := 46) sh_83 (fm_inb_ok g5) dX10_party_46 ?_
      refine fl_iload1 (pc := 47) dX10_party_47 ?_
      refine fm_icmp_ne (pc := 48) 62 (by decide) dX10_party_48 (fun c48 => ?_) (fun c48 => ?_)
      · replace h := fm_itn c48 h
        refine fm_iconstv (pc := 62) 0 (by decide) dX10_party_62 ?_
        refine fm_iadd (pc := 63) dX10_party_63 ?_
        obtain ⟨x6, ex6, h⟩ := fm_ltp h
        refine fm_cgi ex6 ?_
        refine fl_istore3 (pc := 64) rfl (by decide) dX10_party_64 ?_
        refine fl_iinc4 (pc := 65) rfl 1 (by decide) (by decide) dX10_party_65 ?_
        refine fm_goto (pc := 68) 28 (by decide) dX10_party_68 ?_
        refine fm_fgt [some (.ref 76), some (.int l1), some (.int l2), some (.int x6), some (.int (l4 + 1))] (by simp [fm_sub]) ?_
        exact ih _ _ _ h
      · replace h := fm_itp c48 h
        refine fl_aload0 (pc := 51) dX10_party_51 ?_
        refine fm_iconstv (pc := 52) 0 (by decide) dX10_party_52 ?_
        refine fl_iload4 (pc := 53) dX10_party_53 ?_
        refine fl_iload2 (pc := 55) dX10_party_55 ?_
        obtain ⟨v7, M8, ev7, h⟩ := fm_bdp h
        refine fm_callV (pc := 56) mX10_humOf [_, _, _] _ rfl cvX10_humOf ml_10_382 sh_76 rfl rfl (Nat.le_of_ble_eq_true rfl) (Nat.le_of_ble_eq_true rfl) dX10_party_56 ?_
        refine sp_X10_humOf ev7 ?_
        refine fm_ret1 ?_
        refine fm_goto (pc := 59) 63 (by decide) dX10_party_59 ?_
        refine fm_iadd (pc := 63) dX10_party_63 ?_
        obtain ⟨x9, ex9, h⟩ := fm_ltp h
        refine fm_cgi ex9 ?_
        refine fl_istore3 (pc := 64) rfl (by decide) dX10_party_64 ?_
        refine fl_iinc4 (pc := 65) rfl 1 (by decide) (by decide) dX10_party_65 ?_
        refine fm_goto (pc := 68) 28 (by decide) dX10_party_68 ?_
        refine fm_fgt [some (.ref 76), some (.int l1), some (.int l2), some (.int x9), some (.int (l4 + 1))] (by simp [fm_sub]) ?_
        exact ih _ _ _ h
theorem sp_X10_party {d : Nat} {a1 : Int32} {a2 : Int32} {M : fm_M} {x : Int32 × fm_M} {Q : Option Value → fm_M → Prop} (h : F_X10_party a1 a2 M = some x) (hq : Q (some (.int x.1)) x.2) : fm_ct (d + 7) mX10_party [.ref 76, .int a1, .int a2] M Q := by
  rw [F_X10_party] at h
  show fm_mw (d + 7) mX10_party Q 0 [some (.ref 76), some (.int a1), some (.int a2), none, none] [] M
  refine fl_aload0 (pc := 0) dX10_party_0 ?_
  refine fm_iconstv (pc := 1) 0 (by decide) dX10_party_1 ?_
  refine fm_puti (pc := 2) lp_10_130 sh_76 rfl dX10_party_2 ?_
  obtain ⟨M1, eM1, h⟩ := fm_ltp h
  refine fm_cgm eM1 ?_
  refine fl_iload1 (pc := 5) dX10_party_5 ?_
  refine fm_if_lt (pc := 6) 21 (by decide) dX10_party_6 (fun c6 => ?_) (fun c6 => ?_)
  · replace h := fm_itp c6 h
    refine fm_iconstv (pc := 21) (-1) (by decide) dX10_party_21 ?_
    refine fm_iret (pc := 22) rfl ?_ dX10_party_22
    cases h
    exact hq
  · replace h := fm_itn c6 h
    refine fl_iload1 (pc := 9) dX10_party_9 ?_
    refine fm_iconstv (pc := 10) 3 (by decide) dX10_party_10 ?_
    refine fm_icmp_gt (pc := 11) 21 (by decide) dX10_party_11 (fun c11 => ?_) (fun c11 => ?_)
    · replace h := fm_itp c11 h
      refine fm_iconstv (pc := 21) (-1) (by decide) dX10_party_21 ?_
      refine fm_iret (pc := 22) rfl ?_ dX10_party_22
      cases h
      exact hq
    · replace h := fm_itn c11 h
      refine fl_iload2 (pc := 14) dX10_party_14 ?_
      obtain ⟨v2, M3, ev2, h⟩ := fm_bdp h
      refine fm_callS (pc := 15) mX10_isNote [_] _ rfl csX10_isNote ml_10_407 rfl (Nat.le_of_ble_eq_true rfl) (Nat.le_of_ble_eq_true rfl) dX10_party_15 ?_
      refine sp_X10_isNote ev2 ?_
      refine fm_ret1 ?_
      refine fm_if_ne (pc := 18) 23 (by decide) dX10_party_18 (fun c18 => ?_) (fun c18 => ?_)
      · replace h := fm_itn c18 h
        refine fm_iconstv (pc := 23) 0 (by decide) dX10_party_23 ?_
        refine fl_istore3 (pc := 24) rfl (by decide) dX10_party_24 ?_
        refine fm_iconstv (pc := 25) 0 (by decide) dX10_party_25 ?_
        refine fl_istore4 (pc := 26) rfl (by decide) dX10_party_26 ?_
        obtain ⟨w10, M11, ew10, h⟩ := fm_bdp h
        refine lp_X10_party_28  ?_ _ _ _ _ ew10
        intro w109 M119 q9
        cases q9
        refine fl_iload3 (pc := 71) dX10_party_71 ?_
        refine fm_iret (pc := 72) rfl ?_ dX10_party_72
        cases h
        exact hq
      · replace h := fm_itp c18 h
        refine fm_iconstv (pc := 21) (-1) (by decide) dX10_party_21 ?_
        refine fm_iret (pc := 22) rfl ?_ dX10_party_22
        cases h
        exact hq
/-! X10_heldPitch -/
def F_X10_heldPitch (a0 : Int32) (M : fm_M) : Option (Int32 × fm_M) :=
    some ((i_max 100 (i_min 999 a0)), M)
theorem sp_X10_heldPitch {d : Nat} {a0 : Int32} {M : fm_M} {x : Int32 × fm_M} {Q : Option Value → fm_M → Prop} (h : F_X10_heldPitch a0 M = some x) (hq : Q (some (.int x.1)) x.2) : fm_ct (d + 1) mX10_heldPitch [.int a0] M Q := by
  rw [F_X10_heldPitch] at h
  show fm_mw (d + 1) mX10_heldPitch Q 0 [some (.int a0)] [] M
  refine fm_bipushv (pc := 0) 100 (by decide) dX10_heldPitch_0 ?_
  refine fm_sipushv (pc := 2) 999 (by decide) dX10_heldPitch_2 ?_
  refine fl_iload0 (pc := 5) dX10_heldPitch_5 ?_
  refine fq_mmin (pc := 6) ml_10_336 (Nat.le_of_ble_eq_true rfl) dX10_heldPitch_6 ?_
  refine fq_mmax (pc := 9) ml_10_328 (Nat.le_of_ble_eq_true rfl) dX10_heldPitch_9 ?_
  refine fm_iret (pc := 12) rfl ?_ dX10_heldPitch_12
  cases h
  exact hq
/-! X10_layAgainst -/
def J_X10_layAgainst_132 (rec : Int32 → fm_M → Option ((Int32) × fm_M)) (l1 : Int32) (l2 : Int32) (l3 : Int32) (l4 : Int32) (l5 : Int32) (s1 : Int32) (s2 : Int32) (M : fm_M) : Option ((Int32) × fm_M) :=
    fm_gd (fm_inb 5 20) (
    fm_gd (fm_inb s1 25) (
    fm_lt (fm_up M 104 (Int32.toNatClampNeg s1) (s2 - ((M.1 78 (Int32.toNatClampNeg 5)) * (i_abs ((i_rem l4 5) - 2))))) (fun M22 =>
    rec (l4 + 1) M22)))
def J_X10_layAgainst_97 (rec : Int32 → fm_M → Option ((Int32) × fm_M)) (l1 : Int32) (l2 : Int32) (l3 : Int32) (l4 : Int32) (l5 : Int32) (s1 : Int32) (s2 : Int32) (M : fm_M) : Option ((Int32) × fm_M) :=
    fm_gd (fm_inb 5 20) (
    fm_gd (fm_inb s1 25) (
    fm_lt (fm_up M 103 (Int32.toNatClampNeg s1) (s2 - ((M.1 78 (Int32.toNatClampNeg 5)) * (i_abs ((l4 / 5) - 2))))) (fun M19 =>
    if l5 = 0 then (
      J_X10_layAgainst_132 (rec) l1 l2 l3 l4 l5 l4 20 M19
    ) else (
      J_X10_layAgainst_132 (rec) l1 l2 l3 l4 l5 l4 0 M19
    ))))
def G_X10_layAgainst_3 : Nat → Int32 → Int32 → Int32 → Int32 → fm_M → Option ((Int32) × fm_M)
  | 0, _, _, _, _, _ => none
  | n + 1, l1, l2, l3, l4, M =>
    if 25 ≤ l4 then (
      some (l4, M)
    ) else (
      fm_bd (F_X10_copies 1 0 M) (fun v1 M2 =>
      fm_gd (fm_inb l1 184) (
      fm_bd (F_X10_heldPitch (((M2.1 98 (Int32.toNatClampNeg l1)) + (l4 / 5)) - 2) M2) (fun v4 M5 =>
      fm_gd (fm_inb (8 + l1) 184) (
      fm_lt (fm_up M5 98 (Int32.toNatClampNeg (8 + l1)) v4) (fun M7 =>
      fm_gd (fm_inb l2 184) (
      fm_bd (F_X10_heldPitch (((M7.1 98 (Int32.toNatClampNeg l2)) + (i_rem l4 5)) - 2) M7) (fun v9 M10 =>
      fm_gd (fm_inb (8 + l2) 184) (
      fm_lt (fm_up M10 98 (Int32.toNatClampNeg (8 + l2)) v9) (fun M12 =>
      fm_bd (F_X10_humAll 1 l3 M12) (fun v13 M14 =>
      fm_bd (F_X10_passes 1 l3 v13 M14) (fun v15 M16 =>
      if v15 = 0 then (
        J_X10_layAgainst_97 (G_X10_layAgainst_3 n l1 l2 l3) l1 l2 l3 l4 v15 l4 0 M16
      ) else (
        J_X10_layAgainst_97 (G_X10_layAgainst_3 n l1 l2 l3) l1 l2 l3 l4 v15 l4 20 M16
      ))))))))))))
    )
def F_X10_layAgainst (a1 : Int32) (a2 : Int32) (a3 : Int32) (M : fm_M) : Option (Unit × fm_M) :=
    fm_bd (G_X10_layAgainst_3 fm_fuel a1 a2 a3 0 M) (fun w23 M24 =>
      some ((), M24))
theorem jn_X10_layAgainst_132 {d : Nat} {Q : Option Value → fm_M → Prop} (rec : Int32 → fm_M → Option ((Int32) × fm_M))  (l1 : Int32) (l2 : Int32) (l3 : Int32) (l4 : Int32) (l5 : Int32) (s1 : Int32) (s2 : Int32) {x : (Int32) × fm_M}  (ih : ∀ (l4 : Int32) (M : fm_M), rec l4 M = some x → fm_mw (d + 8) mX10_layAgainst Q 3 [some (.ref 76), some (.int l1), some (.int l2), some (.int l3), some (.int l4), none] [] M) (k1 : ∀ (v : Int32) (M2 : fm_M), x = (v, M2) → fm_mw (d + 8) mX10_layAgainst Q 156 [some (.ref 76), some (.int l1), some (.int l2), some (.int l3), some (.int v), none] [] M2) (M : fm_M) (h : J_X10_layAgainst_132 rec l1 l2 l3 l4 l5 s1 s2 M = some x) : fm_mw (d + 8) mX10_layAgainst Q 132 [some (.ref 76), some (.int l1), some (.int l2), some (.int l3), some (.int l4), some (.int l5)] [(.int s2), (.int s1), (.ref 104)] M := by
  rw [J_X10_layAgainst_132] at h
  refine fl_aload0 (pc := 132) dX10_layAgainst_132 ?_
  refine fm_getr (pc := 133) lk_10_13 sh_76 rfl dX10_layAgainst_133 ?_
  refine fm_iconstv (pc := 136) 5 (by decide) dX10_layAgainst_136 ?_
  obtain ⟨g20, h⟩ := fm_gdp h
  refine fm_iald (pc := 137) sh_78 (fm_inb_ok g20) dX10_layAgainst_137 ?_
  refine fl_iload4 (pc := 138) dX10_layAgainst_138 ?_
  refine fm_iconstv (pc := 140) 5 (by decide) dX10_layAgainst_140 ?_
  refine fq_irem (pc := 141) (by decide) dX10_layAgainst_141 ?_
  refine fm_iconstv (pc := 142) 2 (by decide) dX10_layAgainst_142 ?_
  refine fm_isub (pc := 143) dX10_layAgainst_143 ?_
  refine fq_mabs (pc := 144) ml_10_334 (Nat.le_of_ble_eq_true rfl) dX10_layAgainst_144 ?_
  refine fm_imul (pc := 147) dX10_layAgainst_147 ?_
  refine fm_isub (pc := 148) dX10_layAgainst_148 ?_
  obtain ⟨g21, h⟩ := fm_gdp h
  refine fm_iast (pc := 149) sh_104 (fm_inb_ok g21) dX10_layAgainst_149 ?_
  obtain ⟨M22, eM22, h⟩ := fm_ltp h
  refine fm_cgm eM22 ?_
  refine fl_iinc4 (pc := 150) rfl 1 (by decide) (by decide) dX10_layAgainst_150 ?_
  refine fm_goto (pc := 153) 3 (by decide) dX10_layAgainst_153 ?_
  refine fm_fgt [some (.ref 76), some (.int l1), some (.int l2), some (.int l3), some (.int (l4 + 1)), none] (by simp [fm_sub]) ?_
  exact ih _ _ h
theorem jn_X10_layAgainst_97 {d : Nat} {Q : Option Value → fm_M → Prop} (rec : Int32 → fm_M → Option ((Int32) × fm_M))  (l1 : Int32) (l2 : Int32) (l3 : Int32) (l4 : Int32) (l5 : Int32) (s1 : Int32) (s2 : Int32) {x : (Int32) × fm_M}  (ih : ∀ (l4 : Int32) (M : fm_M), rec l4 M = some x → fm_mw (d + 8) mX10_layAgainst Q 3 [some (.ref 76), some (.int l1), some (.int l2), some (.int l3), some (.int l4), none] [] M) (k1 : ∀ (v : Int32) (M2 : fm_M), x = (v, M2) → fm_mw (d + 8) mX10_layAgainst Q 156 [some (.ref 76), some (.int l1), some (.int l2), some (.int l3), some (.int v), none] [] M2) (M : fm_M) (h : J_X10_layAgainst_97 rec l1 l2 l3 l4 l5 s1 s2 M = some x) : fm_mw (d + 8) mX10_layAgainst Q 97 [some (.ref 76), some (.int l1), some (.int l2), some (.int l3), some (.int l4), some (.int l5)] [(.int s2), (.int s1), (.ref 103)] M := by
  rw [J_X10_layAgainst_97] at h
  refine fl_aload0 (pc := 97) dX10_layAgainst_97 ?_
  refine fm_getr (pc := 98) lk_10_13 sh_76 rfl dX10_layAgainst_98 ?_
  refine fm_iconstv (pc := 101) 5 (by decide) dX10_layAgainst_101 ?_
  obtain ⟨g17, h⟩ := fm_gdp h
  refine fm_iald (pc := 102) sh_78 (fm_inb_ok g17) dX10_layAgainst_102 ?_
  refine fl_iload4 (pc := 103) dX10_layAgainst_103 ?_
  refine fm_iconstv (pc := 105) 5 (by decide) dX10_layAgainst_105 ?_
  refine fm_idiv (pc := 106) (by decide) dX10_layAgainst_106 ?_
  refine fm_iconstv (pc := 107) 2 (by decide) dX10_layAgainst_107 ?_
  refine fm_isub (pc := 108) dX10_layAgainst_108 ?_
  refine fq_mabs (pc := 109) ml_10_334 (Nat.le_of_ble_eq_true rfl) dX10_layAgainst_109 ?_
  refine fm_imul (pc := 112) dX10_layAgainst_112 ?_
  refine fm_isub (pc := 113) dX10_layAgainst_113 ?_
  obtain ⟨g18, h⟩ := fm_gdp h
  refine fm_iast (pc := 114) sh_103 (fm_inb_ok g18) dX10_layAgainst_114 ?_
  obtain ⟨M19, eM19, h⟩ := fm_ltp h
  refine fm_cgm eM19 ?_
  refine fl_aload0 (pc := 115) dX10_layAgainst_115 ?_
  refine fm_getr (pc := 116) lk_10_105 sh_76 rfl dX10_layAgainst_116 ?_
  refine fl_iload4 (pc := 119) dX10_layAgainst_119 ?_
  refine fl_iload5 (pc := 121) dX10_layAgainst_121 ?_
  refine fm_if_eq (pc := 123) 130 (by decide) dX10_layAgainst_123 (fun c123 => ?_) (fun c123 => ?_)
  · replace h := fm_itp c123 h
    refine fm_bipushv (pc := 130) 20 (by decide) dX10_layAgainst_130 ?_
    exact jn_X10_layAgainst_132 _ _ _ _ _ _ _ _  ih k1 _ h
  · replace h := fm_itn c123 h
    refine fm_iconstv (pc := 126) 0 (by decide) dX10_layAgainst_126 ?_
    refine fm_goto (pc := 127) 132 (by decide) dX10_layAgainst_127 ?_
    exact jn_X10_layAgainst_132 _ _ _ _ _ _ _ _  ih k1 _ h
theorem lp_X10_layAgainst_3 {d : Nat} {Q : Option Value → fm_M → Prop} {l1 : Int32} {l2 : Int32} {l3 : Int32}   {x : (Int32) × fm_M} (k1 : ∀ (v : Int32) (M2 : fm_M), x = (v, M2) → fm_mw (d + 8) mX10_layAgainst Q 156 [some (.ref 76), some (.int l1), some (.int l2), some (.int l3), some (.int v), none] [] M2) : ∀ (n : Nat) (l4 : Int32) (M : fm_M), G_X10_layAgainst_3 n l1 l2 l3 l4 M = some x → fm_mw (d + 8) mX10_layAgainst Q 3 [some (.ref 76), some (.int l1), some (.int l2), some (.int l3), some (.int l4), none] [] M := by
  intro n
  induction n with
  | zero => intro l4 M h; simp [G_X10_layAgainst_3] at h
  | succ n ih =>
    intro l4 M h
    rw [G_X10_layAgainst_3] at h
    refine fl_iload4 (pc := 3) dX10_layAgainst_3 ?_
    refine fm_bipushv (pc := 5) 25 (by decide) dX10_layAgainst_5 ?_
    refine fm_icmp_ge (pc := 7) 156 (by decide) dX10_layAgainst_7 (fun c7 => ?_) (fun c7 => ?_)
    · replace h := fm_itp c7 h
      refine fm_fgt [some (.ref 76), some (.int l1), some (.int l2), some (.int l3), some (.int l4), none] (by simp [fm_sub]) ?_
      cases h
      exact k1 _ _ rfl
    · replace h := fm_itn c7 h
      refine fl_aload0 (pc := 10) dX10_layAgainst_10 ?_
      refine fm_iconstv (pc := 11) 1 (by decide) dX10_layAgainst_11 ?_
      refine fm_iconstv (pc := 12) 0 (by decide) dX10_layAgainst_12 ?_
      obtain ⟨v1, M2, ev1, h⟩ := fm_bdp h
      refine fm_callV (pc := 13) mX10_copies [_, _] _ rfl cvX10_copies ml_10_414 sh_76 rfl rfl (Nat.le_of_ble_eq_true rfl) (Nat.le_of_ble_eq_true rfl) dX10_layAgainst_13 ?_
      refine sp_X10_copies ev1 ?_
      refine fm_ret0 ?_
      refine fl_aload0 (pc := 16) dX10_layAgainst_16 ?_
      refine fm_getr (pc := 17) lk_10_78 sh_76 rfl dX10_layAgainst_17 ?_
      refine fm_bipushv (pc := 20) 8 (by decide) dX10_layAgainst_20 ?_
      refine fl_iload1 (pc := 22) dX10_layAgainst_22 ?_
      refine fm_iadd (pc := 23) dX10_layAgainst_23 ?_
      refine fl_aload0 (pc := 24) dX10_layAgainst_24 ?_
      refine fm_getr (pc := 25) lk_10_78 sh_76 rfl dX10_layAgainst_25 ?_
      refine fl_iload1 (pc := 28) dX10_layAgainst_28 ?_
      obtain ⟨g3, h⟩ := fm_gdp h
      refine fm_iald (pc := 29) sh_98 (fm_inb_ok g3) dX10_layAgainst_29 ?_
      refine fl_iload4 (pc := 30) dX10_layAgainst_30 ?_
      refine fm_iconstv (pc := 32) 5 (by decide) dX10_layAgainst_32 ?_
      refine fm_idiv (pc := 33) (by decide) dX10_layAgainst_33 ?_
      refine fm_iadd (pc := 34) dX10_layAgainst_34 ?_
      refine fm_iconstv (pc := 35) 2 (by decide) dX10_layAgainst_35 ?_
      refine fm_isub (pc := 36) dX10_layAgainst_36 ?_
      obtain ⟨v4, M5, ev4, h⟩ := fm_bdp h
      refine fm_callS (pc := 37) mX10_heldPitch [_] _ rfl csX10_heldPitch ml_10_441 rfl (Nat.le_of_ble_eq_true rfl) (Nat.le_of_ble_eq_true rfl) dX10_layAgainst_37 ?_
      refine sp_X10_heldPitch ev4 ?_
      refine fm_ret1 ?_
      obtain ⟨g6, h⟩ := fm_gdp h
      refine fm_iast (pc := 40) sh_98 (fm_inb_ok g6) dX10_layAgainst_40 ?_
      obtain ⟨M7, eM7, h⟩ := fm_ltp h
      refine fm_cgm eM7 ?_
      refine fl_aload0 (pc := 41) dX10_layAgainst_41 ?_
      refine fm_getr (pc := 42) lk_10_78 sh_76 rfl dX10_layAgainst_42 ?_
      refine fm_bipushv (pc := 45) 8 (by decide) dX10_layAgainst_45 ?_
      refine fl_iload2 (pc := 47) dX10_layAgainst_47 ?_
      refine fm_iadd (pc := 48) dX10_layAgainst_48 ?_
      refine fl_aload0 (pc := 49) dX10_layAgainst_49 ?_
      refine fm_getr (pc := 50) lk_10_78 sh_76 rfl dX10_layAgainst_50 ?_
      refine fl_iload2 (pc := 53) dX10_layAgainst_53 ?_
      obtain ⟨g8, h⟩ := fm_gdp h
      refine fm_iald (pc := 54) sh_98 (fm_inb_ok g8) dX10_layAgainst_54 ?_
      refine fl_iload4 (pc := 55) dX10_layAgainst_55 ?_
      refine fm_iconstv (pc := 57) 5 (by decide) dX10_layAgainst_57 ?_
      refine fq_irem (pc := 58) (by decide) dX10_layAgainst_58 ?_
      refine fm_iadd (pc := 59) dX10_layAgainst_59 ?_
      refine fm_iconstv (pc := 60) 2 (by decide) dX10_layAgainst_60 ?_
      refine fm_isub (pc := 61) dX10_layAgainst_61 ?_
      obtain ⟨v9, M10, ev9, h⟩ := fm_bdp h
      refine fm_callS (pc := 62) mX10_heldPitch [_] _ rfl csX10_heldPitch ml_10_441 rfl (Nat.le_of_ble_eq_true rfl) (Nat.le_of_ble_eq_true rfl) dX10_layAgainst_62 ?_
      refine sp_X10_heldPitch ev9 ?_
      refine fm_ret1 ?_
      obtain ⟨g11, h⟩ := fm_gdp h
      refine fm_iast (pc := 65) sh_98 (fm_inb_ok g11) dX10_layAgainst_65 ?_
      obtain ⟨M12, eM12, h⟩ := fm_ltp h
      refine fm_cgm eM12 ?_
      refine fl_aload0 (pc := 66) dX10_layAgainst_66 ?_
      refine fm_iconstv (pc := 67) 1 (by decide) dX10_layAgainst_67 ?_
      refine fl_iload3 (pc := 68) dX10_layAgainst_68 ?_
      refine fl_aload0 (pc := 69) dX10_layAgainst_69 ?_
      refine fm_iconstv (pc := 70) 1 (by decide) dX10_layAgainst_70 ?_
      refine fl_iload3 (pc := 71) dX10_layAgainst_71 ?_
      obtain ⟨v13, M14, ev13, h⟩ := fm_bdp h
      refine fm_callV (pc := 72) mX10_humAll [_, _] _ rfl cvX10_humAll ml_10_385 sh_76 rfl rfl (Nat.le_of_ble_eq_true rfl) (Nat.le_of_ble_eq_true rfl) dX10_layAgainst_72 ?_
      refine sp_X10_humAll ev13 ?_
      refine fm_ret1 ?_
      obtain ⟨v15, M16, ev15, h⟩ := fm_bdp h
      refine fm_callV (pc := 75) mX10_passes [_, _, _] _ rfl cvX10_passes ml_10_388 sh_76 rfl rfl (Nat.le_of_ble_eq_true rfl) (Nat.le_of_ble_eq_true rfl) dX10_layAgainst_75 ?_
      refine sp_X10_passes ev15 ?_
      refine fm_ret1 ?_
      refine fl_istore5 (pc := 78) rfl (by decide) dX10_layAgainst_78 ?_
      refine fl_aload0 (pc := 80) dX10_layAgainst_80 ?_
      refine fm_getr (pc := 81) lk_10_102 sh_76 rfl dX10_layAgainst_81 ?_
      refine fl_iload4 (pc := 84) dX10_layAgainst_84 ?_
      refine fl_iload5 (pc := 86) dX10_layAgainst_86 ?_
      refine fm_if_eq (pc := 88) 96 (by decide) dX10_layAgainst_88 (fun c88 => ?_) (fun c88 => ?_)
      · replace h := fm_itp c88 h
        refine fm_iconstv (pc := 96) 0 (by decide) dX10_layAgainst_96 ?_
        exact jn_X10_layAgainst_97 _ _ _ _ _ _ _ _  ih k1 _ h
      · replace h := fm_itn c88 h
        refine fm_bipushv (pc := 91) 20 (by decide) dX10_layAgainst_91 ?_
        refine fm_goto (pc := 93) 97 (by decide) dX10_layAgainst_93 ?_
        exact jn_X10_layAgainst_97 _ _ _ _ _ _ _ _  ih k1 _ h
theorem sp_X10_layAgainst {d : Nat} {a1 : Int32} {a2 : Int32} {a3 : Int32} {M : fm_M} {x : Unit × fm_M} {Q : Option Value → fm_M → Prop} (h : F_X10_layAgainst a1 a2 a3 M = some x) (hq : Q none x.2) : fm_ct (d + 8) mX10_layAgainst [.ref 76, .int a1, .int a2, .int a3] M Q := by
  rw [F_X10_layAgainst] at h
  show fm_mw (d + 8) mX10_layAgainst Q 0 [some (.ref 76), some (.int a1), some (.int a2), some (.int a3), none, none] [] M
  refine fm_iconstv (pc := 0) 0 (by decide) dX10_layAgainst_0 ?_
  refine fl_istore4 (pc := 1) rfl (by decide) dX10_layAgainst_1 ?_
  obtain ⟨w23, M24, ew23, h⟩ := fm_bdp h
  refine lp_X10_layAgainst_3  ?_ _ _ _ ew23
  intro w239 M249 q9
  cases q9
  refine fm_vret (pc := 156) rfl ?_ dX10_layAgainst_156
  cases h
  exact hq
