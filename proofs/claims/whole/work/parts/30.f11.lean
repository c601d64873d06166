/-! X10_tried -/
def J_X10_tried_36 (l1 : Int32) (l2 : Int32) (l3 : Int32) (s0 : Int32) (M : fm_M) : Option (Int32 × fm_M) :=
    if s0 = 0 then (
      some ((-1), M)
    ) else (
      if l3 < 0 then (
        some ((-1), M)
      ) else (
        if l3 ≤ 99 then (
          fm_lt (fm_up M 76 43 l1) (fun M2 =>
          fm_lt (fm_up M2 76 44 l2) (fun M3 =>
          fm_bd (F_X10_copies 1 0 M3) (fun v4 M5 =>
          fm_bd (F_X10_goesOn l3 M5) (fun v6 M7 =>
          fm_lt (fm_up M7 76 43 0) (fun M8 =>
          fm_lt (fm_up M8 76 44 (-1)) (fun M9 =>
          fm_bd (F_X10_manyOf 1 1 M9) (fun v10 M11 =>
          fm_bd (F_X10_manyOf 0 1 M11) (fun v12 M13 =>
          some ((v10 - v12), M13)))))))))
        ) else (
          some ((-1), M)
        )
      )
    )
def J_X10_tried_35 (l1 : Int32) (l2 : Int32) (l3 : Int32) (M : fm_M) : Option (Int32 × fm_M) :=
    J_X10_tried_36 l1 l2 l3 0 M
def F_X10_tried (a1 : Int32) (a2 : Int32) (a3 : Int32) (M : fm_M) : Option (Int32 × fm_M) :=
    fm_lt (fm_up M 76 0 0) (fun M1 =>
    if a1 = 2 then (
      fm_bd (F_X10_isFork a2 M1) (fun v14 M15 =>
      J_X10_tried_36 a1 a2 a3 v14 M15)
    ) else (
      if a1 < 0 then (
        J_X10_tried_35 a1 a2 a3 M1
      ) else (
        if 5 < a1 then (
          J_X10_tried_35 a1 a2 a3 M1
        ) else (
          if a2 = 0 then (
            J_X10_tried_36 a1 a2 a3 1 M1
          ) else (
            J_X10_tried_35 a1 a2 a3 M1
          )
        )
      )
    ))
theorem jn_X10_tried_36 {d : Nat} {Q : Option Value → fm_M → Prop}  (l1 : Int32) (l2 : Int32) (l3 : Int32) (s0 : Int32) {x : Int32 × fm_M}  (hq : Q (some (.int x.1)) x.2) (M : fm_M) (h : J_X10_tried_36 l1 l2 l3 s0 M = some x) : fm_mw (d + 11) mX10_tried Q 36 [some (.ref 76), some (.int l1), some (.int l2), some (.int l3), none] [(.int s0)] M := by
  rw [J_X10_tried_36] at h
  refine fl_istore4 (pc := 36) rfl (by decide) dX10_tried_36 ?_
  refine fl_iload4 (pc := 38) dX10_tried_38 ?_
  refine fm_if_eq (pc := 40) 53 (by decide) dX10_tried_40 (fun c40 => ?_) (fun c40 => ?_)
  · replace h := fm_itp c40 h
    refine fm_iconstv (pc := 53) (-1) (by decide) dX10_tried_53 ?_
    refine fm_iret (pc := 54) rfl ?_ dX10_tried_54
    cases h
    exact hq
  · replace h := fm_itn c40 h
    refine fl_iload3 (pc := 43) dX10_tried_43 ?_
    refine fm_if_lt (pc := 44) 53 (by decide) dX10_tried_44 (fun c44 => ?_) (fun c44 => ?_)
    · replace h := fm_itp c44 h
      refine fm_iconstv (pc := 53) (-1) (by decide) dX10_tried_53 ?_
      refine fm_iret (pc := 54) rfl ?_ dX10_tried_54
      cases h
      exact hq
    · replace h := fm_itn c44 h
      refine fl_iload3 (pc := 47) dX10_tried_47 ?_
      refine fm_bipushv (pc := 48) 99 (by decide) dX10_tried_48 ?_
      refine fm_icmp_le (pc := 50) 55 (by decide) dX10_tried_50 (fun c50 => ?_) (fun c50 => ?_)
      · replace h := fm_itp c50 h
        refine fl_aload0 (pc := 55) dX10_tried_55 ?_
        refine fl_iload1 (pc := 56) dX10_tried_56 ?_
        refine fm_puti (pc := 57) lp_10_316 sh_76 rfl dX10_tried_57 ?_
        obtain ⟨M2, eM2, h⟩ := fm_ltp h
        refine fm_cgm eM2 ?_
        refine fl_aload0 (pc := 60) dX10_tried_60 ?_
        refine fl_iload2 (pc := 61) dX10_tried_61 ?_
        refine fm_puti (pc := 62) lp_10_90 sh_76 rfl dX10_tried_62 ?_
        obtain ⟨M3, eM3, h⟩ := fm_ltp h
        refine fm_cgm eM3 ?_
        refine fl_aload0 (pc := 65) dX10_tried_65 ?_
        refine fm_iconstv (pc := 66) 1 (by decide) dX10_tried_66 ?_
        refine fm_iconstv (pc := 67) 0 (by decide) dX10_tried_67 ?_
        obtain ⟨v4, M5, ev4, h⟩ := fm_bdp h
        refine fm_callV (pc := 68) mX10_copies [_, _] _ rfl cvX10_copies ml_10_414 sh_76 rfl rfl (Nat.le_of_ble_eq_true rfl) (Nat.le_of_ble_eq_true rfl) dX10_tried_68 ?_
        refine sp_X10_copies ev4 ?_
        refine fm_ret0 ?_
        refine fl_aload0 (pc := 71) dX10_tried_71 ?_
        refine fl_iload3 (pc := 72) dX10_tried_72 ?_
        obtain ⟨v6, M7, ev6, h⟩ := fm_bdp h
        refine fm_callV (pc := 73) mX10_goesOn [_] _ rfl cvX10_goesOn ml_10_420 sh_76 rfl rfl (Nat.le_of_ble_eq_true rfl) (Nat.le_of_ble_eq_true rfl) dX10_tried_73 ?_
        refine sp_X10_goesOn ev6 ?_
        refine fm_ret0 ?_
        refine fl_aload0 (pc := 76) dX10_tried_76 ?_
        refine fm_iconstv (pc := 77) 0 (by decide) dX10_tried_77 ?_
        refine fm_puti (pc := 78) lp_10_316 sh_76 rfl dX10_tried_78 ?_
        obtain ⟨M8, eM8, h⟩ := fm_ltp h
        refine fm_cgm eM8 ?_
        refine fl_aload0 (pc := 81) dX10_tried_81 ?_
        refine fm_iconstv (pc := 82) (-1) (by decide) dX10_tried_82 ?_
        refine fm_puti (pc := 83) lp_10_90 sh_76 rfl dX10_tried_83 ?_
        obtain ⟨M9, eM9, h⟩ := fm_ltp h
        refine fm_cgm eM9 ?_
        refine fl_aload0 (pc := 86) dX10_tried_86 ?_
        refine fm_iconstv (pc := 87) 1 (by decide) dX10_tried_87 ?_
        refine fm_iconstv (pc := 88) 1 (by decide) dX10_tried_88 ?_
        obtain ⟨v10, M11, ev10, h⟩ := fm_bdp h
        refine fm_callV (pc := 89) mX10_manyOf [_, _] _ rfl cvX10_manyOf ml_10_423 sh_76 rfl rfl (Nat.le_of_ble_eq_true rfl) (Nat.le_of_ble_eq_true rfl) dX10_tried_89 ?_
        refine sp_X10_manyOf ev10 ?_
        refine fm_ret1 ?_
        refine fl_aload0 (pc := 92) dX10_tried_92 ?_
        refine fm_iconstv (pc := 93) 0 (by decide) dX10_tried_93 ?_
        refine fm_iconstv (pc := 94) 1 (by decide) dX10_tried_94 ?_
        obtain ⟨v12, M13, ev12, h⟩ := fm_bdp h
        refine fm_callV (pc := 95) mX10_manyOf [_, _] _ rfl cvX10_manyOf ml_10_423 sh_76 rfl rfl (Nat.le_of_ble_eq_true rfl) (Nat.le_of_ble_eq_true rfl) dX10_tried_95 ?_
        refine sp_X10_manyOf ev12 ?_
        refine fm_ret1 ?_
        refine fm_isub (pc := 98) dX10_tried_98 ?_
        refine fm_iret (pc := 99) rfl ?_ dX10_tried_99
        cases h
        exact hq
      · replace h := fm_itn c50 h
        refine fm_iconstv (pc := 53) (-1) (by decide) dX10_tried_53 ?_
        refine fm_iret (pc := 54) rfl ?_ dX10_tried_54
        cases h
        exact hq
theorem jn_X10_tried_35 {d : Nat} {Q : Option Value → fm_M → Prop}  (l1 : Int32) (l2 : Int32) (l3 : Int32) {x : Int32 × fm_M}  (hq : Q (some (.int x.1)) x.2) (M : fm_M) (h : J_X10_tried_35 l1 l2 l3 M = some x) : fm_mw (d + 11) mX10_tried Q 35 [some (.ref 76), some (.int l1), some (.int l2), some (.int l3), none] [] M := by
  rw [J_X10_tried_35] at h
  refine fm_iconstv (pc := 35) 0 (by decide) dX10_tried_35 ?_
  exact jn_X10_tried_36 _ _ _ _  hq _ h
theorem sp_X10_tried {d : Nat} {a1 : Int32} {a2 : Int32} {a3 : Int32} {M : fm_M} {x : Int32 × fm_M} {Q : Option Value → fm_M → Prop} (h : F_X10_tried a1 a2 a3 M = some x) (hq : Q (some (.int x.1)) x.2) : fm_ct (d + 11) mX10_tried [.ref 76, .int a1, .int a2, .int a3] M Q := by
  rw [F_X10_tried] at h
  show fm_mw (d + 11) mX10_tried Q 0 [some (.ref 76), some (.int a1), some (.int a2), some (.int a3), none] [] M
  refine fl_aload0 (pc := 0) dX10_tried_0 ?_
  refine fm_iconstv (pc := 1) 0 (by decide) dX10_tried_1 ?_
  refine fm_puti (pc := 2) lp_10_130 sh_76 rfl dX10_tried_2 ?_
  obtain ⟨M1, eM1, h⟩ := fm_ltp h
  refine fm_cgm eM1 ?_
  refine fl_iload1 (pc := 5) dX10_tried_5 ?_
  refine fm_iconstv (pc := 6) 2 (by decide) dX10_tried_6 ?_
  refine fm_icmp_ne (pc := 7) 18 (by decide) dX10_tried_7 (fun c7 => ?_) (fun c7 => ?_)
  · replace h := fm_itn c7 h
    refine fl_iload1 (pc := 18) dX10_tried_18 ?_
    refine fm_if_lt (pc := 19) 35 (by decide) dX10_tried_19 (fun c19 => ?_) (fun c19 => ?_)
    · replace h := fm_itp c19 h
      exact jn_X10_tried_35 _ _ _  hq _ h
    · replace h := fm_itn c19 h
      refine fl_iload1 (pc := 22) dX10_tried_22 ?_
      refine fm_iconstv (pc := 23) 5 (by decide) dX10_tried_23 ?_
      refine fm_icmp_gt (pc := 24) 35 (by decide) dX10_tried_24 (fun c24 => ?_) (fun c24 => ?_)
      · replace h := fm_itp c24 h
        exact jn_X10_tried_35 _ _ _  hq _ h
      · replace h := fm_itn c24 h
        refine fl_iload2 (pc := 27) dX10_tried_27 ?_
        refine fm_if_ne (pc := 28) 35 (by decide) dX10_tried_28 (fun c28 => ?_) (fun c28 => ?_)
        · replace h := fm_itn c28 h
          exact jn_X10_tried_35 _ _ _  hq _ h
        · replace h := fm_itp c28 h
          refine fm_iconstv (pc := 31) 1 (by decide) dX10_tried_31 ?_
          refine fm_goto (pc := 32) 36 (by decide) dX10_tried_32 ?_
          exact jn_X10_tried_36 _ _ _ _  hq _ h
  · replace h := fm_itp c7 h
    refine fl_aload0 (pc := 10) dX10_tried_10 ?_
    refine fl_iload2 (pc := 11) dX10_tried_11 ?_
    obtain ⟨v14, M15, ev14, h⟩ := fm_bdp h
    refine fm_callV (pc := 12) mX10_isFork [_] _ rfl cvX10_isFork ml_10_404 sh_76 rfl rfl (Nat.le_of_ble_eq_true rfl) (Nat.le_of_ble_eq_true rfl) dX10_tried_12 ?_
    refine sp_X10_isFork ev14 ?_
    refine fm_ret1 ?_
    refine fm_goto (pc := 15) 36 (by decide) dX10_tried_15 ?_
    exact jn_X10_tried_36 _ _ _ _  hq _ h
/-! X10_undo -/
def F_X10_undo  (M : fm_M) : Option (Int32 × fm_M) :=
    fm_lt (fm_up M 76 0 0) (fun M1 =>
    if (M1.1 76 42) = 0 then (
      some ((-1), M1)
    ) else (
      fm_lt (fm_up M1 76 42 ((M1.1 76 42) - 1)) (fun M2 =>
      fm_bd (F_X10_copies 0 (3 + (M2.1 76 42)) M2) (fun v3 M4 =>
      some ((M4.1 76 42), M4)))
    ))
theorem sp_X10_undo {d : Nat}  {M : fm_M} {x : Int32 × fm_M} {Q : Option Value → fm_M → Prop} (h : F_X10_undo  M = some x) (hq : Q (some (.int x.1)) x.2) : fm_ct (d + 1) mX10_undo [.ref 76] M Q := by
  rw [F_X10_undo] at h
  show fm_mw (d + 1) mX10_undo Q 0 [some (.ref 76)] [] M
  refine fl_aload0 (pc := 0) dX10_undo_0 ?_
  refine fm_iconstv (pc := 1) 0 (by decide) dX10_undo_1 ?_
  refine fm_puti (pc := 2) lp_10_130 sh_76 rfl dX10_undo_2 ?_
  obtain ⟨M1, eM1, h⟩ := fm_ltp h
  refine fm_cgm eM1 ?_
  refine fl_aload0 (pc := 5) dX10_undo_5 ?_
  refine fm_geti (pc := 6) lk_10_290 sh_76 rfl dX10_undo_6 ?_
  refine fm_if_ne (pc := 9) 14 (by decide) dX10_undo_9 (fun c9 => ?_) (fun c9 => ?_)
  · replace h := fm_itn c9 h
    refine fl_aload0 (pc := 14) dX10_undo_14 ?_
    refine fm_dup (pc := 15) rfl dX10_undo_15 ?_
    refine fm_geti (pc := 16) lk_10_290 sh_76 rfl dX10_undo_16 ?_
    refine fm_iconstv (pc := 19) 1 (by decide) dX10_undo_19 ?_
    refine fm_isub (pc := 20) dX10_undo_20 ?_
    refine fm_puti (pc := 21) lp_10_290 sh_76 rfl dX10_undo_21 ?_
    obtain ⟨M2, eM2, h⟩ := fm_ltp h
    refine fm_cgm eM2 ?_
    refine fl_aload0 (pc := 24) dX10_undo_24 ?_
    refine fm_iconstv (pc := 25) 0 (by decide) dX10_undo_25 ?_
    refine fm_iconstv (pc := 26) 3 (by decide) dX10_undo_26 ?_
    refine fl_aload0 (pc := 27) dX10_undo_27 ?_
    refine fm_geti (pc := 28) lk_10_290 sh_76 rfl dX10_undo_28 ?_
    refine fm_iadd (pc := 31) dX10_undo_31 ?_
    obtain ⟨v3, M4, ev3, h⟩ := fm_bdp h
    refine fm_callV (pc := 32) mX10_copies [_, _] _ rfl cvX10_copies ml_10_414 sh_76 rfl rfl (Nat.le_of_ble_eq_true rfl) (Nat.le_of_ble_eq_true rfl) dX10_undo_32 ?_
    refine sp_X10_copies ev3 ?_
    refine fm_ret0 ?_
    refine fl_aload0 (pc := 35) dX10_undo_35 ?_
    refine fm_geti (pc := 36) lk_10_290 sh_76 rfl dX10_undo_36 ?_
    refine fm_iret (pc := 39) rfl ?_ dX10_undo_39
    cases h
    exact hq
  · replace h := fm_itp c9 h
    refine fm_iconstv (pc := 12) (-1) (by decide) dX10_undo_12 ?_
    refine fm_iret (pc := 13) rfl ?_ dX10_undo_13
    cases h
    exact hq
/-! X10_keep -/
def F_X10_keep  (M : fm_M) : Option (Int32 × fm_M) :=
    fm_lt (fm_up M 76 0 0) (fun M1 =>
    fm_bd (F_X10_copies 2 0 M1) (fun v2 M3 =>
    fm_lt (fm_up M3 76 41 1) (fun M4 =>
    fm_gd (fm_inb 0 23) (
    some ((M4.1 94 (Int32.toNatClampNeg 0)), M4)))))
theorem sp_X10_keep {d : Nat}  {M : fm_M} {x : Int32 × fm_M} {Q : Option Value → fm_M → Prop} (h : F_X10_keep  M = some x) (hq : Q (some (.int x.1)) x.2) : fm_ct (d + 1) mX10_keep [.ref 76] M Q := by
  rw [F_X10_keep] at h
  show fm_mw (d + 1) mX10_keep Q 0 [some (.ref 76)] [] M
  refine fl_aload0 (pc := 0) dX10_keep_0 ?_
  refine fm_iconstv (pc := 1) 0 (by decide) dX10_keep_1 ?_
  refine fm_puti (pc := 2) lp_10_130 sh_76 rfl dX10_keep_2 ?_
  obtain ⟨M1, eM1, h⟩ := fm_ltp h
  refine fm_cgm eM1 ?_
  refine fl_aload0 (pc := 5) dX10_keep_5 ?_
  refine fm_iconstv (pc := 6) 2 (by decide) dX10_keep_6 ?_
  refine fm_iconstv (pc := 7) 0 (by decide) dX10_keep_7 ?_
  obtain ⟨v2, M3, ev2, h⟩ := fm_bdp h
  refine fm_callV (pc := 8) mX10_copies [_, _] _ rfl cvX10_copies ml_10_414 sh_76 rfl rfl (Nat.le_of_ble_eq_true rfl) (Nat.le_of_ble_eq_true rfl) dX10_keep_8 ?_
  refine sp_X10_copies ev2 ?_
  refine fm_ret0 ?_
  refine fl_aload0 (pc := 11) dX10_keep_11 ?_
  refine fm_iconstv (pc := 12) 1 (by decide) dX10_keep_12 ?_
  refine fm_putz (pc := 13) (by decide) lp_10_286 sh_76 rfl dX10_keep_13 ?_
  obtain ⟨M4, eM4, h⟩ := fm_ltp h
  refine fm_cgm eM4 ?_
  refine fl_aload0 (pc := 16) dX10_keep_16 ?_
  refine fm_getr (pc := 17) lk_10_66 sh_76 rfl dX10_keep_17 ?_
  refine fm_iconstv (pc := 20) 0 (by decide) dX10_keep_20 ?_
  obtain ⟨g5, h⟩ := fm_gdp h
  refine fm_iald (pc := 21) sh_94 (fm_inb_ok g5) dX10_keep_21 ?_
  refine fm_iret (pc := 22) rfl ?_ dX10_keep_22
  cases h
  exact hq
/-! X10_back -/
def F_X10_back  (M : fm_M) : Option (Int32 × fm_M) :=
    fm_lt (fm_up M 76 0 0) (fun M1 =>
    if (M1.1 76 41) = 0 then (
      some ((-1), M1)
    ) else (
      fm_bd (F_X10_copies 0 2 M1) (fun v2 M3 =>
      fm_lt (fm_up M3 76 42 0) (fun M4 =>
      fm_gd (fm_inb 0 23) (
      some ((M4.1 94 (Int32.toNatClampNeg 0)), M4))))
    ))
theorem sp_X10_back {d : Nat}  {M : fm_M} {x : Int32 × fm_M} {Q : Option Value → fm_M → Prop} (h : F_X10_back  M = some x) (hq : Q (some (.int x.1)) x.2) : fm_ct (d + 1) mX10_back [.ref 76] M Q := by
  rw [F_X10_back] at h
  show fm_mw (d + 1) mX10_back Q 0 [some (.ref 76)] [] M
  refine fl_aload0 (pc := 0) dX10_back_0 ?_
  refine fm_iconstv (pc := 1) 0 (by decide) dX10_back_1 ?_
  refine fm_puti (pc := 2) lp_10_130 sh_76 rfl dX10_back_2 ?_
  obtain ⟨M1, eM1, h⟩ := fm_ltp h
  refine fm_cgm eM1 ?_
  refine fl_aload0 (pc := 5) dX10_back_5 ?_
  refine fm_geti (pc := 6) lk_10_286 sh_76 rfl dX10_back_6 ?_
  refine fm_if_ne (pc := 9) 14 (by decide) dX10_back_9 (fun c9 => ?_) (fun c9 => ?_)
  · replace h := fm_itn c9 h
    refine fl_aload0 (pc := 14) dX10_back_14 ?_
    refine fm_iconstv (pc := 15) 0 (by decide) dX10_back_15 ?_
    refine fm_iconstv (pc := 16) 2 (by decide) dX10_back_16 ?_
    obtain ⟨v2, M3, ev2, h⟩ := fm_bdp h
    refine fm_callV (pc := 17) mX10_copies [_, _] _ rfl cvX10_copies ml_10_414 sh_76 rfl rfl (Nat.le_of_ble_eq_true rfl) (Nat.le_of_ble_eq_true rfl) dX10_back_17 ?_
    refine sp_X10_copies ev2 ?_
    refine fm_ret0 ?_
    refine fl_aload0 (pc := 20) dX10_back_20 ?_
    refine fm_iconstv (pc := 21) 0 (by decide) dX10_back_21 ?_
    refine fm_puti (pc := 22) lp_10_290 sh_76 rfl dX10_back_22 ?_
    obtain ⟨M4, eM4, h⟩ := fm_ltp h
    refine fm_cgm eM4 ?_
    refine fl_aload0 (pc := 25) dX10_back_25 ?_
    refine fm_getr (pc := 26) lk_10_66 sh_76 rfl dX10_back_26 ?_
    refine fm_iconstv (pc := 29) 0 (by decide) dX10_back_29 ?_
    obtain ⟨g5, h⟩ := fm_gdp h
    refine fm_iald (pc := 30) sh_94 (fm_inb_ok g5) dX10_back_30 ?_
    refine fm_iret (pc := 31) rfl ?_ dX10_back_31
    cases h
    exact hq
  · replace h := fm_itp c9 h
    refine fm_iconstv (pc := 12) (-1) (by decide) dX10_back_12 ?_
    refine fm_iret (pc := 13) rfl ?_ dX10_back_13
    cases h
    exact hq
/-! X10_count -/
def F_X10_count (a1 : Int32) (M : fm_M) : Option (Int32 × fm_M) :=
    fm_lt (fm_up M 76 0 0) (fun M1 =>
    if a1 = 0 then (
      fm_gd (fm_inb 0 20) (
      some ((M1.1 78 (Int32.toNatClampNeg 0)), M1))
    ) else (
    if a1 = 1 then (
      fm_gd (fm_inb 1 20) (
      some ((M1.1 78 (Int32.toNatClampNeg 1)), M1))
    ) else (
    if a1 = 2 then (
      fm_gd (fm_inb 9 20) (
      fm_bd (F_X10_bitsOf (M1.1 78 (Int32.toNatClampNeg 9)) M1) (fun v5 M6 =>
      some (v5, M6)))
    ) else (
    if a1 = 3 then (
      fm_gd (fm_inb 3 20) (
      some ((M1.1 78 (Int32.toNatClampNeg 3)), M1))
    ) else (
    if a1 = 4 then (
      fm_gd (fm_inb 8 20) (
      some ((M1.1 78 (Int32.toNatClampNeg 8)), M1))
    ) else (
    if a1 = 5 then (
      fm_gd (fm_inb 0 23) (
      some ((M1.1 94 (Int32.toNatClampNeg 0)), M1))
    ) else (
    if a1 = 6 then (
      fm_gd (fm_inb 0 23) (
      some ((M1.1 95 (Int32.toNatClampNeg 0)), M1))
    ) else (
    if a1 = 7 then (
      fm_gd (fm_inb 0 23) (
      some ((M1.1 96 (Int32.toNatClampNeg 0)), M1))
    ) else (
    if a1 = 8 then (
      fm_bd (F_X10_manyOf 0 1 M1) (fun v12 M13 =>
      some (v12, M13))
    ) else (
    if a1 = 9 then (
      fm_bd (F_X10_manyOf 0 0 M1) (fun v14 M15 =>
      some (v14, M15))
    ) else (
    if a1 = 10 then (
      fm_bd (F_X10_heardAll 0 M1) (fun v16 M17 =>
      some (v16, M17))
    ) else (
    if a1 = 11 then (
      fm_gd (fm_inb 0 23) (
      fm_bd (F_X10_bitsOf (M1.1 97 (Int32.toNatClampNeg 0)) M1) (fun v19 M20 =>
      some (v19, M20)))
    ) else (
    if a1 = 12 then (
      some ((M1.1 76 55), M1)
    ) else (
    if a1 = 13 then (
      fm_bd (F_X10_knownMany M1) (fun v21 M22 =>
      some (v21, M22))
    ) else (
    if a1 = 14 then (
      some ((M1.1 76 42), M1)
    ) else (
    some ((-1), M1)))))))))))))))))
theorem sp_X10_count {d : Nat} {a1 : Int32} {M : fm_M} {x : Int32 × fm_M} {Q : Option Value → fm_M → Prop} (h : F_X10_count a1 M = some x) (hq : Q (some (.int x.1)) x.2) : fm_ct (d + 2) mX10_count [.ref 76, .int a1] M Q := by
  rw [F_X10_count] at h
  show fm_mw (d + 2) mX10_count Q 0 [some (.ref 76), some (.int a1)] [] M
  refine fl_aload0 (pc := 0) dX10_count_0 ?_
  refine fm_iconstv (pc := 1) 0 (by decide) dX10_count_1 ?_
  refine fm_puti (pc := 2) lp_10_130 sh_76 rfl dX10_count_2 ?_
  obtain ⟨M1, eM1, h⟩ := fm_ltp h
  refine fm_cgm eM1 ?_
  refine fl_iload1 (pc := 5) dX10_count_5 ?_
  by_cases s6_0 : a1 = 0
  · replace h := fm_itp s6_0 h
    refine fm_tswIn (pc := 6) 80 0 (74) (by rw [s6_0]; rfl) (by decide) (by decide) (by decide) (by decide) dX10_count_6 ?_
    refine fl_aload0 (pc := 80) dX10_count_80 ?_
    refine fm_getr (pc := 81) lk_10_13 sh_76 rfl dX10_count_81 ?_
    refine fm_iconstv (pc := 84) 0 (by decide) dX10_count_84 ?_
    obtain ⟨g2, h⟩ := fm_gdp h
    refine fm_iald (pc := 85) sh_78 (fm_inb_ok g2) dX10_count_85 ?_
    refine fm_iret (pc := 86) rfl ?_ dX10_count_86
    cases h
    exact hq
  · replace h := fm_itn s6_0 h
    by_cases s6_1 : a1 = 1
    · replace h := fm_itp s6_1 h
      refine fm_tswIn (pc := 6) 87 1 (81) (by rw [s6_1]; rfl) (by decide) (by decide) (by decide) (by decide) dX10_count_6 ?_
      refine fl_aload0 (pc := 87) dX10_count_87 ?_
      refine fm_getr (pc := 88) lk_10_13 sh_76 rfl dX10_count_88 ?_
      refine fm_iconstv (pc := 91) 1 (by decide) dX10_count_91 ?_
      obtain ⟨g3, h⟩ := fm_gdp h
      refine fm_iald (pc := 92) sh_78 (fm_inb_ok g3) dX10_count_92 ?_
      refine fm_iret (pc := 93) rfl ?_ dX10_count_93
      cases h
      exact hq
    · replace h := fm_itn s6_1 h
      by_cases s6_2 : a1 = 2
      · replace h := fm_itp s6_2 h
        refine fm_tswIn (pc := 6) 94 2 (88) (by rw [s6_2]; rfl) (by decide) (by decide) (by decide) (by decide) dX10_count_6 ?_
        refine fl_aload0 (pc := 94) dX10_count_94 ?_
        refine fm_getr (pc := 95) lk_10_13 sh_76 rfl dX10_count_95 ?_
        refine fm_bipushv (pc := 98) 9 (by decide) dX10_count_98 ?_
        obtain ⟨g4, h⟩ := fm_gdp h
        refine fm_iald (pc := 100) sh_78 (fm_inb_ok g4) dX10_count_100 ?_
        obtain ⟨v5, M6, ev5, h⟩ := fm_bdp h
        refine fm_callS (pc := 101) mX10_bitsOf [_] _ rfl csX10_bitsOf ml_10_438 rfl (Nat.le_of_ble_eq_true rfl) (Nat.le_of_ble_eq_true rfl) dX10_count_101 ?_
        refine sp_X10_bitsOf ev5 ?_
        refine fm_ret1 ?_
        refine fm_iret (pc := 104) rfl ?_ dX10_count_104
        cases h
        exact hq
      · replace h := fm_itn s6_2 h
        by_cases s6_3 : a1 = 3
        · replace h := fm_itp s6_3 h
          refine fm_tswIn (pc := 6) 105 3 (99) (by rw [s6_3]; rfl) (by decide) (by decide) (by decide) (by decide) dX10_count_6 ?_
          refine fl_aload0 (pc := 105) dX10_count_105 ?_
          refine fm_getr (pc := 106) lk_10_13 sh_76 rfl dX10_count_106 ?_
          refine fm_iconstv (pc := 109) 3 (by decide) dX10_count_109 ?_
          obtain ⟨g7, h⟩ := fm_gdp h
          refine fm_iald (pc := 110) sh_78 (fm_inb_ok g7) dX10_count_110 ?_
          refine fm_iret (pc := 111) rfl ?_ dX10_count_111
          cases h
          exact hq
        · replace h := fm_itn s6_3 h
          by_cases s6_4 : a1 = 4
          · replace h := fm_itp s6_4 h
            refine fm_tswIn (pc := 6) 112 4 (106) (by rw [s6_4]; rfl) (by decide) (by decide) (by decide) (by decide) dX10_count_6 ?_
            refine fl_aload0 (pc := 112) dX10_count_112 ?_
            refine fm_getr (pc := 113) lk_10_13 sh_76 rfl dX10_count_113 ?_
            refine fm_bipushv (pc := 116) 8 (by decide) dX10_count_116 ?_
            obtain ⟨g8, h⟩ := fm_gdp h
            refine fm_iald (pc := 118) sh_78 (fm_inb_ok g8) dX10_count_118 ?_
            refine fm_iret (pc := 119) rfl ?_ dX10_count_119
            cases h
            exact hq
          · replace h := fm_itn s6_4 h
            by_cases s6_5 : a1 = 5
            · replace h := fm_itp s6_5 h
              refine fm_tswIn (pc := 6) 120 5 (114) (by rw [s6_5]; rfl) (by decide) (by decide) (by decide) (by decide) dX10_count_6 ?_
              refine fl_aload0 (pc := 120) dX10_count_120 ?_
              refine fm_getr (pc := 121) lk_10_66 sh_76 rfl dX10_count_121 ?_
              refine fm_iconstv (pc := 124) 0 (by decide) dX10_count_124 ?_
              obtain ⟨g9, h⟩ := fm_gdp h
              refine fm_iald (pc := 125) sh_94 (fm_inb_ok g9) dX10_count_125 ?_
              refine fm_iret (pc := 126) rfl ?_ dX10_count_126
              cases h
              exact hq
            · replace h := fm_itn s6_5 h
              by_cases s6_6 : a1 = 6
              · replace h := fm_itp s6_6 h
                refine fm_tswIn (pc := 6) 127 6 (121) (by rw [s6_6]; rfl) (by decide) (by decide) (by decide) (by decide) dX10_count_6 ?_
                refine fl_aload0 (pc := 127) dX10_count_127 ?_
                refine fm_getr (pc := 128) lk_10_69 sh_76 rfl dX10_count_128 ?_
                refine fm_iconstv (pc := 131) 0 (by decide) dX10_count_131 ?_
                obtain ⟨g10, h⟩ := fm_gdp h
                refine fm_iald (pc := 132) sh_95 (fm_inb_ok g10) dX10_count_132 ?_
                refine fm_iret (pc := 133) rfl ?_ dX10_count_133
                cases h
                exact hq
              · replace h := fm_itn s6_6 h
                by_cases s6_7 : a1 = 7
                · replace h := fm_itp s6_7 h
                  refine fm_tswIn (pc := 6) 134 7 (128) (by rw [s6_7]; rfl) (by decide) (by decide) (by decide) (by decide) dX10_count_6 ?_
                  refine fl_aload0 (pc := 134) dX10_count_134 ?_
                  refine fm_getr (pc := 135) lk_10_72 sh_76 rfl dX10_count_135 ?_
                  refine fm_iconstv (pc := 138) 0 (by decide) dX10_count_138 ?_
                  obtain ⟨g11, h⟩ := fm_gdp h
                  refine fm_iald (pc := 139) sh_96 (fm_inb_ok g11) dX10_count_139 ?_
                  refine fm_iret (pc := 140) rfl ?_ dX10_count_140
                  cases h
                  exact hq
                · replace h := fm_itn s6_7 h
                  by_cases s6_8 : a1 = 8
                  · replace h := fm_itp s6_8 h
                    refine fm_tswIn (pc := 6) 141 8 (135) (by rw [s6_8]; rfl) (by decide) (by decide) (by decide) (by decide) dX10_count_6 ?_
                    refine fl_aload0 (pc := 141) dX10_count_141 ?_
                    refine fm_iconstv (pc := 142) 0 (by decide) dX10_count_142 ?_
                    refine fm_iconstv (pc := 143) 1 (by decide) dX10_count_143 ?_
                    obtain ⟨v12, M13, ev12, h⟩ := fm_bdp h
                    refine fm_callV (pc := 144) mX10_manyOf [_, _] _ rfl cvX10_manyOf ml_10_423 sh_76 rfl rfl (Nat.le_of_ble_eq_true rfl) (Nat.le_of_ble_eq_true rfl) dX10_count_144 ?_
                    refine sp_X10_manyOf ev12 ?_
                    refine fm_ret1 ?_
                    refine fm_iret (pc := 147) rfl ?_ dX10_count_147
                    cases h
                    exact hq
                  · replace h := fm_itn s6_8 h
                    by_cases s6_9 : a1 = 9
                    · replace h := fm_itp s6_9 h
                      refine fm_tswIn (pc := 6) 148 9 (142) (by rw [s6_9]; rfl) (by decide) (by decide) (by decide) (by decide) dX10_count_6 ?_
                      refine fl_aload0 (pc := 148) dX10_count_148 ?_
                      refine fm_iconstv (pc := 149) 0 (by decide) dX10_count_149 ?_
                      refine fm_iconstv (pc := 150) 0 (by decide) dX10_count_150 ?_
                      obtain ⟨v14, M15, ev14, h⟩ := fm_bdp h
                      refine fm_callV (pc := 151) mX10_manyOf [_, _] _ rfl cvX10_manyOf ml_10_423 sh_76 rfl rfl (Nat.le_of_ble_eq_true rfl) (Nat.le_of_ble_eq_true rfl) dX10_count_151 ?_
                      refine sp_X10_manyOf ev14 ?_
                      refine fm_ret1 ?_
                      refine fm_iret (pc := 154) rfl ?_ dX10_count_154
                      cases h
                      exact hq
                    · replace h := fm_itn s6_9 h
                      by_cases s6_10 : a1 = 10
                      · replace h := fm_itp s6_10 h
                        refine fm_tswIn (pc := 6) 155 10 (149) (by rw [s6_10]; rfl) (by decide) (by decide) (by decide) (by decide) dX10_count_6 ?_
                        refine fl_aload0 (pc := 155) dX10_count_155 ?_
                        refine fm_iconstv (pc := 156) 0 (by decide) dX10_count_156 ?_
                        obtain ⟨v16, M17, ev16, h⟩ := fm_bdp h
                        refine fm_callV (pc := 157) mX10_heardAll [_] _ rfl cvX10_heardAll ml_10_426 sh_76 rfl rfl (Nat.le_of_ble_eq_true rfl) (Nat.le_of_ble_eq_true rfl) dX10_count_157 ?_
                        refine sp_X10_heardAll ev16 ?_
                        refine fm_ret1 ?_
                        refine fm_iret (pc := 160) rfl ?_ dX10_count_160
                        cases h
                        exact hq
                      · replace h := fm_itn s6_10 h
                        by_cases s6_11 : a1 = 11
                        · replace h := fm_itp s6_11 h
                          refine fm_tswIn (pc := 6) 161 11 (155) (by rw [s6_11]; rfl) (by decide) (by decide) (by decide) (by decide) dX10_count_6 ?_
                          refine fl_aload0 (pc := 161) dX10_count_161 ?_
                          refine fm_getr (pc := 162) lk_10_75 sh_76 rfl dX10_count_162 ?_
                          refine fm_iconstv (pc := 165) 0 (by decide) dX10_count_165 ?_
                          obtain ⟨g18, h⟩ := fm_gdp h
                          refine fm_iald (pc := 166) sh_97 (fm_inb_ok g18) dX10_count_166 ?_
                          obtain ⟨v19, M20, ev19, h⟩ := fm_bdp h
                          refine fm_callS (pc := 167) mX10_bitsOf [_] _ rfl csX10_bitsOf ml_10_438 rfl (Nat.le_of_ble_eq_true rfl) (Nat.le_of_ble_eq_true rfl) dX10_count_167 ?_
                          refine sp_X10_bitsOf ev19 ?_
                          refine fm_ret1 ?_
                          refine fm_iret (pc := 170) rfl ?_ dX10_count_170
                          cases h
                          exact hq
                        · replace h := fm_itn s6_11 h
                          by_cases s6_12 : a1 = 12
                          · replace h := fm_itp s6_12 h
                            refine fm_tswIn (pc := 6) 171 12 (165) (by rw [s6_12]; rfl) (by decide) (by decide) (by decide) (by decide) dX10_count_6 ?_
                            refine fl_aload0 (pc := 171) dX10_count_171 ?_
                            refine fm_geti (pc := 172) lk_10_283 sh_76 rfl dX10_count_172 ?_
                            refine fm_iret (pc := 175) rfl ?_ dX10_count_175
                            cases h
                            exact hq
                          · replace h := fm_itn s6_12 h
                            by_cases s6_13 : a1 = 13
                            · replace h := fm_itp s6_13 h
                              refine fm_tswIn (pc := 6) 176 13 (170) (by rw [s6_13]; rfl) (by decide) (by decide) (by decide) (by decide) dX10_count_6 ?_
                              refine fl_aload0 (pc := 176) dX10_count_176 ?_
                              obtain ⟨v21, M22, ev21, h⟩ := fm_bdp h
                              refine fm_callV (pc := 177) mX10_knownMany [] _ rfl cvX10_knownMany ml_10_475 sh_76 rfl rfl (Nat.le_of_ble_eq_true rfl) (Nat.le_of_ble_eq_true rfl) dX10_count_177 ?_
                              refine sp_X10_knownMany ev21 ?_
                              refine fm_ret1 ?_
                              refine fm_iret (pc := 180) rfl ?_ dX10_count_180
                              cases h
                              exact hq
                            · replace h := fm_itn s6_13 h
                              by_cases s6_14 : a1 = 14
                              · replace h := fm_itp s6_14 h
                                refine fm_tswIn (pc := 6) 181 14 (175) (by rw [s6_14]; rfl) (by decide) (by decide) (by decide) (by decide) dX10_count_6 ?_
                                refine fl_aload0 (pc := 181) dX10_count_181 ?_
                                refine fm_geti (pc := 182) lk_10_290 sh_76 rfl dX10_count_182 ?_
                                refine fm_iret (pc := 185) rfl ?_ dX10_count_185
                                cases h
                                exact hq
                              · replace h := fm_itn s6_14 h
                                have q0 : ¬ Int32.toInt a1 = 0 := fun q => s6_0 (Int32.toInt_inj.mp (by rw [q]; rfl))
                                have q1 : ¬ Int32.toInt a1 = 1 := fun q => s6_1 (Int32.toInt_inj.mp (by rw [q]; rfl))
                                have q2 : ¬ Int32.toInt a1 = 2 := fun q => s6_2 (Int32.toInt_inj.mp (by rw [q]; rfl))
                                have q3 : ¬ Int32.toInt a1 = 3 := fun q => s6_3 (Int32.toInt_inj.mp (by rw [q]; rfl))
                                have q4 : ¬ Int32.toInt a1 = 4 := fun q => s6_4 (Int32.toInt_inj.mp (by rw [q]; rfl))
                                have q5 : ¬ Int32.toInt a1 = 5 := fun q => s6_5 (Int32.toInt_inj.mp (by rw [q]; rfl))
                                have q6 : ¬ Int32.toInt a1 = 6 := fun q => s6_6 (Int32.toInt_inj.mp (by rw [q]; rfl))
                                have q7 : ¬ Int32.toInt a1 = 7 := fun q => s6_7 (Int32.toInt_inj.mp (by rw [q]; rfl))
                                have q8 : ¬ Int32.toInt a1 = 8 := fun q => s6_8 (Int32.toInt_inj.mp (by rw [q]; rfl))
                                have q9 : ¬ Int32.toInt a1 = 9 := fun q => s6_9 (Int32.toInt_inj.mp (by rw [q]; rfl))
                                have q10 : ¬ Int32.toInt a1 = 10 := fun q => s6_10 (Int32.toInt_inj.mp (by rw [q]; rfl))
                                have q11 : ¬ Int32.toInt a1 = 11 := fun q => s6_11 (Int32.toInt_inj.mp (by rw [q]; rfl))
                                have q12 : ¬ Int32.toInt a1 = 12 := fun q => s6_12 (Int32.toInt_inj.mp (by rw [q]; rfl))
                                have q13 : ¬ Int32.toInt a1 = 13 := fun q => s6_13 (Int32.toInt_inj.mp (by rw [q]; rfl))
                                have q14 : ¬ Int32.toInt a1 = 14 := fun q => s6_14 (Int32.toInt_inj.mp (by rw [q]; rfl))
                                refine fm_tswOut (pc := 6) 186 (by omega) (by decide) dX10_count_6 ?_
                                refine fm_iconstv (pc := 186) (-1) (by decide) dX10_count_186 ?_
                                refine fm_iret (pc := 187) rfl ?_ dX10_count_187
                                cases h
                                exact hq
