/-! X10_wet -/
def F_X10_wet (a1 : Int32) (M : fm_M) : Option (Int32 × fm_M) :=
    fm_lt (fm_up M 76 0 0) (fun M1 =>
    if a1 < 0 then (
      some ((-1), M1)
    ) else (
      if 9999 < a1 then (
        some ((-1), M1)
      ) else (
        fm_bd (F_X10_wetAt a1 M1) (fun v2 M3 =>
        some (v2, M3))
      )
    ))
theorem sp_X10_wet {d : Nat} {a1 : Int32} {M : fm_M} {x : Int32 × fm_M} {Q : Option Value → fm_M → Prop} (h : F_X10_wet a1 M = some x) (hq : Q (some (.int x.1)) x.2) : fm_ct (d + 1) mX10_wet [.ref 76, .int a1] M Q := by
  rw [F_X10_wet] at h
  show fm_mw (d + 1) mX10_wet Q 0 [some (.ref 76), some (.int a1)] [] M
  refine fl_aload0 (pc := 0) dX10_wet_0 ?_
  refine fm_iconstv (pc := 1) 0 (by decide) dX10_wet_1 ?_
  refine fm_puti (pc := 2) lp_10_130 sh_76 rfl dX10_wet_2 ?_
  obtain ⟨M1, eM1, h⟩ := fm_ltp h
  refine fm_cgm eM1 ?_
  refine fl_iload1 (pc := 5) dX10_wet_5 ?_
  refine fm_if_lt (pc := 6) 24 (by decide) dX10_wet_6 (fun c6 => ?_) (fun c6 => ?_)
  · replace h := fm_itp c6 h
    refine fm_iconstv (pc := 24) (-1) (by decide) dX10_wet_24 ?_
    refine fm_iret (pc := 25) rfl ?_ dX10_wet_25
    cases h
    exact hq
  · replace h := fm_itn c6 h
    refine fl_iload1 (pc := 9) dX10_wet_9 ?_
    refine fm_sipushv (pc := 10) 9999 (by decide) dX10_wet_10 ?_
    refine fm_icmp_gt (pc := 13) 24 (by decide) dX10_wet_13 (fun c13 => ?_) (fun c13 => ?_)
    · replace h := fm_itp c13 h
      refine fm_iconstv (pc := 24) (-1) (by decide) dX10_wet_24 ?_
      refine fm_iret (pc := 25) rfl ?_ dX10_wet_25
      cases h
      exact hq
    · replace h := fm_itn c13 h
      refine fl_aload0 (pc := 16) dX10_wet_16 ?_
      refine fl_iload1 (pc := 17) dX10_wet_17 ?_
      obtain ⟨v2, M3, ev2, h⟩ := fm_bdp h
      refine fm_callV (pc := 18) mX10_wetAt [_] _ rfl cvX10_wetAt ml_10_319 sh_76 rfl rfl (Nat.le_of_ble_eq_true rfl) (Nat.le_of_ble_eq_true rfl) dX10_wet_18 ?_
      refine sp_X10_wetAt ev2 ?_
      refine fm_ret1 ?_
      refine fm_goto (pc := 21) 25 (by decide) dX10_wet_21 ?_
      refine fm_iret (pc := 25) rfl ?_ dX10_wet_25
      cases h
      exact hq
/-! X10_beats -/
def F_X10_beats (a1 : Int32) (a2 : Int32) (M : fm_M) : Option (Int32 × fm_M) :=
    fm_lt (fm_up M 76 0 0) (fun M1 =>
    fm_bd (F_X10_isFork a1 M1) (fun v2 M3 =>
    if v2 = 0 then (
      some ((-1), M3)
    ) else (
      fm_bd (F_X10_isNote a2 M3) (fun v4 M5 =>
      if v4 = 0 then (
        some ((-1), M5)
      ) else (
        fm_gd (fm_inb a1 184) (
        fm_bd (F_X10_beatsOf 0 (M5.1 98 (Int32.toNatClampNeg a1)) a2 M5) (fun v7 M8 =>
        some (v7, M8)))
      ))
    )))
theorem sp_X10_beats {d : Nat} {a1 : Int32} {a2 : Int32} {M : fm_M} {x : Int32 × fm_M} {Q : Option Value → fm_M → Prop} (h : F_X10_beats a1 a2 M = some x) (hq : Q (some (.int x.1)) x.2) : fm_ct (d + 4) mX10_beats [.ref 76, .int a1, .int a2] M Q := by
  rw [F_X10_beats] at h
  show fm_mw (d + 4) mX10_beats Q 0 [some (.ref 76), some (.int a1), some (.int a2)] [] M
  refine fl_aload0 (pc := 0) dX10_beats_0 ?_
  refine fm_iconstv (pc := 1) 0 (by decide) dX10_beats_1 ?_
  refine fm_puti (pc := 2) lp_10_130 sh_76 rfl dX10_beats_2 ?_
  obtain ⟨M1, eM1, h⟩ := fm_ltp h
  refine fm_cgm eM1 ?_
  refine fl_aload0 (pc := 5) dX10_beats_5 ?_
  refine fl_iload1 (pc := 6) dX10_beats_6 ?_
  obtain ⟨v2, M3, ev2, h⟩ := fm_bdp h
  refine fm_callV (pc := 7) mX10_isFork [_] _ rfl cvX10_isFork ml_10_404 sh_76 rfl rfl (Nat.le_of_ble_eq_true rfl) (Nat.le_of_ble_eq_true rfl) dX10_beats_7 ?_
  refine sp_X10_isFork ev2 ?_
  refine fm_ret1 ?_
  refine fm_if_eq (pc := 10) 35 (by decide) dX10_beats_10 (fun c10 => ?_) (fun c10 => ?_)
  · replace h := fm_itp c10 h
    refine fm_iconstv (pc := 35) (-1) (by decide) dX10_beats_35 ?_
    refine fm_iret (pc := 36) rfl ?_ dX10_beats_36
    cases h
    exact hq
  · replace h := fm_itn c10 h
    refine fl_iload2 (pc := 13) dX10_beats_13 ?_
    obtain ⟨v4, M5, ev4, h⟩ := fm_bdp h
    refine fm_callS (pc := 14) mX10_isNote [_] _ rfl csX10_isNote ml_10_407 rfl (Nat.le_of_ble_eq_true rfl) (Nat.le_of_ble_eq_true rfl) dX10_beats_14 ?_
    refine sp_X10_isNote ev4 ?_
    refine fm_ret1 ?_
    refine fm_if_eq (pc := 17) 35 (by decide) dX10_beats_17 (fun c17 => ?_) (fun c17 => ?_)
    · replace h := fm_itp c17 h
      refine fm_iconstv (pc := 35) (-1) (by decide) dX10_beats_35 ?_
      refine fm_iret (pc := 36) rfl ?_ dX10_beats_36
      cases h
      exact hq
    · replace h := fm_itn c17 h
      refine fl_aload0 (pc := 20) dX10_beats_20 ?_
      refine fm_iconstv (pc := 21) 0 (by decide) dX10_beats_21 ?_
      refine fl_aload0 (pc := 22) dX10_beats_22 ?_
      refine fm_getr (pc := 23) lk_10_78 sh_76 rfl dX10_beats_23 ?_
      refine fl_iload1 (pc := 26) dX10_beats_26 ?_
      obtain ⟨g6, h⟩ := fm_gdp h
      refine fm_iald (pc := 27) sh_98 (fm_inb_ok g6) dX10_beats_27 ?_
      refine fl_iload2 (pc := 28) dX10_beats_28 ?_
      obtain ⟨v7, M8, ev7, h⟩ := fm_bdp h
      refine fm_callV (pc := 29) mX10_beatsOf [_, _, _] _ rfl cvX10_beatsOf ml_10_342 sh_76 rfl rfl (Nat.le_of_ble_eq_true rfl) (Nat.le_of_ble_eq_true rfl) dX10_beats_29 ?_
      refine sp_X10_beatsOf ev7 ?_
      refine fm_ret1 ?_
      refine fm_goto (pc := 32) 36 (by decide) dX10_beats_32 ?_
      refine fm_iret (pc := 36) rfl ?_ dX10_beats_36
      cases h
      exact hq
/-! X10_hums -/
def F_X10_hums (a1 : Int32) (a2 : Int32) (M : fm_M) : Option (Int32 × fm_M) :=
    fm_lt (fm_up M 76 0 0) (fun M1 =>
    fm_bd (F_X10_isFork a1 M1) (fun v2 M3 =>
    if v2 = 0 then (
      some ((-1), M3)
    ) else (
      fm_bd (F_X10_isNote a2 M3) (fun v4 M5 =>
      if v4 = 0 then (
        some ((-1), M5)
      ) else (
        fm_bd (F_X10_humOf 0 a1 a2 M5) (fun v6 M7 =>
        some (v6, M7))
      ))
    )))
theorem sp_X10_hums {d : Nat} {a1 : Int32} {a2 : Int32} {M : fm_M} {x : Int32 × fm_M} {Q : Option Value → fm_M → Prop} (h : F_X10_hums a1 a2 M = some x) (hq : Q (some (.int x.1)) x.2) : fm_ct (d + 7) mX10_hums [.ref 76, .int a1, .int a2] M Q := by
  rw [F_X10_hums] at h
  show fm_mw (d + 7) mX10_hums Q 0 [some (.ref 76), some (.int a1), some (.int a2)] [] M
  refine fl_aload0 (pc := 0) dX10_hums_0 ?_
  refine fm_iconstv (pc := 1) 0 (by decide) dX10_hums_1 ?_
  refine fm_puti (pc := 2) lp_10_130 sh_76 rfl dX10_hums_2 ?_
  obtain ⟨M1, eM1, h⟩ := fm_ltp h
  refine fm_cgm eM1 ?_
  refine fl_aload0 (pc := 5) dX10_hums_5 ?_
  refine fl_iload1 (pc := 6) dX10_hums_6 ?_
  obtain ⟨v2, M3, ev2, h⟩ := fm_bdp h
  refine fm_callV (pc := 7) mX10_isFork [_] _ rfl cvX10_isFork ml_10_404 sh_76 rfl rfl (Nat.le_of_ble_eq_true rfl) (Nat.le_of_ble_eq_true rfl) dX10_hums_7 ?_
  refine sp_X10_isFork ev2 ?_
  refine fm_ret1 ?_
  refine fm_if_eq (pc := 10) 30 (by decide) dX10_hums_10 (fun c10 => ?_) (fun c10 => ?_)
  · replace h := fm_itp c10 h
    refine fm_iconstv (pc := 30) (-1) (by decide) dX10_hums_30 ?_
    refine fm_iret (pc := 31) rfl ?_ dX10_hums_31
    cases h
    exact hq
  · replace h := fm_itn c10 h
    refine fl_iload2 (pc := 13) dX10_hums_13 ?_
    obtain ⟨v4, M5, ev4, h⟩ := fm_bdp h
    refine fm_callS (pc := 14) mX10_isNote [_] _ rfl csX10_isNote ml_10_407 rfl (Nat.le_of_ble_eq_true rfl) (Nat.le_of_ble_eq_true rfl) dX10_hums_14 ?_
    refine sp_X10_isNote ev4 ?_
    refine fm_ret1 ?_
    refine fm_if_eq (pc := 17) 30 (by decide) dX10_hums_17 (fun c17 => ?_) (fun c17 => ?_)
    · replace h := fm_itp c17 h
      refine fm_iconstv (pc := 30) (-1) (by decide) dX10_hums_30 ?_
      refine fm_iret (pc := 31) rfl ?_ dX10_hums_31
      cases h
      exact hq
    · replace h := fm_itn c17 h
      refine fl_aload0 (pc := 20) dX10_hums_20 ?_
      refine fm_iconstv (pc := 21) 0 (by decide) dX10_hums_21 ?_
      refine fl_iload1 (pc := 22) dX10_hums_22 ?_
      refine fl_iload2 (pc := 23) dX10_hums_23 ?_
      obtain ⟨v6, M7, ev6, h⟩ := fm_bdp h
      refine fm_callV (pc := 24) mX10_humOf [_, _, _] _ rfl cvX10_humOf ml_10_382 sh_76 rfl rfl (Nat.le_of_ble_eq_true rfl) (Nat.le_of_ble_eq_true rfl) dX10_hums_24 ?_
      refine sp_X10_humOf ev6 ?_
      refine fm_ret1 ?_
      refine fm_goto (pc := 27) 31 (by decide) dX10_hums_27 ?_
      refine fm_iret (pc := 31) rfl ?_ dX10_hums_31
      cases h
      exact hq
/-! X10_struck -/
def G_X10_struck_65 : Nat → Int32 → Int32 → Int32 → Int32 → fm_M → Option ((Int32 × Int32) × fm_M)
  | 0, _, _, _, _, _ => none
  | n + 1, l1, l2, l3, l4, M =>
    fm_gd (fm_inb 0 20) (
    if (M.1 78 (Int32.toNatClampNeg 0)) ≤ l4 then (
      some ((l3, l4), M)
    ) else (
      fm_bd (F_X10_humOf 0 l4 l1 M) (fun v5 M6 =>
      if v5 ≤ 0 then (
        fm_lt ((l3 + 0)) (fun x7 =>
        G_X10_struck_65 n l1 l2 x7 (l4 + 1) M6)
      ) else (
        fm_lt ((l3 + 1)) (fun x8 =>
        G_X10_struck_65 n l1 l2 x8 (l4 + 1) M6)
      ))
    ))
def F_X10_struck (a1 : Int32) (a2 : Int32) (M : fm_M) : Option (Int32 × fm_M) :=
    fm_lt (fm_up M 76 0 0) (fun M1 =>
    fm_bd (F_X10_isNote a1 M1) (fun v2 M3 =>
    if v2 = 0 then (
      some ((-1), M3)
    ) else (
      if a2 < 0 then (
        some ((-1), M3)
      ) else (
        if a2 ≤ 2 then (
          if a2 = 0 then (
            fm_bd (F_X10_humAll 0 a1 M3) (fun v15 M16 =>
            some (v15, M16))
          ) else (
            if a2 = 1 then (
              fm_bd (F_X10_humAll 0 a1 M3) (fun v11 M12 =>
              fm_bd (F_X10_passes 0 a1 v11 M12) (fun v13 M14 =>
              if v13 = 0 then (
                some (0, M14)
              ) else (
                some (1, M14)
              )))
            ) else (
              fm_bd (G_X10_struck_65 fm_fuel a1 a2 0 0 M3) (fun w9 M10 =>
                some (w9.1, M10))
            )
          )
        ) else (
          some ((-1), M3)
        )
      )
    )))
theorem lp_X10_struck_65 {d : Nat} {Q : Option Value → fm_M → Prop} {l1 : Int32} {l2 : Int32}   {x : (Int32 × Int32) × fm_M} (k1 : ∀ (v : Int32 × Int32) (M2 : fm_M), x = (v, M2) → fm_mw (d + 8) mX10_struck Q 101 [some (.ref 76), some (.int l1), some (.int l2), some (.int v.1), some (.int v.2)] [] M2) : ∀ (n : Nat) (l3 : Int32) (l4 : Int32) (M : fm_M), G_X10_struck_65 n l1 l2 l3 l4 M = some x → fm_mw (d + 8) mX10_struck Q 65 [some (.ref 76), some (.int l1), some (.int l2), some (.int l3), some (.int l4)] [] M := by
  intro n
  induction n with
  | zero => intro l3 l4 M h; simp [G_X10_struck_65] at h
  | succ n ih =>
    intro l3 l4 M h
    rw [G_X10_struck_65] at h
    refine fl_iload4 (pc := 65) dX10_struck_65 ?_
    refine fl_aload0 (pc := 67) dX10_struck_67 ?_
    refine fm_getr (pc := 68) lk_10_13 sh_76 rfl dX10_struck_68 ?_
    refine fm_iconstv (pc := 71) 0 (by decide) dX10_struck_71 ?_
    obtain ⟨g4, h⟩ := fm_gdp h
    refine fm_iald (pc := 72) sh_78 (fm_inb_ok g4) dX10_struck_72 ?_
    refine fm_icmp_ge (pc := 73) 101 (by decide) dX10_struck_73 (fun c73 => ?_) (fun c73 => ?_)
    · replace h := fm_itp c73 h
      refine fm_fgt [some (.ref 76), some (.int l1), some (.int l2), some (.int l3), some (.int l4)] (by simp [fm_sub]) ?_
      cases h
      exact k1 _ _ rfl
    · replace h := fm_itn c73 h
      refine fl_iload3 (pc := 76) dX10_struck_76 ?_
      refine fl_aload0 (pc := 77) dX10_struck_77 ?_
      refine fm_iconstv (pc := 78) 0 (by decide) dX10_struck_78 ?_
      refine fl_iload4 (pc := 79) dX10_struck_79 ?_
      refine fl_iload1 (pc := 81) dX10_struck_81 ?_
      obtain ⟨v5, M6, ev5, h⟩ := fm_bdp h
      refine fm_callV (pc := 82) mX10_humOf [_, _, _] _ rfl cvX10_humOf ml_10_382 sh_76 rfl rfl (Nat.le_of_ble_eq_true rfl) (Nat.le_of_ble_eq_true rfl) dX10_struck_82 ?_
      refine sp_X10_humOf ev5 ?_
      refine fm_ret1 ?_
      refine fm_if_le (pc := 85) 92 (by decide) dX10_struck_85 (fun c85 => ?_) (fun c85 => ?_)
      · replace h := fm_itp c85 h
        refine fm_iconstv (pc := 92) 0 (by decide) dX10_struck_92 ?_
        refine fm_iadd (pc := 93) dX10_struck_93 ?_
        obtain ⟨x7, ex7, h⟩ := fm_ltp h
        refine fm_cgi ex7 ?_
        refine fl_istore3 (pc := 94) rfl (by decide) dX10_struck_94 ?_
        refine fl_iinc4 (pc := 95) rfl 1 (by decide) (by decide) dX10_struck_95 ?_
        refine fm_goto (pc := 98) 65 (by decide) dX10_struck_98 ?_
        refine fm_fgt [some (.ref 76), some (.int l1), some (.int l2), some (.int x7), some (.int (l4 + 1))] (by simp [fm_sub]) ?_
        exact ih _ _ _ h
      · replace h := fm_itn c85 h
        refine fm_iconstv (pc := 88) 1 (by decide) dX10_struck_88 ?_
        refine fm_goto (pc := 89) 93 (by decide) dX10_struck_89 ?_
        refine fm_iadd (pc := 93) dX10_struck_93 ?_
        obtain ⟨x8, ex8, h⟩ := fm_ltp h
        refine fm_cgi ex8 ?_
        refine fl_istore3 (pc := 94) rfl (by decide) dX10_struck_94 ?_
        refine fl_iinc4 (pc := 95) rfl 1 (by decide) (by decide) dX10_struck_95 ?_
        refine fm_goto (pc := 98) 65 (by decide) dX10_struck_98 ?_
        refine fm_fgt [some (.ref 76), some (.int l1), some (.int l2), some (.int x8), some (.int (l4 + 1))] (by simp [fm_sub]) ?_
        exact ih _ _ _ h
theorem sp_X10_struck {d : Nat} {a1 : Int32} {a2 : Int32} {M : fm_M} {x : Int32 × fm_M} {Q : Option Value → fm_M → Prop} (h : F_X10_struck a1 a2 M = some x) (hq : Q (some (.int x.1)) x.2) : fm_ct (d + 8) mX10_struck [.ref 76, .int a1, .int a2] M Q := by
  rw [F_X10_struck] at h
  show fm_mw (d + 8) mX10_struck Q 0 [some (.ref 76), some (.int a1), some (.int a2), none, none] [] M
  refine fl_aload0 (pc := 0) dX10_struck_0 ?_
  refine fm_iconstv (pc := 1) 0 (by decide) dX10_struck_1 ?_
  refine fm_puti (pc := 2) lp_10_130 sh_76 rfl dX10_struck_2 ?_
  obtain ⟨M1, eM1, h⟩ := fm_ltp h
  refine fm_cgm eM1 ?_
  refine fl_iload1 (pc := 5) dX10_struck_5 ?_
  obtain ⟨v2, M3, ev2, h⟩ := fm_bdp h
  refine fm_callS (pc := 6) mX10_isNote [_] _ rfl csX10_isNote ml_10_407 rfl (Nat.le_of_ble_eq_true rfl) (Nat.le_of_ble_eq_true rfl) dX10_struck_6 ?_
  refine sp_X10_isNote ev2 ?_
  refine fm_ret1 ?_
  refine fm_if_eq (pc := 9) 21 (by decide) dX10_struck_9 (fun c9 => ?_) (fun c9 => ?_)
  · replace h := fm_itp c9 h
    refine fm_iconstv (pc := 21) (-1) (by decide) dX10_struck_21 ?_
    refine fm_iret (pc := 22) rfl ?_ dX10_struck_22
    cases h
    exact hq
  · replace h := fm_itn c9 h
    refine fl_iload2 (pc := 12) dX10_struck_12 ?_
    refine fm_if_lt (pc := 13) 21 (by decide) dX10_struck_13 (fun c13 => ?_) (fun c13 => ?_)
    · replace h := fm_itp c13 h
      refine fm_iconstv (pc := 21) (-1) (by decide) dX10_struck_21 ?_
      refine fm_iret (pc := 22) rfl ?_ dX10_struck_22
      cases h
      exact hq
    · replace h := fm_itn c13 h
      refine fl_iload2 (pc := 16) dX10_struck_16 ?_
      refine fm_iconstv (pc := 17) 2 (by decide) dX10_struck_17 ?_
      refine fm_icmp_le (pc := 18) 23 (by decide) dX10_struck_18 (fun c18 => ?_) (fun c18 => ?_)
      · replace h := fm_itp c18 h
        refine fl_iload2 (pc := 23) dX10_struck_23 ?_
        refine fm_if_ne (pc := 24) 34 (by decide) dX10_struck_24 (fun c24 => ?_) (fun c24 => ?_)
        · replace h := fm_itn c24 h
          refine fl_iload2 (pc := 34) dX10_struck_34 ?_
          refine fm_iconstv (pc := 35) 1 (by decide) dX10_struck_35 ?_
          refine fm_icmp_ne (pc := 36) 60 (by decide) dX10_struck_36 (fun c36 => ?_) (fun c36 => ?_)
          · replace h := fm_itn c36 h
            refine fm_iconstv (pc := 60) 0 (by decide) dX10_struck_60 ?_
            refine fl_istore3 (pc := 61) rfl (by decide) dX10_struck_61 ?_
            refine fm_iconstv (pc := 62) 0 (by decide) dX10_struck_62 ?_
            refine fl_istore4 (pc := 63) rfl (by decide) dX10_struck_63 ?_
            obtain ⟨w9, M10, ew9, h⟩ := fm_bdp h
            refine lp_X10_struck_65  ?_ _ _ _ _ ew9
            intro w99 M109 q9
            cases q9
            refine fl_iload3 (pc := 101) dX10_struck_101 ?_
            refine fm_iret (pc := 102) rfl ?_ dX10_struck_102
            cases h
            exact hq
          · replace h := fm_itp c36 h
            refine fl_aload0 (pc := 39) dX10_struck_39 ?_
            refine fm_iconstv (pc := 40) 0 (by decide) dX10_struck_40 ?_
            refine fl_iload1 (pc := 41) dX10_struck_41 ?_
            refine fl_aload0 (pc := 42) dX10_struck_42 ?_
            refine fm_iconstv (pc := 43) 0 (by decide) dX10_struck_43 ?_
            refine fl_iload1 (pc := 44) dX10_struck_44 ?_
            obtain ⟨v11, M12, ev11, h⟩ := fm_bdp h
            refine fm_callV (pc := 45) mX10_humAll [_, _] _ rfl cvX10_humAll ml_10_385 sh_76 rfl rfl (Nat.le_of_ble_eq_true rfl) (Nat.le_of_ble_eq_true rfl) dX10_struck_45 ?_
            refine sp_X10_humAll ev11 ?_
            refine fm_ret1 ?_
            obtain ⟨v13, M14, ev13, h⟩ := fm_bdp h
            refine fm_callV (pc := 48) mX10_passes [_, _, _] _ rfl cvX10_passes ml_10_388 sh_76 rfl rfl (Nat.le_of_ble_eq_true rfl) (Nat.le_of_ble_eq_true rfl) dX10_struck_48 ?_
            refine sp_X10_passes ev13 ?_
            refine fm_ret1 ?_
            refine fm_if_eq (pc := 51) 58 (by decide) dX10_struck_51 (fun c51 => ?_) (fun c51 => ?_)
            · replace h := fm_itp c51 h
              refine fm_iconstv (pc := 58) 0 (by decide) dX10_struck_58 ?_
              refine fm_iret (pc := 59) rfl ?_ dX10_struck_59
              cases h
              exact hq
            · replace h := fm_itn c51 h
              refine fm_iconstv (pc := 54) 1 (by decide) dX10_struck_54 ?_
              refine fm_goto (pc := 55) 59 (by decide) dX10_struck_55 ?_
              refine fm_iret (pc := 59) rfl ?_ dX10_struck_59
              cases h
              exact hq
        · replace h := fm_itp c24 h
          refine fl_aload0 (pc := 27) dX10_struck_27 ?_
          refine fm_iconstv (pc := 28) 0 (by decide) dX10_struck_28 ?_
          refine fl_iload1 (pc := 29) dX10_struck_29 ?_
          obtain ⟨v15, M16, ev15, h⟩ := fm_bdp h
          refine fm_callV (pc := 30) mX10_humAll [_, _] _ rfl cvX10_humAll ml_10_385 sh_76 rfl rfl (Nat.le_of_ble_eq_true rfl) (Nat.le_of_ble_eq_true rfl) dX10_struck_30 ?_
          refine sp_X10_humAll ev15 ?_
          refine fm_ret1 ?_
          refine fm_iret (pc := 33) rfl ?_ dX10_struck_33
          cases h
          exact hq
      · replace h := fm_itn c18 h
        refine fm_iconstv (pc := 21) (-1) (by decide) dX10_struck_21 ?_
        refine fm_iret (pc := 22) rfl ?_ dX10_struck_22
        cases h
        exact hq
/-! X10_law -/
def J_X10_law_104 (l1 : Int32) (l2 : Int32) (l3 : Int32) (l4 : Int32) (M : fm_M) : Option (Int64 × fm_M) :=
    fm_bd (F_X10_goes l1 M) (fun v8 M9 =>
    if v8 = 0 then (
      some ((-9223372036854775808), M9)
    ) else (
      fm_gd (fm_inb 0 64) (
      some ((M9.2 93 (Int32.toNatClampNeg 0)), M9))
    ))
def J_X10_law_104_1 (l1 : Int32) (l2 : Int32) (l3 : Int32) (M : fm_M) : Option (Int64 × fm_M) :=
    fm_bd (F_X10_goes l1 M) (fun v13 M14 =>
    if v13 = 0 then (
      some ((-9223372036854775808), M14)
    ) else (
      fm_gd (fm_inb 0 64) (
      some ((M14.2 93 (Int32.toNatClampNeg 0)), M14))
    ))
def J_X10_law_51 (l1 : Int32) (l2 : Int32) (l3 : Int32) (M : fm_M) : Option (Int64 × fm_M) :=
    if l1 = 0 then (
      fm_gd (fm_inb l2 184) (
      fm_bd (F_X10_callsHum 0 l2 (M.1 98 (Int32.toNatClampNeg l2)) l3 M) (fun v17 M18 =>
      J_X10_law_104_1 l1 l2 l3 M18))
    ) else (
      if l1 = 1 then (
        fm_bd (F_X10_callsRust 0 l2 M) (fun v11 M12 =>
        J_X10_law_104_1 l1 l2 l3 M12)
      ) else (
        fm_bd (F_X10_humAll 0 l3 M) (fun v4 M5 =>
        fm_bd (F_X10_calls 0 0 l3 0 v4 0 M5) (fun v6 M7 =>
        J_X10_law_104 l1 l2 l3 v4 M7))
      )
    )
def J_X10_law_35 (l1 : Int32) (l2 : Int32) (l3 : Int32) (M : fm_M) : Option (Int64 × fm_M) :=
    if l1 = 1 then (
      J_X10_law_51 l1 l2 l3 M
    ) else (
      fm_bd (F_X10_isNote l3 M) (fun v19 M20 =>
      if v19 = 0 then (
        some ((-9223372036854775808), M20)
      ) else (
        J_X10_law_51 l1 l2 l3 M20
      ))
    )
def F_X10_law (a1 : Int32) (a2 : Int32) (a3 : Int32) (M : fm_M) : Option (Int64 × fm_M) :=
    fm_lt (fm_up M 76 0 0) (fun M1 =>
    if a1 < 0 then (
      some ((-9223372036854775808), M1)
    ) else (
      if 2 < a1 then (
        some ((-9223372036854775808), M1)
      ) else (
        fm_bd (F_X10_hasLaw a1 M1) (fun v2 M3 =>
        if v2 = 0 then (
          some ((-9223372036854775808), M3)
        ) else (
          if a1 = 2 then (
            J_X10_law_35 a1 a2 a3 M3
          ) else (
            fm_bd (F_X10_isFork a2 M3) (fun v21 M22 =>
            if v21 = 0 then (
              some ((-9223372036854775808), M22)
            ) else (
              J_X10_law_35 a1 a2 a3 M22
            ))
          )
        ))
      )
    ))
theorem jn_X10_law_104 {d : Nat} {Q : Option Value → fm_M → Prop}  (l1 : Int32) (l2 : Int32) (l3 : Int32) (l4 : Int32) {x : Int64 × fm_M}  (hq : Q (some (.long x.1)) x.2) (M : fm_M) (h : J_X10_law_104 l1 l2 l3 l4 M = some x) : fm_mw (d + 8) mX10_law Q 104 [some (.ref 76), some (.int l1), some (.int l2), some (.int l3), some (.int l4)] [] M := by
  rw [J_X10_law_104] at h
  refine fl_aload0 (pc := 104) dX10_law_104 ?_
  refine fl_iload1 (pc := 105) dX10_law_105 ?_
  obtain ⟨v8, M9, ev8, h⟩ := fm_bdp h
  refine fm_callV (pc := 106) mX10_goes [_] _ rfl cvX10_goes ml_10_353 sh_76 rfl rfl (Nat.le_of_ble_eq_true rfl) (Nat.le_of_ble_eq_true rfl) dX10_law_106 ?_
  refine sp_X10_goes ev8 ?_
  refine fm_ret1 ?_
  refine fm_if_eq (pc := 109) 121 (by decide) dX10_law_109 (fun c109 => ?_) (fun c109 => ?_)
  · replace h := fm_itp c109 h
    refine fm_ldc2 (pc := 121) kc_10_412 dX10_law_121 ?_
    refine fm_lret (pc := 124) rfl ?_ dX10_law_124
    cases h
    exact hq
  · replace h := fm_itn c109 h
    refine fl_aload0 (pc := 112) dX10_law_112 ?_
    refine fm_getr (pc := 113) lk_10_63 sh_76 rfl dX10_law_113 ?_
    refine fm_iconstv (pc := 116) 0 (by decide) dX10_law_116 ?_
    obtain ⟨g10, h⟩ := fm_gdp h
    refine fm_lald (pc := 117) sh_93 (fm_inb_ok g10) dX10_law_117 ?_
    refine fm_goto (pc := 118) 124 (by decide) dX10_law_118 ?_
    refine fm_lret (pc := 124) rfl ?_ dX10_law_124
    cases h
    exact hq
theorem jn_X10_law_104_1 {d : Nat} {Q : Option Value → fm_M → Prop}  (l1 : Int32) (l2 : Int32) (l3 : Int32) {x : Int64 × fm_M}  (hq : Q (some (.long x.1)) x.2) (M : fm_M) (h : J_X10_law_104_1 l1 l2 l3 M = some x) : fm_mw (d + 8) mX10_law Q 104 [some (.ref 76), some (.int l1), some (.int l2), some (.int l3), none] [] M := by
  rw [J_X10_law_104_1] at h
  refine fl_aload0 (pc := 104) dX10_law_104 ?_
  refine fl_iload1 (pc := 105) dX10_law_105 ?_
  obtain ⟨v13, M14, ev13, h⟩ := fm_bdp h
  refine fm_callV (pc := 106) mX10_goes [_] _ rfl cvX10_goes ml_10_353 sh_76 rfl rfl (Nat.le_of_ble_eq_true rfl) (Nat.le_of_ble_eq_true rfl) dX10_law_106 ?_
  refine sp_X10_goes ev13 ?_
  refine fm_ret1 ?_
  refine fm_if_eq (pc := 109) 121 (by decide) dX10_law_109 (fun c109 => ?_) (fun c109 => ?_)
  · replace h := fm_itp c109 h
    refine fm_ldc2 (pc := 121) kc_10_412 dX10_law_121 ?_
    refine fm_lret (pc := 124) rfl ?_ dX10_law_124
    cases h
    exact hq
  · replace h := fm_itn c109 h
    refine fl_aload0 (pc := 112) dX10_law_112 ?_
    refine fm_getr (pc := 113) lk_10_63 sh_76 rfl dX10_law_113 ?_
    refine fm_iconstv (pc := 116) 0 (by decide) dX10_law_116 ?_
    obtain ⟨g15, h⟩ := fm_gdp h
    refine fm_lald (pc := 117) sh_93 (fm_inb_ok g15) dX10_law_117 ?_
    refine fm_goto (pc := 118) 124 (by decide) dX10_law_118 ?_
    refine fm_lret (pc := 124) rfl ?_ dX10_law_124
    cases h
    exact hq
theorem jn_X10_law_51 {d : Nat} {Q : Option Value → fm_M → Prop}  (l1 : Int32) (l2 : Int32) (l3 : Int32) {x : Int64 × fm_M}  (hq : Q (some (.long x.1)) x.2) (M : fm_M) (h : J_X10_law_51 l1 l2 l3 M = some x) : fm_mw (d + 8) mX10_law Q 51 [some (.ref 76), some (.int l1), some (.int l2), some (.int l3), none] [] M := by
  rw [J_X10_law_51] at h
  refine fl_iload1 (pc := 51) dX10_law_51 ?_
  refine fm_if_ne (pc := 52) 71 (by decide) dX10_law_52 (fun c52 => ?_) (fun c52 => ?_)
  · replace h := fm_itn c52 h
    refine fl_iload1 (pc := 71) dX10_law_71 ?_
    refine fm_iconstv (pc := 72) 1 (by decide) dX10_law_72 ?_
    refine fm_icmp_ne (pc := 73) 85 (by decide) dX10_law_73 (fun c73 => ?_) (fun c73 => ?_)
    · replace h := fm_itn c73 h
      refine fl_aload0 (pc := 85) dX10_law_85 ?_
      refine fm_iconstv (pc := 86) 0 (by decide) dX10_law_86 ?_
      refine fl_iload3 (pc := 87) dX10_law_87 ?_
      obtain ⟨v4, M5, ev4, h⟩ := fm_bdp h
      refine fm_callV (pc := 88) mX10_humAll [_, _] _ rfl cvX10_humAll ml_10_385 sh_76 rfl rfl (Nat.le_of_ble_eq_true rfl) (Nat.le_of_ble_eq_true rfl) dX10_law_88 ?_
      refine sp_X10_humAll ev4 ?_
      refine fm_ret1 ?_
      refine fl_istore4 (pc := 91) rfl (by decide) dX10_law_91 ?_
      refine fl_aload0 (pc := 93) dX10_law_93 ?_
      refine fm_iconstv (pc := 94) 0 (by decide) dX10_law_94 ?_
      refine fm_iconstv (pc := 95) 0 (by decide) dX10_law_95 ?_
      refine fl_iload3 (pc := 96) dX10_law_96 ?_
      refine fm_iconstv (pc := 97) 0 (by decide) dX10_law_97 ?_
      refine fl_iload4 (pc := 98) dX10_law_98 ?_
      refine fm_iconstv (pc := 100) 0 (by decide) dX10_law_100 ?_
      obtain ⟨v6, M7, ev6, h⟩ := fm_bdp h
      refine fm_callV (pc := 101) mX10_calls [_, _, _, _, _, _] _ rfl cvX10_calls ml_10_346 sh_76 rfl rfl (Nat.le_of_ble_eq_true rfl) (Nat.le_of_ble_eq_true rfl) dX10_law_101 ?_
      refine sp_X10_calls ev6 ?_
      refine fm_ret0 ?_
      exact jn_X10_law_104 _ _ _ _  hq _ h
    · replace h := fm_itp c73 h
      refine fl_aload0 (pc := 76) dX10_law_76 ?_
      refine fm_iconstv (pc := 77) 0 (by decide) dX10_law_77 ?_
      refine fl_iload2 (pc := 78) dX10_law_78 ?_
      obtain ⟨v11, M12, ev11, h⟩ := fm_bdp h
      refine fm_callV (pc := 79) mX10_callsRust [_, _] _ rfl cvX10_callsRust ml_10_395 sh_76 rfl rfl (Nat.le_of_ble_eq_true rfl) (Nat.le_of_ble_eq_true rfl) dX10_law_79 ?_
      refine sp_X10_callsRust ev11 ?_
      refine fm_ret0 ?_
      refine fm_goto (pc := 82) 104 (by decide) dX10_law_82 ?_
      exact jn_X10_law_104_1 _ _ _  hq _ h
  · replace h := fm_itp c52 h
    refine fl_aload0 (pc := 55) dX10_law_55 ?_
    refine fm_iconstv (pc := 56) 0 (by decide) dX10_law_56 ?_
    refine fl_iload2 (pc := 57) dX10_law_57 ?_
    refine fl_aload0 (pc := 58) dX10_law_58 ?_
    refine fm_getr (pc := 59) lk_10_78 sh_76 rfl dX10_law_59 ?_
    refine fl_iload2 (pc := 62) dX10_law_62 ?_
    obtain ⟨g16, h⟩ := fm_gdp h
    refine fm_iald (pc := 63) sh_98 (fm_inb_ok g16) dX10_law_63 ?_
    refine fl_iload3 (pc := 64) dX10_law_64 ?_
    obtain ⟨v17, M18, ev17, h⟩ := fm_bdp h
    refine fm_callV (pc := 65) mX10_callsHum [_, _, _, _] _ rfl cvX10_callsHum ml_10_361 sh_76 rfl rfl (Nat.le_of_ble_eq_true rfl) (Nat.le_of_ble_eq_true rfl) dX10_law_65 ?_
    refine sp_X10_callsHum ev17 ?_
    refine fm_ret0 ?_
    refine fm_goto (pc := 68) 104 (by decide) dX10_law_68 ?_
    exact jn_X10_law_104_1 _ _ _  hq _ h
theorem jn_X10_law_35 {d : Nat} {Q : Option Value → fm_M → Prop}  (l1 : Int32) (l2 : Int32) (l3 : Int32) {x : Int64 × fm_M}  (hq : Q (some (.long x.1)) x.2) (M : fm_M) (h : J_X10_law_35 l1 l2 l3 M = some x) : fm_mw (d + 8) mX10_law Q 35 [some (.ref 76), some (.int l1), some (.int l2), some (.int l3), none] [] M := by
  rw [J_X10_law_35] at h
  refine fl_iload1 (pc := 35) dX10_law_35 ?_
  refine fm_iconstv (pc := 36) 1 (by decide) dX10_law_36 ?_
  refine fm_icmp_eq (pc := 37) 51 (by decide) dX10_law_37 (fun c37 => ?_) (fun c37 => ?_)
  · replace h := fm_itp c37 h
    exact jn_X10_law_51 _ _ _  hq _ h
  · replace h := fm_itn c37 h
    refine fl_iload3 (pc := 40) dX10_law_40 ?_
    obtain ⟨v19, M20, ev19, h⟩ := fm_bdp h
    refine fm_callS (pc := 41) mX10_isNote [_] _ rfl csX10_isNote ml_10_407 rfl (Nat.le_of_ble_eq_true rfl) (Nat.le_of_ble_eq_true rfl) dX10_law_41 ?_
    refine sp_X10_isNote ev19 ?_
    refine fm_ret1 ?_
    refine fm_if_ne (pc := 44) 51 (by decide) dX10_law_44 (fun c44 => ?_) (fun c44 => ?_)
    · replace h := fm_itn c44 h
      exact jn_X10_law_51 _ _ _  hq _ h
    · replace h := fm_itp c44 h
      refine fm_ldc2 (pc := 47) kc_10_412 dX10_law_47 ?_
      refine fm_lret (pc := 50) rfl ?_ dX10_law_50
      cases h
      exact hq
theorem sp_X10_law {d : Nat} {a1 : Int32} {a2 : Int32} {a3 : Int32} {M : fm_M} {x : Int64 × fm_M} {Q : Option Value → fm_M → Prop} (h : F_X10_law a1 a2 a3 M = some x) (hq : Q (some (.long x.1)) x.2) : fm_ct (d + 8) mX10_law [.ref 76, .int a1, .int a2, .int a3] M Q := by
  rw [F_X10_law] at h
  show fm_mw (d + 8) mX10_law Q 0 [some (.ref 76), some (.int a1), some (.int a2), some (.int a3), none] [] M
  refine fl_aload0 (pc := 0) dX10_law_0 ?_
  refine fm_iconstv (pc := 1) 0 (by decide) dX10_law_1 ?_
  refine fm_puti (pc := 2) lp_10_130 sh_76 rfl dX10_law_2 ?_
  obtain ⟨M1, eM1, h⟩ := fm_ltp h
  refine fm_cgm eM1 ?_
  refine fl_iload1 (pc := 5) dX10_law_5 ?_
  refine fm_if_lt (pc := 6) 47 (by decide) dX10_law_6 (fun c6 => ?_) (fun c6 => ?_)
  · replace h := fm_itp c6 h
    refine fm_ldc2 (pc := 47) kc_10_412 dX10_law_47 ?_
    refine fm_lret (pc := 50) rfl ?_ dX10_law_50
    cases h
    exact hq
  · replace h := fm_itn c6 h
    refine fl_iload1 (pc := 9) dX10_law_9 ?_
    refine fm_iconstv (pc := 10) 2 (by decide) dX10_law_10 ?_
    refine fm_icmp_gt (pc := 11) 47 (by decide) dX10_law_11 (fun c11 => ?_) (fun c11 => ?_)
    · replace h := fm_itp c11 h
      refine fm_ldc2 (pc := 47) kc_10_412 dX10_law_47 ?_
      refine fm_lret (pc := 50) rfl ?_ dX10_law_50
      cases h
      exact hq
    · replace h := fm_itn c11 h
      refine fl_aload0 (pc := 14) dX10_law_14 ?_
      refine fl_iload1 (pc := 15) dX10_law_15 ?_
      obtain ⟨v2, M3, ev2, h⟩ := fm_bdp h
      refine fm_callV (pc := 16) mX10_hasLaw [_] _ rfl cvX10_hasLaw ml_10_350 sh_76 rfl rfl (Nat.le_of_ble_eq_true rfl) (Nat.le_of_ble_eq_true rfl) dX10_law_16 ?_
      refine sp_X10_hasLaw ev2 ?_
      refine fm_ret1 ?_
      refine fm_if_eq (pc := 19) 47 (by decide) dX10_law_19 (fun c19 => ?_) (fun c19 => ?_)
      · replace h := fm_itp c19 h
        refine fm_ldc2 (pc := 47) kc_10_412 dX10_law_47 ?_
        refine fm_lret (pc := 50) rfl ?_ dX10_law_50
        cases h
        exact hq
      · replace h := fm_itn c19 h
        refine fl_iload1 (pc := 22) dX10_law_22 ?_
        refine fm_iconstv (pc := 23) 2 (by decide) dX10_law_23 ?_
        refine fm_icmp_eq (pc := 24) 35 (by decide) dX10_law_24 (fun c24 => ?_) (fun c24 => ?_)
        · replace h := fm_itp c24 h
          exact jn_X10_law_35 _ _ _  hq _ h
        · replace h := fm_itn c24 h
          refine fl_aload0 (pc := 27) dX10_law_27 ?_
          refine fl_iload2 (pc := 28) dX10_law_28 ?_
          obtain ⟨v21, M22, ev21, h⟩ := fm_bdp h
          refine fm_callV (pc := 29) mX10_isFork [_] _ rfl cvX10_isFork ml_10_404 sh_76 rfl rfl (Nat.le_of_ble_eq_true rfl) (Nat.le_of_ble_eq_true rfl) dX10_law_29 ?_
          refine sp_X10_isFork ev21 ?_
          refine fm_ret1 ?_
          refine fm_if_eq (pc := 32) 47 (by decide) dX10_law_32 (fun c32 => ?_) (fun c32 => ?_)
          · replace h := fm_itp c32 h
            refine fm_ldc2 (pc := 47) kc_10_412 dX10_law_47 ?_
            refine fm_lret (pc := 50) rfl ?_ dX10_law_50
            cases h
            exact hq
          · replace h := fm_itn c32 h
            exact jn_X10_law_35 _ _ _  hq _ h
/-! X10_keepNow -/
def J_X10_keepNow_45  (M : fm_M) : Option (Unit × fm_M) :=
    fm_bd (F_X10_copies (3 + (M.1 76 42)) 0 M) (fun v1 M2 =>
    fm_lt (fm_up M2 76 42 ((M2.1 76 42) + 1)) (fun M3 =>
    some ((), M3)))
def G_X10_keepNow_11 : Nat → Int32 → fm_M → Option ((Int32) × fm_M)
  | 0, _, _ => none
  | n + 1, l1, M =>
    if 20 ≤ l1 then (
      some (l1, M)
    ) else (
      fm_bd (F_X10_copies ((3 + l1) - 1) (3 + l1) M) (fun v4 M5 =>
      G_X10_keepNow_11 n (l1 + 1) M5)
    )
def J_X10_keepNow_45_1 (l1 : Int32) (M : fm_M) : Option (Unit × fm_M) :=
    fm_bd (F_X10_copies (3 + (M.1 76 42)) 0 M) (fun v9 M10 =>
    fm_lt (fm_up M10 76 42 ((M10.1 76 42) + 1)) (fun M11 =>
    some ((), M11)))
def F_X10_keepNow  (M : fm_M) : Option (Unit × fm_M) :=
    if (M.1 76 42) = 20 then (
      fm_bd (G_X10_keepNow_11 fm_fuel 1 M) (fun w6 M7 =>
        fm_lt (fm_up M7 76 42 ((M7.1 76 42) - 1)) (fun M8 =>
        J_X10_keepNow_45_1 w6 M8))
    ) else (
      J_X10_keepNow_45 M
    )
theorem jn_X10_keepNow_45 {d : Nat} {Q : Option Value → fm_M → Prop}   {x : Unit × fm_M}  (hq : Q none x.2) (M : fm_M) (h : J_X10_keepNow_45 M = some x) : fm_mw (d + 1) mX10_keepNow Q 45 [some (.ref 76), none] [] M := by
  rw [J_X10_keepNow_45] at h
  refine fl_aload0 (pc := 45) dX10_keepNow_45 ?_
  refine fm_iconstv (pc := 46) 3 (by decide) dX10_keepNow_46 ?_
  refine fl_aload0 (pc := 47) dX10_keepNow_47 ?_
  refine fm_geti (pc := 48) lk_10_290 sh_76 rfl dX10_keepNow_48 ?_
  refine fm_iadd (pc := 51) dX10_keepNow_51 ?_
  refine fm_iconstv (pc := 52) 0 (by decide) dX10_keepNow_52 ?_
  obtain ⟨v1, M2, ev1, h⟩ := fm_bdp h
  refine fm_callV (pc := 53) mX10_copies [_, _] _ rfl cvX10_copies ml_10_414 sh_76 rfl rfl (Nat.le_of_ble_eq_true rfl) (Nat.le_of_ble_eq_true rfl) dX10_keepNow_53 ?_
  refine sp_X10_copies ev1 ?_
  refine fm_ret0 ?_
  refine fl_aload0 (pc := 56) dX10_keepNow_56 ?_
  refine fm_dup (pc := 57) rfl dX10_keepNow_57 ?_
  refine fm_geti (pc := 58) lk_10_290 sh_76 rfl dX10_keepNow_58 ?_
  refine fm_iconstv (pc := 61) 1 (by decide) dX10_keepNow_61 ?_
  refine fm_iadd (pc := 62) dX10_keepNow_62 ?_
  refine fm_puti (pc := 63) lp_10_290 sh_76 rfl dX10_keepNow_63 ?_
  obtain ⟨M3, eM3, h⟩ := fm_ltp h
  refine fm_cgm eM3 ?_
  refine fm_vret (pc := 66) rfl ?_ dX10_keepNow_66
  cases h
  exact hq
theorem lp_X10_keepNow_11 {d : Nat} {Q : Option Value → fm_M → Prop}    {x : (Int32) × fm_M} (k1 : ∀ (v : Int32) (M2 : fm_M), x = (v, M2) → fm_mw (d + 1) mX10_keepNow Q 35 [some (.ref 76), some (.int v)] [] M2) : ∀ (n : Nat) (l1 : Int32) (M : fm_M), G_X10_keepNow_11 n l1 M = some x → fm_mw (d + 1) mX10_keepNow Q 11 [some (.ref 76), some (.int l1)] [] M := by
  intro n
  induction n with
  | zero => intro l1 M h; simp [G_X10_keepNow_11] at h
  | succ n ih =>
    intro l1 M h
    rw [G_X10_keepNow_11] at h
    refine fl_iload1 (pc := 11) dX10_keepNow_11 ?_
    refine fm_bipushv (pc := 12) 20 (by decide) dX10_keepNow_12 ?_
    refine fm_icmp_ge (pc := 14) 35 (by decide) dX10_keepNow_14 (fun c14 => ?_) (fun c14 => ?_)
    · replace h := fm_itp c14 h
      refine fm_fgt [some (.ref 76), some (.int l1)] (by simp [fm_sub]) ?_
      cases h
      exact k1 _ _ rfl
    · replace h := fm_itn c14 h
      refine fl_aload0 (pc := 17) dX10_keepNow_17 ?_
      refine fm_iconstv (pc := 18) 3 (by decide) dX10_keepNow_18 ?_
      refine fl_iload1 (pc := 19) dX10_keepNow_19 ?_
      refine fm_iadd (pc := 20) dX10_keepNow_20 ?_
      refine fm_iconstv (pc := 21) 1 (by decide) dX10_keepNow_21 ?_
      refine fm_isub (pc := 22) dX10_keepNow_22 ?_
      refine fm_iconstv (pc := 23) 3 (by decide) dX10_keepNow_23 ?_
      refine fl_iload1 (pc := 24) dX10_keepNow_24 ?_
      refine fm_iadd (pc := 25) dX10_keepNow_25 ?_
      obtain ⟨v4, M5, ev4, h⟩ := fm_bdp h
      refine fm_callV (pc := 26) mX10_copies [_, _] _ rfl cvX10_copies ml_10_414 sh_76 rfl rfl (Nat.le_of_ble_eq_true rfl) (Nat.le_of_ble_eq_true rfl) dX10_keepNow_26 ?_
      refine sp_X10_copies ev4 ?_
      refine fm_ret0 ?_
      refine fl_iinc1 (pc := 29) rfl 1 (by decide) (by decide) dX10_keepNow_29 ?_
      refine fm_goto (pc := 32) 11 (by decide) dX10_keepNow_32 ?_
      refine fm_fgt [some (.ref 76), some (.int (l1 + 1))] (by simp [fm_sub]) ?_
      exact ih _ _ h
theorem jn_X10_keepNow_45_1 {d : Nat} {Q : Option Value → fm_M → Prop}  (l1 : Int32) {x : Unit × fm_M}  (hq : Q none x.2) (M : fm_M) (h : J_X10_keepNow_45_1 l1 M = some x) : fm_mw (d + 1) mX10_keepNow Q 45 [some (.ref 76), some (.int l1)] [] M := by
  rw [J_X10_keepNow_45_1] at h
  refine fl_aload0 (pc := 45) dX10_keepNow_45 ?_
  refine fm_iconstv (pc := 46) 3 (by decide) dX10_keepNow_46 ?_
  refine fl_aload0 (pc := 47) dX10_keepNow_47 ?_
  refine fm_geti (pc := 48) lk_10_290 sh_76 rfl dX10_keepNow_48 ?_
  refine fm_iadd (pc := 51) dX10_keepNow_51 ?_
  refine fm_iconstv (pc := 52) 0 (by decide) dX10_keepNow_52 ?_
  obtain ⟨v9, M10, ev9, h⟩ := fm_bdp h
  refine fm_callV (pc := 53) mX10_copies [_, _] _ rfl cvX10_copies ml_10_414 sh_76 rfl rfl (Nat.le_of_ble_eq_true rfl) (Nat.le_of_ble_eq_true rfl) dX10_keepNow_53 ?_
  refine sp_X10_copies ev9 ?_
  refine fm_ret0 ?_
  refine fl_aload0 (pc := 56) dX10_keepNow_56 ?_
  refine fm_dup (pc := 57) rfl dX10_keepNow_57 ?_
  refine fm_geti (pc := 58) lk_10_290 sh_76 rfl dX10_keepNow_58 ?_
  refine fm_iconstv (pc := 61) 1 (by decide) dX10_keepNow_61 ?_
  refine fm_iadd (pc := 62) dX10_keepNow_62 ?_
  refine fm_puti (pc := 63) lp_10_290 sh_76 rfl dX10_keepNow_63 ?_
  obtain ⟨M11, eM11, h⟩ := fm_ltp h
  refine fm_cgm eM11 ?_
  refine fm_vret (pc := 66) rfl ?_ dX10_keepNow_66
  cases h
  exact hq
theorem sp_X10_keepNow {d : Nat}  {M : fm_M} {x : Unit × fm_M} {Q : Option Value → fm_M → Prop} (h : F_X10_keepNow  M = some x) (hq : Q none x.2) : fm_ct (d + 1) mX10_keepNow [.ref 76] M Q := by
  rw [F_X10_keepNow] at h
  show fm_mw (d + 1) mX10_keepNow Q 0 [some (.ref 76), none] [] M
  refine fl_aload0 (pc := 0) dX10_keepNow_0 ?_
  refine fm_geti (pc := 1) lk_10_290 sh_76 rfl dX10_keepNow_1 ?_
  refine fm_bipushv (pc := 4) 20 (by decide) dX10_keepNow_4 ?_
  refine fm_icmp_ne (pc := 6) 45 (by decide) dX10_keepNow_6 (fun c6 => ?_) (fun c6 => ?_)
  · replace h := fm_itn c6 h
    exact jn_X10_keepNow_45   hq _ h
  · replace h := fm_itp c6 h
    refine fm_iconstv (pc := 9) 1 (by decide) dX10_keepNow_9 ?_
    refine fl_istore1 (pc := 10) rfl (by decide) dX10_keepNow_10 ?_
    obtain ⟨w6, M7, ew6, h⟩ := fm_bdp h
    refine lp_X10_keepNow_11  ?_ _ _ _ ew6
    intro w69 M79 q9
    cases q9
    refine fl_aload0 (pc := 35) dX10_keepNow_35 ?_
    refine fm_dup (pc := 36) rfl dX10_keepNow_36 ?_
    refine fm_geti (pc := 37) lk_10_290 sh_76 rfl dX10_keepNow_37 ?_
    refine fm_iconstv (pc := 40) 1 (by decide) dX10_keepNow_40 ?_
    refine fm_isub (pc := 41) dX10_keepNow_41 ?_
    refine fm_puti (pc := 42) lp_10_290 sh_76 rfl dX10_keepNow_42 ?_
    obtain ⟨M8, eM8, h⟩ := fm_ltp h
    refine fm_cgm eM8 ?_
    exact jn_X10_keepNow_45_1 _  hq _ h
/-! X10_touch -/
def J_X10_touch_32 (l1 : Int32) (l2 : Int32) (s0 : Int32) (M : fm_M) : Option (Int32 × fm_M) :=
    if s0 = l2 then (
      some (0, M)
    ) else (
      fm_bd (F_X10_keepNow M) (fun v5 M6 =>
      fm_gd (fm_inb 0 23) (
      fm_gd (fm_inb 0 23) (
      fm_lt (fm_up M6 97 (Int32.toNatClampNeg 0) ((M6.1 97 (Int32.toNatClampNeg 0)) ^^^ (1 <<< (l1 &&& 31)))) (fun M9 =>
      some (1, M9)))))
    )
def F_X10_touch (a1 : Int32) (a2 : Int32) (M : fm_M) : Option (Int32 × fm_M) :=
    fm_lt (fm_up M 76 0 0) (fun M1 =>
    fm_bd (F_X10_isFork a1 M1) (fun v2 M3 =>
    if v2 = 0 then (
      some (0, M3)
    ) else (
      fm_gd (fm_inb 0 23) (
      if (((M3.1 97 (Int32.toNatClampNeg 0)) >>> (a1 &&& 31)) &&& 1) = 1 then (
        J_X10_touch_32 a1 a2 1 M3
      ) else (
        J_X10_touch_32 a1 a2 0 M3
      ))
    )))
theorem jn_X10_touch_32 {d : Nat} {Q : Option Value → fm_M → Prop}  (l1 : Int32) (l2 : Int32) (s0 : Int32) {x : Int32 × fm_M}  (hq : Q (some (.int x.1)) x.2) (M : fm_M) (h : J_X10_touch_32 l1 l2 s0 M = some x) : fm_mw (d + 2) mX10_touch Q 32 [some (.ref 76), some (.int l1), some (.int l2)] [(.int s0)] M := by
  rw [J_X10_touch_32] at h
  refine fl_iload2 (pc := 32) dX10_touch_32 ?_
  refine fm_icmp_ne (pc := 33) 38 (by decide) dX10_touch_33 (fun c33 => ?_) (fun c33 => ?_)
  · replace h := fm_itn c33 h
    refine fl_aload0 (pc := 38) dX10_touch_38 ?_
    obtain ⟨v5, M6, ev5, h⟩ := fm_bdp h
    refine fm_callV (pc := 39) mX10_keepNow [] _ rfl cvX10_keepNow ml_10_417 sh_76 rfl rfl (Nat.le_of_ble_eq_true rfl) (Nat.le_of_ble_eq_true rfl) dX10_touch_39 ?_
    refine sp_X10_keepNow ev5 ?_
    refine fm_ret0 ?_
    refine fl_aload0 (pc := 42) dX10_touch_42 ?_
    refine fm_getr (pc := 43) lk_10_75 sh_76 rfl dX10_touch_43 ?_
    refine fm_iconstv (pc := 46) 0 (by decide) dX10_touch_46 ?_
    refine fm_dup2 (pc := 47) rfl rfl dX10_touch_47 ?_
    obtain ⟨g7, h⟩ := fm_gdp h
    refine fm_iald (pc := 48) sh_97 (fm_inb_ok g7) dX10_touch_48 ?_
    refine fm_iconstv (pc := 49) 1 (by decide) dX10_touch_49 ?_
    refine fl_iload1 (pc := 50) dX10_touch_50 ?_
    refine fm_ishl (pc := 51) dX10_touch_51 ?_
    refine fm_ixor (pc := 52) dX10_touch_52 ?_
    obtain ⟨g8, h⟩ := fm_gdp h
    refine fm_iast (pc := 53) sh_97 (fm_inb_ok g8) dX10_touch_53 ?_
    obtain ⟨M9, eM9, h⟩ := fm_ltp h
    refine fm_cgm eM9 ?_
    refine fm_iconstv (pc := 54) 1 (by decide) dX10_touch_54 ?_
    refine fm_zret (pc := 55) rfl (by decide) ?_ dX10_touch_55
    cases h
    exact hq
  · replace h := fm_itp c33 h
    refine fm_iconstv (pc := 36) 0 (by decide) dX10_touch_36 ?_
    refine fm_zret (pc := 37) rfl (by decide) ?_ dX10_touch_37
    cases h
    exact hq
theorem sp_X10_touch {d : Nat} {a1 : Int32} {a2 : Int32} {M : fm_M} {x : Int32 × fm_M} {Q : Option Value → fm_M → Prop} (h : F_X10_touch a1 a2 M = some x) (hq : Q (some (.int x.1)) x.2) : fm_ct (d + 2) mX10_touch [.ref 76, .int a1, .int a2] M Q := by
  rw [F_X10_touch] at h
  show fm_mw (d + 2) mX10_touch Q 0 [some (.ref 76), some (.int a1), some (.int a2)] [] M
  refine fl_aload0 (pc := 0) dX10_touch_0 ?_
  refine fm_iconstv (pc := 1) 0 (by decide) dX10_touch_1 ?_
  refine fm_puti (pc := 2) lp_10_130 sh_76 rfl dX10_touch_2 ?_
  obtain ⟨M1, eM1, h⟩ := fm_ltp h
  refine fm_cgm eM1 ?_
  refine fl_aload0 (pc := 5) dX10_touch_5 ?_
  refine fl_iload1 (pc := 6) dX10_touch_6 ?_
  obtain ⟨v2, M3, ev2, h⟩ := fm_bdp h
  refine fm_callV (pc := 7) mX10_isFork [_] _ rfl cvX10_isFork ml_10_404 sh_76 rfl rfl (Nat.le_of_ble_eq_true rfl) (Nat.le_of_ble_eq_true rfl) dX10_touch_7 ?_
  refine sp_X10_isFork ev2 ?_
  refine fm_ret1 ?_
  refine fm_if_eq (pc := 10) 36 (by decide) dX10_touch_10 (fun c10 => ?_) (fun c10 => ?_)
  · replace h := fm_itp c10 h
    refine fm_iconstv (pc := 36) 0 (by decide) dX10_touch_36 ?_
    refine fm_zret (pc := 37) rfl (by decide) ?_ dX10_touch_37
    cases h
    exact hq
  · replace h := fm_itn c10 h
    refine fl_aload0 (pc := 13) dX10_touch_13 ?_
    refine fm_getr (pc := 14) lk_10_75 sh_76 rfl dX10_touch_14 ?_
    refine fm_iconstv (pc := 17) 0 (by decide) dX10_touch_17 ?_
    obtain ⟨g4, h⟩ := fm_gdp h
    refine fm_iald (pc := 18) sh_97 (fm_inb_ok g4) dX10_touch_18 ?_
    refine fl_iload1 (pc := 19) dX10_touch_19 ?_
    refine fm_ishr (pc := 20) dX10_touch_20 ?_
    refine fm_iconstv (pc := 21) 1 (by decide) dX10_touch_21 ?_
    refine fm_iand (pc := 22) dX10_touch_22 ?_
    refine fm_iconstv (pc := 23) 1 (by decide) dX10_touch_23 ?_
    refine fm_icmp_ne (pc := 24) 31 (by decide) dX10_touch_24 (fun c24 => ?_) (fun c24 => ?_)
    · replace h := fm_itn c24 h
      refine fm_iconstv (pc := 31) 0 (by decide) dX10_touch_31 ?_
      exact jn_X10_touch_32 _ _ _  hq _ h
    · replace h := fm_itp c24 h
      refine fm_iconstv (pc := 27) 1 (by decide) dX10_touch_27 ?_
      refine fm_goto (pc := 28) 32 (by decide) dX10_touch_28 ?_
      exact jn_X10_touch_32 _ _ _  hq _ h
/-! X10_file -/
def F_X10_file (a1 : Int32) (a2 : Int32) (M : fm_M) : Option (Int32 × fm_M) :=
    fm_lt (fm_up M 76 0 0) (fun M1 =>
    fm_bd (F_X10_isFork a1 M1) (fun v2 M3 =>
    if v2 = 0 then (
      some ((-1), M3)
    ) else (
      if a2 < (-99) then (
        some ((-1), M3)
      ) else (
        if 99 < a2 then (
          some ((-1), M3)
        ) else (
          if a2 = 0 then (
            some ((-1), M3)
          ) else (
            fm_gd (fm_inb a1 184) (
            fm_bd (F_X10_isNote ((M3.1 98 (Int32.toNatClampNeg a1)) + a2) M3) (fun v5 M6 =>
            if v5 = 0 then (
              some ((-1), M6)
            ) else (
              fm_gd (fm_inb 5 20) (
              fm_lt (((M6.1 78 (Int32.toNatClampNeg 5)) * (i_abs a2))) (fun x8 =>
              fm_gd (fm_inb 0 23) (
              if x8 ≤ (M6.1 95 (Int32.toNatClampNeg 0)) then (
                fm_bd (F_X10_keepNow M6) (fun v10 M11 =>
                fm_gd (fm_inb 0 23) (
                fm_gd (fm_inb 0 23) (
                fm_lt (fm_up M11 95 (Int32.toNatClampNeg 0) ((M11.1 95 (Int32.toNatClampNeg 0)) - x8)) (fun M14 =>
                fm_gd (fm_inb 0 23) (
                fm_gd (fm_inb 0 23) (
                fm_lt (fm_up M14 96 (Int32.toNatClampNeg 0) ((M14.1 96 (Int32.toNatClampNeg 0)) + x8)) (fun M17 =>
                fm_gd (fm_inb a1 184) (
                fm_gd (fm_inb a1 184) (
                fm_lt (fm_up M17 98 (Int32.toNatClampNeg a1) ((M17.1 98 (Int32.toNatClampNeg a1)) + a2)) (fun M20 =>
                fm_gd (fm_inb a1 184) (
                some ((M20.1 98 (Int32.toNatClampNeg a1)), M20))))))))))))
              ) else (
                some ((-2), M6)
              ))))
            )))
          )
        )
      )
    )))
theorem sp_X10_file {d : Nat} {a1 : Int32} {a2 : Int32} {M : fm_M} {x : Int32 × fm_M} {Q : Option Value → fm_M → Prop} (h : F_X10_file a1 a2 M = some x) (hq : Q (some (.int x.1)) x.2) : fm_ct (d + 2) mX10_file [.ref 76, .int a1, .int a2] M Q := by
  rw [F_X10_file] at h
  show fm_mw (d + 2) mX10_file Q 0 [some (.ref 76), some (.int a1), some (.int a2), none] [] M
  refine fl_aload0 (pc := 0) dX10_file_0 ?_
  refine fm_iconstv (pc := 1) 0 (by decide) dX10_file_1 ?_
  refine fm_puti (pc := 2) lp_10_130 sh_76 rfl dX10_file_2 ?_
  obtain ⟨M1, eM1, h⟩ := fm_ltp h
  refine fm_cgm eM1 ?_
  refine fl_aload0 (pc := 5) dX10_file_5 ?_
  refine fl_iload1 (pc := 6) dX10_file_6 ?_
  obtain ⟨v2, M3, ev2, h⟩ := fm_bdp h
  refine fm_callV (pc := 7) mX10_isFork [_] _ rfl cvX10_isFork ml_10_404 sh_76 rfl rfl (Nat.le_of_ble_eq_true rfl) (Nat.le_of_ble_eq_true rfl) dX10_file_7 ?_
  refine sp_X10_isFork ev2 ?_
  refine fm_ret1 ?_
  refine fm_if_eq (pc := 10) 43 (by decide) dX10_file_10 (fun c10 => ?_) (fun c10 => ?_)
  · replace h := fm_itp c10 h
    refine fm_iconstv (pc := 43) (-1) (by decide) dX10_file_43 ?_
    refine fm_iret (pc := 44) rfl ?_ dX10_file_44
    cases h
    exact hq
  · replace h := fm_itn c10 h
    refine fl_iload2 (pc := 13) dX10_file_13 ?_
    refine fm_bipushv (pc := 14) (-99) (by decide) dX10_file_14 ?_
    refine fm_icmp_lt (pc := 16) 43 (by decide) dX10_file_16 (fun c16 => ?_) (fun c16 => ?_)
    · replace h := fm_itp c16 h
      refine fm_iconstv (pc := 43) (-1) (by decide) dX10_file_43 ?_
      refine fm_iret (pc := 44) rfl ?_ dX10_file_44
      cases h
      exact hq
    · replace h := fm_itn c16 h
      refine fl_iload2 (pc := 19) dX10_file_19 ?_
      refine fm_bipushv (pc := 20) 99 (by decide) dX10_file_20 ?_
      refine fm_icmp_gt (pc := 22) 43 (by decide) dX10_file_22 (fun c22 => ?_) (fun c22 => ?_)
      · replace h := fm_itp c22 h
        refine fm_iconstv (pc := 43) (-1) (by decide) dX10_file_43 ?_
        refine fm_iret (pc := 44) rfl ?_ dX10_file_44
        cases h
        exact hq
      · replace h := fm_itn c22 h
        refine fl_iload2 (pc := 25) dX10_file_25 ?_
        refine fm_if_eq (pc := 26) 43 (by decide) dX10_file_26 (fun c26 => ?_) (fun c26 => ?_)
        · replace h := fm_itp c26 h
          refine fm_iconstv (pc := 43) (-1) (by decide) dX10_file_43 ?_
          refine fm_iret (pc := 44) rfl ?_ dX10_file_44
          cases h
          exact hq
        · replace h := fm_itn c26 h
          refine fl_aload0 (pc := 29) dX10_file_29 ?_
          refine fm_getr (pc := 30) lk_10_78 sh_76 rfl dX10_file_30 ?_
          refine fl_iload1 (pc := 33) dX10_file_33 ?_
          obtain ⟨g4, h⟩ := fm_gdp h
          refine fm_iald (pc := 34) sh_98 (fm_inb_ok g4) dX10_file_34 ?_
          refine fl_iload2 (pc := 35) dX10_file_35 ?_
          refine fm_iadd (pc := 36) dX10_file_36 ?_
          obtain ⟨v5, M6, ev5, h⟩ := fm_bdp h
          refine fm_callS (pc := 37) mX10_isNote [_] _ rfl csX10_isNote ml_10_407 rfl (Nat.le_of_ble_eq_true rfl) (Nat.le_of_ble_eq_true rfl) dX10_file_37 ?_
          refine sp_X10_isNote ev5 ?_
          refine fm_ret1 ?_
          refine fm_if_ne (pc := 40) 45 (by decide) dX10_file_40 (fun c40 => ?_) (fun c40 => ?_)
          · replace h := fm_itn c40 h
            refine fl_aload0 (pc := 45) dX10_file_45 ?_
            refine fm_getr (pc := 46) lk_10_13 sh_76 rfl dX10_file_46 ?_
            refine fm_iconstv (pc := 49) 5 (by decide) dX10_file_49 ?_
            obtain ⟨g7, h⟩ := fm_gdp h
            refine fm_iald (pc := 50) sh_78 (fm_inb_ok g7) dX10_file_50 ?_
            refine fl_iload2 (pc := 51) dX10_file_51 ?_
            refine fq_mabs (pc := 52) ml_10_334 (Nat.le_of_ble_eq_true rfl) dX10_file_52 ?_
            refine fm_imul (pc := 55) dX10_file_55 ?_
            obtain ⟨x8, ex8, h⟩ := fm_ltp h
            refine fm_cgi ex8 ?_
            refine fl_istore3 (pc := 56) rfl (by decide) dX10_file_56 ?_
            refine fl_iload3 (pc := 57) dX10_file_57 ?_
            refine fl_aload0 (pc := 58) dX10_file_58 ?_
            refine fm_getr (pc := 59) lk_10_69 sh_76 rfl dX10_file_59 ?_
            refine fm_iconstv (pc := 62) 0 (by decide) dX10_file_62 ?_
            obtain ⟨g9, h⟩ := fm_gdp h
            refine fm_iald (pc := 63) sh_95 (fm_inb_ok g9) dX10_file_63 ?_
            refine fm_icmp_le (pc := 64) 70 (by decide) dX10_file_64 (fun c64 => ?_) (fun c64 => ?_)
            · replace h := fm_itp c64 h
              refine fl_aload0 (pc := 70) dX10_file_70 ?_
              obtain ⟨v10, M11, ev10, h⟩ := fm_bdp h
              refine fm_callV (pc := 71) mX10_keepNow [] _ rfl cvX10_keepNow ml_10_417 sh_76 rfl rfl (Nat.le_of_ble_eq_true rfl) (Nat.le_of_ble_eq_true rfl) dX10_file_71 ?_
              refine sp_X10_keepNow ev10 ?_
              refine fm_ret0 ?_
              refine fl_aload0 (pc := 74) dX10_file_74 ?_
              refine fm_getr (pc := 75) lk_10_69 sh_76 rfl dX10_file_75 ?_
              refine fm_iconstv (pc := 78) 0 (by decide) dX10_file_78 ?_
              refine fm_dup2 (pc := 79) rfl rfl dX10_file_79 ?_
              obtain ⟨g12, h⟩ := fm_gdp h
              refine fm_iald (pc := 80) sh_95 (fm_inb_ok g12) dX10_file_80 ?_
              refine fl_iload3 (pc := 81) dX10_file_81 ?_
              refine fm_isub (pc := 82) dX10_file_82 ?_
              obtain ⟨g13, h⟩ := fm_gdp h
              refine fm_iast (pc := 83) sh_95 (fm_inb_ok g13) dX10_file_83 ?_
              obtain ⟨M14, eM14, h⟩ := fm_ltp h
              refine fm_cgm eM14 ?_
              refine fl_aload0 (pc := 84) dX10_file_84 ?_
              refine fm_getr (pc := 85) lk_10_72 sh_76 rfl dX10_file_85 ?_
              refine fm_iconstv (pc := 88) 0 (by decide) dX10_file_88 ?_
              refine fm_dup2 (pc := 89) rfl rfl dX10_file_89 ?_
              obtain ⟨g15, h⟩ := fm_gdp h
              refine fm_iald (pc := 90) sh_96 (fm_inb_ok g15) dX10_file_90 ?_
              refine fl_iload3 (pc := 91) dX10_file_91 ?_
              refine fm_iadd (pc := 92) dX10_file_92 ?_
              obtain ⟨g16, h⟩ := fm_gdp h
              refine fm_iast (pc := 93) sh_96 (fm_inb_ok g16) dX10_file_93 ?_
              obtain ⟨M17, eM17, h⟩ := fm_ltp h
              refine fm_cgm eM17 ?_
              refine fl_aload0 (pc := 94) dX10_file_94 ?_
              refine fm_getr (pc := 95) lk_10_78 sh_76 rfl dX10_file_95 ?_
              refine fl_iload1 (pc := 98) dX10_file_98 ?_
              refine fm_dup2 (pc := 99) rfl rfl dX10_file_99 ?_
              obtain ⟨g18, h⟩ := fm_gdp h
              refine fm_iald (pc := 100) sh_98 (fm_inb_ok g18) dX10_file_100 ?_
              refine fl_iload2 (pc := 101) dX10_file_101 ?_
              refine fm_iadd (pc := 102) dX10_file_102 ?_
              obtain ⟨g19, h⟩ := fm_gdp h
              refine fm_iast (pc := 103) sh_98 (fm_inb_ok g19) dX10_file_103 ?_
              obtain ⟨M20, eM20, h⟩ := fm_ltp h
              refine fm_cgm eM20 ?_
              refine fl_aload0 (pc := 104) dX10_file_104 ?_
              refine fm_getr (pc := 105) lk_10_78 sh_76 rfl dX10_file_105 ?_
              refine fl_iload1 (pc := 108) dX10_file_108 ?_
              obtain ⟨g21, h⟩ := fm_gdp h
              refine fm_iald (pc := 109) sh_98 (fm_inb_ok g21) dX10_file_109 ?_
              refine fm_iret (pc := 110) rfl ?_ dX10_file_110
              cases h
              exact hq
            · replace h := fm_itn c64 h
              refine fm_bipushv (pc := 67) (-2) (by decide) dX10_file_67 ?_
              refine fm_iret (pc := 69) rfl ?_ dX10_file_69
              cases h
              exact hq
          · replace h := fm_itp c40 h
            refine fm_iconstv (pc := 43) (-1) (by decide) dX10_file_43 ?_
            refine fm_iret (pc := 44) rfl ?_ dX10_file_44
            cases h
            exact hq
/-! X10_put -/
def F_X10_put (a1 : Int32) (a2 : Int32) (M : fm_M) : Option (Int32 × fm_M) :=
    fm_lt (fm_up M 76 0 0) (fun M1 =>
    fm_bd (F_X10_isMotion a1 M1) (fun v2 M3 =>
    if v2 = 0 then (
      some (0, M3)
    ) else (
      fm_gd (fm_inb 0 23) (
      if a2 < (M3.1 94 (Int32.toNatClampNeg 0)) then (
        some (0, M3)
      ) else (
        if 9999 < a2 then (
          some (0, M3)
        ) else (
          fm_gd (fm_inb a1 230) (
          if (M3.1 100 (Int32.toNatClampNeg a1)) = (-1) then (
            fm_gd (fm_inb a1 230) (
            if (M3.1 99 (Int32.toNatClampNeg a1)) = a2 then (
              some (0, M3)
            ) else (
              fm_bd (F_X10_keepNow M3) (fun v7 M8 =>
              fm_gd (fm_inb a1 230) (
              fm_lt (fm_up M8 99 (Int32.toNatClampNeg a1) a2) (fun M10 =>
              some (1, M10))))
            ))
          ) else (
            some (0, M3)
          ))
        )
      ))
    )))
theorem sp_X10_put {d : Nat} {a1 : Int32} {a2 : Int32} {M : fm_M} {x : Int32 × fm_M} {Q : Option Value → fm_M → Prop} (h : F_X10_put a1 a2 M = some x) (hq : Q (some (.int x.1)) x.2) : fm_ct (d + 2) mX10_put [.ref 76, .int a1, .int a2] M Q := by
  rw [F_X10_put] at h
  show fm_mw (d + 2) mX10_put Q 0 [some (.ref 76), some (.int a1), some (.int a2)] [] M
  refine fl_aload0 (pc := 0) dX10_put_0 ?_
  refine fm_iconstv (pc := 1) 0 (by decide) dX10_put_1 ?_
  refine fm_puti (pc := 2) lp_10_130 sh_76 rfl dX10_put_2 ?_
  obtain ⟨M1, eM1, h⟩ := fm_ltp h
  refine fm_cgm eM1 ?_
  refine fl_aload0 (pc := 5) dX10_put_5 ?_
  refine fl_iload1 (pc := 6) dX10_put_6 ?_
  obtain ⟨v2, M3, ev2, h⟩ := fm_bdp h
  refine fm_callV (pc := 7) mX10_isMotion [_] _ rfl cvX10_isMotion ml_10_401 sh_76 rfl rfl (Nat.le_of_ble_eq_true rfl) (Nat.le_of_ble_eq_true rfl) dX10_put_7 ?_
  refine sp_X10_isMotion ev2 ?_
  refine fm_ret1 ?_
  refine fm_if_eq (pc := 10) 50 (by decide) dX10_put_10 (fun c10 => ?_) (fun c10 => ?_)
  · replace h := fm_itp c10 h
    refine fm_iconstv (pc := 50) 0 (by decide) dX10_put_50 ?_
    refine fm_zret (pc := 51) rfl (by decide) ?_ dX10_put_51
    cases h
    exact hq
  · replace h := fm_itn c10 h
    refine fl_iload2 (pc := 13) dX10_put_13 ?_
    refine fl_aload0 (pc := 14) dX10_put_14 ?_
    refine fm_getr (pc := 15) lk_10_66 sh_76 rfl dX10_put_15 ?_
    refine fm_iconstv (pc := 18) 0 (by decide) dX10_put_18 ?_
    obtain ⟨g4, h⟩ := fm_gdp h
    refine fm_iald (pc := 19) sh_94 (fm_inb_ok g4) dX10_put_19 ?_
    refine fm_icmp_lt (pc := 20) 50 (by decide) dX10_put_20 (fun c20 => ?_) (fun c20 => ?_)
    · replace h := fm_itp c20 h
      refine fm_iconstv (pc := 50) 0 (by decide) dX10_put_50 ?_
      refine fm_zret (pc := 51) rfl (by decide) ?_ dX10_put_51
      cases h
      exact hq
    · replace h := fm_itn c20 h
      refine fl_iload2 (pc := 23) dX10_put_23 ?_
      refine fm_sipushv (pc := 24) 9999 (by decide) dX10_put_24 ?_
      refine fm_icmp_gt (pc := 27) 50 (by decide) dX10_put_27 (fun c27 => ?_) (fun c27 => ?_)
      · replace h := fm_itp c27 h
        refine fm_iconstv (pc := 50) 0 (by decide) dX10_put_50 ?_
        refine fm_zret (pc := 51) rfl (by decide) ?_ dX10_put_51
        cases h
        exact hq
      · replace h := fm_itn c27 h
        refine fl_aload0 (pc := 30) dX10_put_30 ?_
        refine fm_getr (pc := 31) lk_10_84 sh_76 rfl dX10_put_31 ?_
        refine fl_iload1 (pc := 34) dX10_put_34 ?_
        obtain ⟨g5, h⟩ := fm_gdp h
        refine fm_iald (pc := 35) sh_100 (fm_inb_ok g5) dX10_put_35 ?_
        refine fm_iconstv (pc := 36) (-1) (by decide) dX10_put_36 ?_
        refine fm_icmp_ne (pc := 37) 50 (by decide) dX10_put_37 (fun c37 => ?_) (fun c37 => ?_)
        · replace h := fm_itn c37 h
          refine fm_iconstv (pc := 50) 0 (by decide) dX10_put_50 ?_
          refine fm_zret (pc := 51) rfl (by decide) ?_ dX10_put_51
          cases h
          exact hq
        · replace h := fm_itp c37 h
          refine fl_aload0 (pc := 40) dX10_put_40 ?_
          refine fm_getr (pc := 41) lk_10_81 sh_76 rfl dX10_put_41 ?_
          refine fl_iload1 (pc := 44) dX10_put_44 ?_
          obtain ⟨g6, h⟩ := fm_gdp h
          refine fm_iald (pc := 45) sh_99 (fm_inb_ok g6) dX10_put_45 ?_
          refine fl_iload2 (pc := 46) dX10_put_46 ?_
          refine fm_icmp_ne (pc := 47) 52 (by decide) dX10_put_47 (fun c47 => ?_) (fun c47 => ?_)
          · replace h := fm_itn c47 h
            refine fl_aload0 (pc := 52) dX10_put_52 ?_
            obtain ⟨v7, M8, ev7, h⟩ := fm_bdp h
            refine fm_callV (pc := 53) mX10_keepNow [] _ rfl cvX10_keepNow ml_10_417 sh_76 rfl rfl (Nat.le_of_ble_eq_true rfl) (Nat.le_of_ble_eq_true rfl) dX10_put_53 ?_
            refine sp_X10_keepNow ev7 ?_
            refine fm_ret0 ?_
            refine fl_aload0 (pc := 56) dX10_put_56 ?_
            refine fm_getr (pc := 57) lk_10_81 sh_76 rfl dX10_put_57 ?_
            refine fl_iload1 (pc := 60) dX10_put_60 ?_
            refine fl_iload2 (pc := 61) dX10_put_61 ?_
            obtain ⟨g9, h⟩ := fm_gdp h
            refine fm_iast (pc := 62) sh_99 (fm_inb_ok g9) dX10_put_62 ?_
            obtain ⟨M10, eM10, h⟩ := fm_ltp h
            refine fm_cgm eM10 ?_
            refine fm_iconstv (pc := 63) 1 (by decide) dX10_put_63 ?_
            refine fm_zret (pc := 64) rfl (by decide) ?_ dX10_put_64
            cases h
            exact hq
          · replace h := fm_itp c47 h
            refine fm_iconstv (pc := 50) 0 (by decide) dX10_put_50 ?_
            refine fm_zret (pc := 51) rfl (by decide) ?_ dX10_put_51
            cases h
            exact hq
/-! X10_earn -/
def F_X10_earn (a1 : Int32) (M : fm_M) : Option (Int32 × fm_M) :=
    fm_lt (fm_up M 76 0 0) (fun M1 =>
    if a1 < 1 then (
      some ((-1), M1)
    ) else (
      if 99 < a1 then (
        some ((-1), M1)
      ) else (
        fm_gd (fm_inb 0 23) (
        if ((M1.1 95 (Int32.toNatClampNeg 0)) + a1) ≤ 9999 then (
          fm_bd (F_X10_keepNow M1) (fun v3 M4 =>
          fm_gd (fm_inb 0 23) (
          fm_gd (fm_inb 0 23) (
          fm_lt (fm_up M4 95 (Int32.toNatClampNeg 0) ((M4.1 95 (Int32.toNatClampNeg 0)) + a1)) (fun M7 =>
          fm_gd (fm_inb 0 23) (
          some ((M7.1 95 (Int32.toNatClampNeg 0)), M7))))))
        ) else (
          some ((-1), M1)
        ))
      )
    ))
theorem sp_X10_earn {d : Nat} {a1 : Int32} {M : fm_M} {x : Int32 × fm_M} {Q : Option Value → fm_M → Prop} (h : F_X10_earn a1 M = some x) (hq : Q (some (.int x.1)) x.2) : fm_ct (d + 2) mX10_earn [.ref 76, .int a1] M Q := by
  rw [F_X10_earn] at h
  show fm_mw (d + 2) mX10_earn Q 0 [some (.ref 76), some (.int a1)] [] M
  refine fl_aload0 (pc := 0) dX10_earn_0 ?_
  refine fm_iconstv (pc := 1) 0 (by decide) dX10_earn_1 ?_
  refine fm_puti (pc := 2) lp_10_130 sh_76 rfl dX10_earn_2 ?_
  obtain ⟨M1, eM1, h⟩ := fm_ltp h
  refine fm_cgm eM1 ?_
  refine fl_iload1 (pc := 5) dX10_earn_5 ?_
  refine fm_iconstv (pc := 6) 1 (by decide) dX10_earn_6 ?_
  refine fm_icmp_lt (pc := 7) 30 (by decide) dX10_earn_7 (fun c7 => ?_) (fun c7 => ?_)
  · replace h := fm_itp c7 h
    refine fm_iconstv (pc := 30) (-1) (by decide) dX10_earn_30 ?_
    refine fm_iret (pc := 31) rfl ?_ dX10_earn_31
    cases h
    exact hq
  · replace h := fm_itn c7 h
    refine fl_iload1 (pc := 10) dX10_earn_10 ?_
    refine fm_bipushv (pc := 11) 99 (by decide) dX10_earn_11 ?_
    refine fm_icmp_gt (pc := 13) 30 (by decide) dX10_earn_13 (fun c13 => ?_) (fun c13 => ?_)
    · replace h := fm_itp c13 h
      refine fm_iconstv (pc := 30) (-1) (by decide) dX10_earn_30 ?_
      refine fm_iret (pc := 31) rfl ?_ dX10_earn_31
      cases h
      exact hq
    · replace h := fm_itn c13 h
      refine fl_aload0 (pc := 16) dX10_earn_16 ?_
      refine fm_getr (pc := 17) lk_10_69 sh_76 rfl dX10_earn_17 ?_
      refine fm_iconstv (pc := 20) 0 (by decide) dX10_earn_20 ?_
      obtain ⟨g2, h⟩ := fm_gdp h
      refine fm_iald (pc := 21) sh_95 (fm_inb_ok g2) dX10_earn_21 ?_
      refine fl_iload1 (pc := 22) dX10_earn_22 ?_
      refine fm_iadd (pc := 23) dX10_earn_23 ?_
      refine fm_sipushv (pc := 24) 9999 (by decide) dX10_earn_24 ?_
      refine fm_icmp_le (pc := 27) 32 (by decide) dX10_earn_27 (fun c27 => ?_) (fun c27 => ?_)
      · replace h := fm_itp c27 h
        refine fl_aload0 (pc := 32) dX10_earn_32 ?_
        obtain ⟨v3, M4, ev3, h⟩ := fm_bdp h
        refine fm_callV (pc := 33) mX10_keepNow [] _ rfl cvX10_keepNow ml_10_417 sh_76 rfl rfl (Nat.le_of_ble_eq_true rfl) (Nat.le_of_ble_eq_true rfl) dX10_earn_33 ?_
        refine sp_X10_keepNow ev3 ?_
        refine fm_ret0 ?_
        refine fl_aload0 (pc := 36) dX10_earn_36 ?_
        refine fm_getr (pc := 37) lk_10_69 sh_76 rfl dX10_earn_37 ?_
        refine fm_iconstv (pc := 40) 0 (by decide) dX10_earn_40 ?_
        refine fm_dup2 (pc := 41) rfl rfl dX10_earn_41 ?_
        obtain ⟨g5, h⟩ := fm_gdp h
        refine fm_iald (pc := 42) sh_95 (fm_inb_ok g5) dX10_earn_42 ?_
        refine fl_iload1 (pc := 43) dX10_earn_43 ?_
        refine fm_iadd (pc := 44) dX10_earn_44 ?_
        obtain ⟨g6, h⟩ := fm_gdp h
        refine fm_iast (pc := 45) sh_95 (fm_inb_ok g6) dX10_earn_45 ?_
        obtain ⟨M7, eM7, h⟩ := fm_ltp h
        refine fm_cgm eM7 ?_
        refine fl_aload0 (pc := 46) dX10_earn_46 ?_
        refine fm_getr (pc := 47) lk_10_69 sh_76 rfl dX10_earn_47 ?_
        refine fm_iconstv (pc := 50) 0 (by decide) dX10_earn_50 ?_
        obtain ⟨g8, h⟩ := fm_gdp h
        refine fm_iald (pc := 51) sh_95 (fm_inb_ok g8) dX10_earn_51 ?_
        refine fm_iret (pc := 52) rfl ?_ dX10_earn_52
        cases h
        exact hq
      · replace h := fm_itn c27 h
        refine fm_iconstv (pc := 30) (-1) (by decide) dX10_earn_30 ?_
        refine fm_iret (pc := 31) rfl ?_ dX10_earn_31
        cases h
        exact hq
/-! X10_go -/
def G_X10_go_42 : Nat → Int32 → Int32 → fm_M → Option ((Int32) × fm_M)
  | 0, _, _, _ => none
  | n + 1, l1, l2, M =>
    if l1 ≤ l2 then (
      some (l2, M)
    ) else (
      fm_bd (F_X10_dayGoes 0 M) (fun v3 M4 =>
      G_X10_go_42 n l1 (l2 + 1) M4)
    )
def J_X10_go_40 (l1 : Int32) (M : fm_M) : Option (Int32 × fm_M) :=
    fm_bd (G_X10_go_42 fm_fuel l1 0 M) (fun w5 M6 =>
      fm_gd (fm_inb 0 23) (
      some ((M6.1 94 (Int32.toNatClampNeg 0)), M6)))
def F_X10_go (a1 : Int32) (M : fm_M) : Option (Int32 × fm_M) :=
    fm_lt (fm_up M 76 0 0) (fun M1 =>
    if a1 < 0 then (
      some ((-1), M1)
    ) else (
      if 99 < a1 then (
        some ((-1), M1)
      ) else (
        fm_gd (fm_inb 0 23) (
        if ((M1.1 94 (Int32.toNatClampNeg 0)) + a1) ≤ 9900 then (
          if a1 ≤ 0 then (
            J_X10_go_40 a1 M1
          ) else (
            fm_lt (fm_up M1 76 42 0) (fun M8 =>
            J_X10_go_40 a1 M8)
          )
        ) else (
          some ((-1), M1)
        ))
      )
    ))
theorem lp_X10_go_42 {d : Nat} {Q : Option Value → fm_M → Prop} {l1 : Int32}   {x : (Int32) × fm_M} (k1 : ∀ (v : Int32) (M2 : fm_M), x = (v, M2) → fm_mw (d + 10) mX10_go Q 58 [some (.ref 76), some (.int l1), some (.int v)] [] M2) : ∀ (n : Nat) (l2 : Int32) (M : fm_M), G_X10_go_42 n l1 l2 M = some x → fm_mw (d + 10) mX10_go Q 42 [some (.ref 76), some (.int l1), some (.int l2)] [] M := by
  intro n
  induction n with
  | zero => intro l2 M h; simp [G_X10_go_42] at h
  | succ n ih =>
    intro l2 M h
    rw [G_X10_go_42] at h
    refine fl_iload2 (pc := 42) dX10_go_42 ?_
    refine fl_iload1 (pc := 43) dX10_go_43 ?_
    refine fm_icmp_ge (pc := 44) 58 (by decide) dX10_go_44 (fun c44 => ?_) (fun c44 => ?_)
    · replace h := fm_itp c44 h
      refine fm_fgt [some (.ref 76), some (.int l1), some (.int l2)] (by simp [fm_sub]) ?_
      cases h
      exact k1 _ _ rfl
    · replace h := fm_itn c44 h
      refine fl_aload0 (pc := 47) dX10_go_47 ?_
      refine fm_iconstv (pc := 48) 0 (by decide) dX10_go_48 ?_
      obtain ⟨v3, M4, ev3, h⟩ := fm_bdp h
      refine fm_callV (pc := 49) mX10_dayGoes [_] _ rfl cvX10_dayGoes ml_10_398 sh_76 rfl rfl (Nat.le_of_ble_eq_true rfl) (Nat.le_of_ble_eq_true rfl) dX10_go_49 ?_
      refine sp_X10_dayGoes ev3 ?_
      refine fm_ret0 ?_
      refine fl_iinc2 (pc := 52) rfl 1 (by decide) (by decide) dX10_go_52 ?_
      refine fm_goto (pc := 55) 42 (by decide) dX10_go_55 ?_
      refine fm_fgt [some (.ref 76), some (.int l1), some (.int (l2 + 1))] (by simp [fm_sub]) ?_
      exact ih _ _ h
theorem jn_X10_go_40 {d : Nat} {Q : Option Value → fm_M → Prop}  (l1 : Int32) {x : Int32 × fm_M}  (hq : Q (some (.int x.1)) x.2) (M : fm_M) (h : J_X10_go_40 l1 M = some x) : fm_mw (d + 10) mX10_go Q 40 [some (.ref 76), some (.int l1), none] [] M := by
  rw [J_X10_go_40] at h
  refine fm_iconstv (pc := 40) 0 (by decide) dX10_go_40 ?_
  refine fl_istore2 (pc := 41) rfl (by decide) dX10_go_41 ?_
  obtain ⟨w5, M6, ew5, h⟩ := fm_bdp h
  refine lp_X10_go_42  ?_ _ _ _ ew5
  intro w59 M69 q9
  cases q9
  refine fl_aload0 (pc := 58) dX10_go_58 ?_
  refine fm_getr (pc := 59) lk_10_66 sh_76 rfl dX10_go_59 ?_
  refine fm_iconstv (pc := 62) 0 (by decide) dX10_go_62 ?_
  obtain ⟨g7, h⟩ := fm_gdp h
  refine fm_iald (pc := 63) sh_94 (fm_inb_ok g7) dX10_go_63 ?_
  refine fm_iret (pc := 64) rfl ?_ dX10_go_64
  cases h
  exact hq
theorem sp_X10_go {d : Nat} {a1 : Int32} {M : fm_M} {x : Int32 × fm_M} {Q : Option Value → fm_M → Prop} (h : F_X10_go a1 M = some x) (hq : Q (some (.int x.1)) x.2) : fm_ct (d + 10) mX10_go [.ref 76, .int a1] M Q := by
  rw [F_X10_go] at h
  show fm_mw (d + 10) mX10_go Q 0 [some (.ref 76), some (.int a1), none] [] M
  refine fl_aload0 (pc := 0) dX10_go_0 ?_
  refine fm_iconstv (pc := 1) 0 (by decide) dX10_go_1 ?_
  refine fm_puti (pc := 2) lp_10_130 sh_76 rfl dX10_go_2 ?_
  obtain ⟨M1, eM1, h⟩ := fm_ltp h
  refine fm_cgm eM1 ?_
  refine fl_iload1 (pc := 5) dX10_go_5 ?_
  refine fm_if_lt (pc := 6) 29 (by decide) dX10_go_6 (fun c6 => ?_) (fun c6 => ?_)
  · replace h := fm_itp c6 h
    refine fm_iconstv (pc := 29) (-1) (by decide) dX10_go_29 ?_
    refine fm_iret (pc := 30) rfl ?_ dX10_go_30
    cases h
    exact hq
  · replace h := fm_itn c6 h
    refine fl_iload1 (pc := 9) dX10_go_9 ?_
    refine fm_bipushv (pc := 10) 99 (by decide) dX10_go_10 ?_
    refine fm_icmp_gt (pc := 12) 29 (by decide) dX10_go_12 (fun c12 => ?_) (fun c12 => ?_)
    · replace h := fm_itp c12 h
      refine fm_iconstv (pc := 29) (-1) (by decide) dX10_go_29 ?_
      refine fm_iret (pc := 30) rfl ?_ dX10_go_30
      cases h
      exact hq
    · replace h := fm_itn c12 h
      refine fl_aload0 (pc := 15) dX10_go_15 ?_
      refine fm_getr (pc := 16) lk_10_66 sh_76 rfl dX10_go_16 ?_
      refine fm_iconstv (pc := 19) 0 (by decide) dX10_go_19 ?_
      obtain ⟨g2, h⟩ := fm_gdp h
      refine fm_iald (pc := 20) sh_94 (fm_inb_ok g2) dX10_go_20 ?_
      refine fl_iload1 (pc := 21) dX10_go_21 ?_
      refine fm_iadd (pc := 22) dX10_go_22 ?_
      refine fm_sipushv (pc := 23) 9900 (by decide) dX10_go_23 ?_
      refine fm_icmp_le (pc := 26) 31 (by decide) dX10_go_26 (fun c26 => ?_) (fun c26 => ?_)
      · replace h := fm_itp c26 h
        refine fl_iload1 (pc := 31) dX10_go_31 ?_
        refine fm_if_le (pc := 32) 40 (by decide) dX10_go_32 (fun c32 => ?_) (fun c32 => ?_)
        · replace h := fm_itp c32 h
          exact jn_X10_go_40 _  hq _ h
        · replace h := fm_itn c32 h
          refine fl_aload0 (pc := 35) dX10_go_35 ?_
          refine fm_iconstv (pc := 36) 0 (by decide) dX10_go_36 ?_
          refine fm_puti (pc := 37) lp_10_290 sh_76 rfl dX10_go_37 ?_
          obtain ⟨M8, eM8, h⟩ := fm_ltp h
          refine fm_cgm eM8 ?_
          exact jn_X10_go_40 _  hq _ h
      · replace h := fm_itn c26 h
        refine fm_iconstv (pc := 29) (-1) (by decide) dX10_go_29 ?_
        refine fm_iret (pc := 30) rfl ?_ dX10_go_30
        cases h
        exact hq
/-! X10_ahead -/
def J_X10_ahead_39 (l1 : Int32) (l2 : Int32) (l3 : Int32) (M : fm_M) : Option (Int32 × fm_M) :=
    fm_bd (F_X10_copies 1 0 M) (fun v2 M3 =>
    fm_bd (F_X10_goesOn l1 M3) (fun v4 M5 =>
    if l2 = 0 then (
      fm_bd (F_X10_manyOf 1 1 M5) (fun v6 M7 =>
      fm_bd (F_X10_manyOf 0 1 M7) (fun v8 M9 =>
      some ((v6 - v8), M9)))
    ) else (
    if l2 = 1 then (
      fm_bd (F_X10_manyOf 1 0 M5) (fun v10 M11 =>
      fm_bd (F_X10_manyOf 0 0 M11) (fun v12 M13 =>
      some ((v10 - v12), M13)))
    ) else (
    if l2 = 2 then (
      fm_bd (F_X10_heardAll 1 M5) (fun v14 M15 =>
      fm_bd (F_X10_heardAll 0 M15) (fun v16 M17 =>
      some ((v14 - v16), M17)))
    ) else (
    fm_gd (fm_inb (8 + l3) 184) (
    some ((M5.1 98 (Int32.toNatClampNeg (8 + l3))), M5)))))))
def F_X10_ahead (a1 : Int32) (a2 : Int32) (a3 : Int32) (M : fm_M) : Option (Int32 × fm_M) :=
    fm_lt (fm_up M 76 0 0) (fun M1 =>
    if a1 < 0 then (
      some ((-1), M1)
    ) else (
      if 99 < a1 then (
        some ((-1), M1)
      ) else (
        if a2 < 0 then (
          some ((-1), M1)
        ) else (
          if 3 < a2 then (
            some ((-1), M1)
          ) else (
            if a2 = 3 then (
              fm_bd (F_X10_isFork a3 M1) (fun v19 M20 =>
              if v19 = 0 then (
                some ((-1), M20)
              ) else (
                J_X10_ahead_39 a1 a2 a3 M20
              ))
            ) else (
              J_X10_ahead_39 a1 a2 a3 M1
            )
          )
        )
      )
    ))
theorem jn_X10_ahead_39 {d : Nat} {Q : Option Value → fm_M → Prop}  (l1 : Int32) (l2 : Int32) (l3 : Int32) {x : Int32 × fm_M}  (hq : Q (some (.int x.1)) x.2) (M : fm_M) (h : J_X10_ahead_39 l1 l2 l3 M = some x) : fm_mw (d + 11) mX10_ahead Q 39 [some (.ref 76), some (.int l1), some (.int l2), some (.int l3)] [] M := by
  rw [J_X10_ahead_39] at h
  refine fl_aload0 (pc := 39) dX10_ahead_39 ?_
  refine fm_iconstv (pc := 40) 1 (by decide) dX10_ahead_40 ?_
  refine fm_iconstv (pc := 41) 0 (by decide) dX10_ahead_41 ?_
  obtain ⟨v2, M3, ev2, h⟩ := fm_bdp h
  refine fm_callV (pc := 42) mX10_copies [_, _] _ rfl cvX10_copies ml_10_414 sh_76 rfl rfl (Nat.le_of_ble_eq_true rfl) (Nat.le_of_ble_eq_true rfl) dX10_ahead_42 ?_
  refine sp_X10_copies ev2 ?_
  refine fm_ret0 ?_
  refine fl_aload0 (pc := 45) dX10_ahead_45 ?_
  refine fl_iload1 (pc := 46) dX10_ahead_46 ?_
  obtain ⟨v4, M5, ev4, h⟩ := fm_bdp h
  refine fm_callV (pc := 47) mX10_goesOn [_] _ rfl cvX10_goesOn ml_10_420 sh_76 rfl rfl (Nat.le_of_ble_eq_true rfl) (Nat.le_of_ble_eq_true rfl) dX10_ahead_47 ?_
  refine sp_X10_goesOn ev4 ?_
  refine fm_ret0 ?_
  refine fl_iload2 (pc := 50) dX10_ahead_50 ?_
  by_cases s51_0 : l2 = 0
  · replace h := fm_itp s51_0 h
    refine fm_tswIn (pc := 51) 76 0 (25) (by rw [s51_0]; rfl) (by decide) (by decide) (by decide) (by decide) dX10_ahead_51 ?_
    refine fl_aload0 (pc := 76) dX10_ahead_76 ?_
    refine fm_iconstv (pc := 77) 1 (by decide) dX10_ahead_77 ?_
    refine fm_iconstv (pc := 78) 1 (by decide) dX10_ahead_78 ?_
    obtain ⟨v6, M7, ev6, h⟩ := fm_bdp h
    refine fm_callV (pc := 79) mX10_manyOf [_, _] _ rfl cvX10_manyOf ml_10_423 sh_76 rfl rfl (Nat.le_of_ble_eq_true rfl) (Nat.le_of_ble_eq_true rfl) dX10_ahead_79 ?_
    refine sp_X10_manyOf ev6 ?_
    refine fm_ret1 ?_
    refine fl_aload0 (pc := 82) dX10_ahead_82 ?_
    refine fm_iconstv (pc := 83) 0 (by decide) dX10_ahead_83 ?_
    refine fm_iconstv (pc := 84) 1 (by decide) dX10_ahead_84 ?_
    obtain ⟨v8, M9, ev8, h⟩ := fm_bdp h
    refine fm_callV (pc := 85) mX10_manyOf [_, _] _ rfl cvX10_manyOf ml_10_423 sh_76 rfl rfl (Nat.le_of_ble_eq_true rfl) (Nat.le_of_ble_eq_true rfl) dX10_ahead_85 ?_
    refine sp_X10_manyOf ev8 ?_
    refine fm_ret1 ?_
    refine fm_isub (pc := 88) dX10_ahead_88 ?_
    refine fm_iret (pc := 89) rfl ?_ dX10_ahead_89
    cases h
    exact hq
  · replace h := fm_itn s51_0 h
    by_cases s51_1 : l2 = 1
    · replace h := fm_itp s51_1 h
      refine fm_tswIn (pc := 51) 90 1 (39) (by rw [s51_1]; rfl) (by decide) (by decide) (by decide) (by decide) dX10_ahead_51 ?_
      refine fl_aload0 (pc := 90) dX10_ahead_90 ?_
      refine fm_iconstv (pc := 91) 1 (by decide) dX10_ahead_91 ?_
      refine fm_iconstv (pc := 92) 0 (by decide) dX10_ahead_92 ?_
      obtain ⟨v10, M11, ev10, h⟩ := fm_bdp h
      refine fm_callV (pc := 93) mX10_manyOf [_, _] _ rfl cvX10_manyOf ml_10_423 sh_76 rfl rfl (Nat.le_of_ble_eq_true rfl) (Nat.le_of_ble_eq_true rfl) dX10_ahead_93 ?_
      refine sp_X10_manyOf ev10 ?_
      refine fm_ret1 ?_
      refine fl_aload0 (pc := 96) dX10_ahead_96 ?_
      refine fm_iconstv (pc := 97) 0 (by decide) dX10_ahead_97 ?_
      refine fm_iconstv (pc := 98) 0 (by decide) dX10_ahead_98 ?_
      obtain ⟨v12, M13, ev12, h⟩ := fm_bdp h
      refine fm_callV (pc := 99) mX10_manyOf [_, _] _ rfl cvX10_manyOf ml_10_423 sh_76 rfl rfl (Nat.le_of_ble_eq_true rfl) (Nat.le_of_ble_eq_true rfl) dX10_ahead_99 ?_
      refine sp_X10_manyOf ev12 ?_
      refine fm_ret1 ?_
      refine fm_isub (pc := 102) dX10_ahead_102 ?_
      refine fm_iret (pc := 103) rfl ?_ dX10_ahead_103
      cases h
      exact hq
    · replace h := fm_itn s51_1 h
      by_cases s51_2 : l2 = 2
      · replace h := fm_itp s51_2 h
        refine fm_tswIn (pc := 51) 104 2 (53) (by rw [s51_2]; rfl) (by decide) (by decide) (by decide) (by decide) dX10_ahead_51 ?_
        refine fl_aload0 (pc := 104) dX10_ahead_104 ?_
        refine fm_iconstv (pc := 105) 1 (by decide) dX10_ahead_105 ?_
        obtain ⟨v14, M15, ev14, h⟩ := fm_bdp h
        refine fm_callV (pc := 106) mX10_heardAll [_] _ rfl cvX10_heardAll ml_10_426 sh_76 rfl rfl (Nat.le_of_ble_eq_true rfl) (Nat.le_of_ble_eq_true rfl) dX10_ahead_106 ?_
        refine sp_X10_heardAll ev14 ?_
        refine fm_ret1 ?_
        refine fl_aload0 (pc := 109) dX10_ahead_109 ?_
        refine fm_iconstv (pc := 110) 0 (by decide) dX10_ahead_110 ?_
        obtain ⟨v16, M17, ev16, h⟩ := fm_bdp h
        refine fm_callV (pc := 111) mX10_heardAll [_] _ rfl cvX10_heardAll ml_10_426 sh_76 rfl rfl (Nat.le_of_ble_eq_true rfl) (Nat.le_of_ble_eq_true rfl) dX10_ahead_111 ?_
        refine sp_X10_heardAll ev16 ?_
        refine fm_ret1 ?_
        refine fm_isub (pc := 114) dX10_ahead_114 ?_
        refine fm_iret (pc := 115) rfl ?_ dX10_ahead_115
        cases h
        exact hq
      · replace h := fm_itn s51_2 h
        have q0 : ¬ Int32.toInt l2 = 0 := fun q => s51_0 (Int32.toInt_inj.mp (by rw [q]; rfl))
        have q1 : ¬ Int32.toInt l2 = 1 := fun q => s51_1 (Int32.toInt_inj.mp (by rw [q]; rfl))
        have q2 : ¬ Int32.toInt l2 = 2 := fun q => s51_2 (Int32.toInt_inj.mp (by rw [q]; rfl))
        refine fm_tswOut (pc := 51) 116 (by omega) (by decide) dX10_ahead_51 ?_
        refine fl_aload0 (pc := 116) dX10_ahead_116 ?_
        refine fm_getr (pc := 117) lk_10_78 sh_76 rfl dX10_ahead_117 ?_
        refine fm_bipushv (pc := 120) 8 (by decide) dX10_ahead_120 ?_
        refine fl_iload3 (pc := 122) dX10_ahead_122 ?_
        refine fm_iadd (pc := 123) dX10_ahead_123 ?_
        obtain ⟨g18, h⟩ := fm_gdp h
        refine fm_iald (pc := 124) sh_98 (fm_inb_ok g18) dX10_ahead_124 ?_
        refine fm_iret (pc := 125) rfl ?_ dX10_ahead_125
        cases h
        exact hq
theorem sp_X10_ahead {d : Nat} {a1 : Int32} {a2 : Int32} {a3 : Int32} {M : fm_M} {x : Int32 × fm_M} {Q : Option Value → fm_M → Prop} (h : F_X10_ahead a1 a2 a3 M = some x) (hq : Q (some (.int x.1)) x.2) : fm_ct (d + 11) mX10_ahead [.ref 76, .int a1, .int a2, .int a3] M Q := by
  rw [F_X10_ahead] at h
  show fm_mw (d + 11) mX10_ahead Q 0 [some (.ref 76), some (.int a1), some (.int a2), some (.int a3)] [] M
  refine fl_aload0 (pc := 0) dX10_ahead_0 ?_
  refine fm_iconstv (pc := 1) 0 (by decide) dX10_ahead_1 ?_
  refine fm_puti (pc := 2) lp_10_130 sh_76 rfl dX10_ahead_2 ?_
  obtain ⟨M1, eM1, h⟩ := fm_ltp h
  refine fm_cgm eM1 ?_
  refine fl_iload1 (pc := 5) dX10_ahead_5 ?_
  refine fm_if_lt (pc := 6) 37 (by decide) dX10_ahead_6 (fun c6 => ?_) (fun c6 => ?_)
  · replace h := fm_itp c6 h
    refine fm_iconstv (pc := 37) (-1) (by decide) dX10_ahead_37 ?_
    refine fm_iret (pc := 38) rfl ?_ dX10_ahead_38
    cases h
    exact hq
  · replace h := fm_itn c6 h
    refine fl_iload1 (pc := 9) dX10_ahead_9 ?_
    refine fm_bipushv (pc := 10) 99 (by decide) dX10_ahead_10 ?_
    refine fm_icmp_gt (pc := 12) 37 (by decide) dX10_ahead_12 (fun c12 => ?_) (fun c12 => ?_)
    · replace h := fm_itp c12 h
      refine fm_iconstv (pc := 37) (-1) (by decide) dX10_ahead_37 ?_
      refine fm_iret (pc := 38) rfl ?_ dX10_ahead_38
      cases h
      exact hq
    · replace h := fm_itn c12 h
      refine fl_iload2 (pc := 15) dX10_ahead_15 ?_
      refine fm_if_lt (pc := 16) 37 (by decide) dX10_ahead_16 (fun c16 => ?_) (fun c16 => ?_)
      · replace h := fm_itp c16 h
        refine fm_iconstv (pc := 37) (-1) (by decide) dX10_ahead_37 ?_
        refine fm_iret (pc := 38) rfl ?_ dX10_ahead_38
        cases h
        exact hq
      · replace h := fm_itn c16 h
        refine fl_iload2 (pc := 19) dX10_ahead_19 ?_
        refine fm_iconstv (pc := 20) 3 (by decide) dX10_ahead_20 ?_
        refine fm_icmp_gt (pc := 21) 37 (by decide) dX10_ahead_21 (fun c21 => ?_) (fun c21 => ?_)
        · replace h := fm_itp c21 h
          refine fm_iconstv (pc := 37) (-1) (by decide) dX10_ahead_37 ?_
          refine fm_iret (pc := 38) rfl ?_ dX10_ahead_38
          cases h
          exact hq
        · replace h := fm_itn c21 h
          refine fl_iload2 (pc := 24) dX10_ahead_24 ?_
          refine fm_iconstv (pc := 25) 3 (by decide) dX10_ahead_25 ?_
          refine fm_icmp_ne (pc := 26) 39 (by decide) dX10_ahead_26 (fun c26 => ?_) (fun c26 => ?_)
          · replace h := fm_itn c26 h
            exact jn_X10_ahead_39 _ _ _  hq _ h
          · replace h := fm_itp c26 h
            refine fl_aload0 (pc := 29) dX10_ahead_29 ?_
            refine fl_iload3 (pc := 30) dX10_ahead_30 ?_
            obtain ⟨v19, M20, ev19, h⟩ := fm_bdp h
            refine fm_callV (pc := 31) mX10_isFork [_] _ rfl cvX10_isFork ml_10_404 sh_76 rfl rfl (Nat.le_of_ble_eq_true rfl) (Nat.le_of_ble_eq_true rfl) dX10_ahead_31 ?_
            refine sp_X10_isFork ev19 ?_
            refine fm_ret1 ?_
            refine fm_if_ne (pc := 34) 39 (by decide) dX10_ahead_34 (fun c34 => ?_) (fun c34 => ?_)
            · replace h := fm_itn c34 h
              exact jn_X10_ahead_39 _ _ _  hq _ h
            · replace h := fm_itp c34 h
              refine fm_iconstv (pc := 37) (-1) (by decide) dX10_ahead_37 ?_
              refine fm_iret (pc := 38) rfl ?_ dX10_ahead_38
              cases h
              exact hq
/-! X10_best -/
def G_X10_best_25 : Nat → Int32 → Int32 → Int32 → Int32 → fm_M → Option ((Int32 × Int32 × Int32) × fm_M)
  | 0, _, _, _, _, _ => none
  | n + 1, l1, l2, l3, l4, M =>
    if 999 < l4 then (
      some ((l2, l3, l4), M)
    ) else (
      fm_bd (F_X10_humAll 0 l4 M) (fun v2 M3 =>
      if l3 < v2 then (
        G_X10_best_25 n l1 l4 v2 (l4 + 1) M3
      ) else (
        G_X10_best_25 n l1 l2 l3 (l4 + 1) M3
      ))
    )
def F_X10_best (a1 : Int32) (M : fm_M) : Option (Int32 × fm_M) :=
    fm_lt (fm_up M 76 0 0) (fun M1 =>
    if a1 < 0 then (
      some ((-1), M1)
    ) else (
      if a1 ≤ 1 then (
        fm_bd (G_X10_best_25 fm_fuel a1 100 (-1) 100 M1) (fun w4 M5 =>
          if a1 = 0 then (
            some (w4.1, M5)
          ) else (
            some (w4.2.1, M5)
          ))
      ) else (
        some ((-1), M1)
      )
    ))
theorem lp_X10_best_25 {d : Nat} {Q : Option Value → fm_M → Prop} {l1 : Int32}   {x : (Int32 × Int32 × Int32) × fm_M} (k1 : ∀ (v : Int32 × Int32 × Int32) (M2 : fm_M), x = (v, M2) → fm_mw (d + 8) mX10_best Q 63 [some (.ref 76), some (.int l1), some (.int v.1), some (.int v.2.1), some (.int v.2.2), none] [] M2) : ∀ (n : Nat) (l2 : Int32) (l3 : Int32) (l4 : Int32) (M : fm_M), G_X10_best_25 n l1 l2 l3 l4 M = some x → fm_mw (d + 8) mX10_best Q 25 [some (.ref 76), some (.int l1), some (.int l2), some (.int l3), some (.int l4), none] [] M := by
  intro n
  induction n with
  | zero => intro l2 l3 l4 M h; simp [G_X10_best_25] at h
  | succ n ih =>
    intro l2 l3 l4 M h
    rw [G_X10_best_25] at h
    refine fl_iload4 (pc := 25) dX10_best_25 ?_
    refine fm_sipushv (pc := 27) 999 (by decide) dX10_best_27 ?_
    refine fm_icmp_gt (pc := 30) 63 (by decide) dX10_best_30 (fun c30 => ?_) (fun c30 => ?_)
    · replace h := fm_itp c30 h
      refine fm_fgt [some (.ref 76), some (.int l1), some (.int l2), some (.int l3), some (.int l4), none] (by simp [fm_sub]) ?_
      cases h
      exact k1 _ _ rfl
    · replace h := fm_itn c30 h
      refine fl_aload0 (pc := 33) dX10_best_33 ?_
      refine fm_iconstv (pc := 34) 0 (by decide) dX10_best_34 ?_
      refine fl_iload4 (pc := 35) dX10_best_35 ?_
      obtain ⟨v2, M3, ev2, h⟩ := fm_bdp h
      refine fm_callV (pc := 37) mX10_humAll [_, _] _ rfl cvX10_humAll ml_10_385 sh_76 rfl rfl (Nat.le_of_ble_eq_true rfl) (Nat.le_of_ble_eq_true rfl) dX10_best_37 ?_
      refine sp_X10_humAll ev2 ?_
      refine fm_ret1 ?_
      refine fl_istore5 (pc := 40) rfl (by decide) dX10_best_40 ?_
      refine fl_iload5 (pc := 42) dX10_best_42 ?_
      refine fl_iload3 (pc := 44) dX10_best_44 ?_
      refine fm_icmp_gt (pc := 45) 51 (by decide) dX10_best_45 (fun c45 => ?_) (fun c45 => ?_)
      · replace h := fm_itp c45 h
        refine fl_iload4 (pc := 51) dX10_best_51 ?_
        refine fl_istore2 (pc := 53) rfl (by decide) dX10_best_53 ?_
        refine fl_iload5 (pc := 54) dX10_best_54 ?_
        refine fl_istore3 (pc := 56) rfl (by decide) dX10_best_56 ?_
        refine fl_iinc4 (pc := 57) rfl 1 (by decide) (by decide) dX10_best_57 ?_
        refine fm_goto (pc := 60) 25 (by decide) dX10_best_60 ?_
        refine fm_fgt [some (.ref 76), some (.int l1), some (.int l4), some (.int v2), some (.int (l4 + 1)), none] (by simp [fm_sub]) ?_
        exact ih _ _ _ _ h
      · replace h := fm_itn c45 h
        refine fm_goto (pc := 48) 57 (by decide) dX10_best_48 ?_
        refine fl_iinc4 (pc := 57) rfl 1 (by decide) (by decide) dX10_best_57 ?_
        refine fm_goto (pc := 60) 25 (by decide) dX10_best_60 ?_
        refine fm_fgt [some (.ref 76), some (.int l1), some (.int l2), some (.int l3), some (.int (l4 + 1)), none] (by simp [fm_sub]) ?_
        exact ih _ _ _ _ h
theorem sp_X10_best {d : Nat} {a1 : Int32} {M : fm_M} {x : Int32 × fm_M} {Q : Option Value → fm_M → Prop} (h : F_X10_best a1 M = some x) (hq : Q (some (.int x.1)) x.2) : fm_ct (d + 8) mX10_best [.ref 76, .int a1] M Q := by
  rw [F_X10_best] at h
  show fm_mw (d + 8) mX10_best Q 0 [some (.ref 76), some (.int a1), none, none, none, none] [] M
  refine fl_aload0 (pc := 0) dX10_best_0 ?_
  refine fm_iconstv (pc := 1) 0 (by decide) dX10_best_1 ?_
  refine fm_puti (pc := 2) lp_10_130 sh_76 rfl dX10_best_2 ?_
  obtain ⟨M1, eM1, h⟩ := fm_ltp h
  refine fm_cgm eM1 ?_
  refine fl_iload1 (pc := 5) dX10_best_5 ?_
  refine fm_if_lt (pc := 6) 14 (by decide) dX10_best_6 (fun c6 => ?_) (fun c6 => ?_)
  · replace h := fm_itp c6 h
    refine fm_iconstv (pc := 14) (-1) (by decide) dX10_best_14 ?_
    refine fm_iret (pc := 15) rfl ?_ dX10_best_15
    cases h
    exact hq
  · replace h := fm_itn c6 h
    refine fl_iload1 (pc := 9) dX10_best_9 ?_
    refine fm_iconstv (pc := 10) 1 (by decide) dX10_best_10 ?_
    refine fm_icmp_le (pc := 11) 16 (by decide) dX10_best_11 (fun c11 => ?_) (fun c11 => ?_)
    · replace h := fm_itp c11 h
      refine fm_bipushv (pc := 16) 100 (by decide) dX10_best_16 ?_
      refine fl_istore2 (pc := 18) rfl (by decide) dX10_best_18 ?_
      refine fm_iconstv (pc := 19) (-1) (by decide) dX10_best_19 ?_
      refine fl_istore3 (pc := 20) rfl (by decide) dX10_best_20 ?_
      refine fm_bipushv (pc := 21) 100 (by decide) dX10_best_21 ?_
      refine fl_istore4 (pc := 23) rfl (by decide) dX10_best_23 ?_
      obtain ⟨w4, M5, ew4, h⟩ := fm_bdp h
      refine lp_X10_best_25  ?_ _ _ _ _ _ ew4
      intro w49 M59 q9
      cases q9
      refine fl_iload1 (pc := 63) dX10_best_63 ?_
      refine fm_if_ne (pc := 64) 71 (by decide) dX10_best_64 (fun c64 => ?_) (fun c64 => ?_)
      · replace h := fm_itn c64 h
        refine fl_iload3 (pc := 71) dX10_best_71 ?_
        refine fm_iret (pc := 72) rfl ?_ dX10_best_72
        cases h
        exact hq
      · replace h := fm_itp c64 h
        refine fl_iload2 (pc := 67) dX10_best_67 ?_
        refine fm_goto (pc := 68) 72 (by decide) dX10_best_68 ?_
        refine fm_iret (pc := 72) rfl ?_ dX10_best_72
        cases h
        exact hq
    · replace h := fm_itn c11 h
      refine fm_iconstv (pc := 14) (-1) (by decide) dX10_best_14 ?_
      refine fm_iret (pc := 15) rfl ?_ dX10_best_15
      cases h
      exact hq
/-! X10_open -/
def G_X10_open_10 : Nat → Int32 → Int32 → fm_M → Option ((Int32 × Int32) × fm_M)
  | 0, _, _, _ => none
  | n + 1, l1, l2, M =>
    if 999 < l2 then (
      some ((l1, l2), M)
    ) else (
      fm_bd (F_X10_humAll 0 l2 M) (fun v2 M3 =>
      fm_bd (F_X10_passes 0 l2 v2 M3) (fun v4 M5 =>
      if v4 = 0 then (
        fm_lt ((l1 + 0)) (fun x6 =>
        G_X10_open_10 n x6 (l2 + 1) M5)
      ) else (
        fm_lt ((l1 + 1)) (fun x7 =>
        G_X10_open_10 n x7 (l2 + 1) M5)
      )))
    )
def F_X10_open  (M : fm_M) : Option (Int32 × fm_M) :=
    fm_lt (fm_up M 76 0 0) (fun M1 =>
    fm_bd (G_X10_open_10 fm_fuel 0 100 M1) (fun w8 M9 =>
      some (w8.1, M9)))
theorem lp_X10_open_10 {d : Nat} {Q : Option Value → fm_M → Prop}    {x : (Int32 × Int32) × fm_M} (k1 : ∀ (v : Int32 × Int32) (M2 : fm_M), x = (v, M2) → fm_mw (d + 8) mX10_open Q 46 [some (.ref 76), some (.int v.1), some (.int v.2)] [] M2) : ∀ (n : Nat) (l1 : Int32) (l2 : Int32) (M : fm_M), G_X10_open_10 n l1 l2 M = some x → fm_mw (d + 8) mX10_open Q 10 [some (.ref 76), some (.int l1), some (.int l2)] [] M := by
  intro n
  induction n with
  | zero => intro l1 l2 M h; simp [G_X10_open_10] at h
  | succ n ih =>
    intro l1 l2 M h
    rw [G_X10_open_10] at h
    refine fl_iload2 (pc := 10) dX10_open_10 ?_
    refine fm_sipushv (pc := 11) 999 (by decide) dX10_open_11 ?_
    refine fm_icmp_gt (pc := 14) 46 (by decide) dX10_open_14 (fun c14 => ?_) (fun c14 => ?_)
    · replace h := fm_itp c14 h
      refine fm_fgt [some (.ref 76), some (.int l1), some (.int l2)] (by simp [fm_sub]) ?_
      cases h
      exact k1 _ _ rfl
    · replace h := fm_itn c14 h
      refine fl_iload1 (pc := 17) dX10_open_17 ?_
      refine fl_aload0 (pc := 18) dX10_open_18 ?_
      refine fm_iconstv (pc := 19) 0 (by decide) dX10_open_19 ?_
      refine fl_iload2 (pc := 20) dX10_open_20 ?_
      refine fl_aload0 (pc := 21) dX10_open_21 ?_
      refine fm_iconstv (pc := 22) 0 (by decide) dX10_open_22 ?_
      refine fl_iload2 (pc := 23) dX10_open_23 ?_
      obtain ⟨v2, M3, ev2, h⟩ := fm_bdp h
      refine fm_callV (pc := 24) mX10_humAll [_, _] _ rfl cvX10_humAll ml_10_385 sh_76 rfl rfl (Nat.le_of_ble_eq_true rfl) (Nat.le_of_ble_eq_true rfl) dX10_open_24 ?_
      refine sp_X10_humAll ev2 ?_
      refine fm_ret1 ?_
      obtain ⟨v4, M5, ev4, h⟩ := fm_bdp h
      refine fm_callV (pc := 27) mX10_passes [_, _, _] _ rfl cvX10_passes ml_10_388 sh_76 rfl rfl (Nat.le_of_ble_eq_true rfl) (Nat.le_of_ble_eq_true rfl) dX10_open_27 ?_
      refine sp_X10_passes ev4 ?_
      refine fm_ret1 ?_
      refine fm_if_eq (pc := 30) 37 (by decide) dX10_open_30 (fun c30 => ?_) (fun c30 => ?_)
      · replace h := fm_itp c30 h
        refine fm_iconstv (pc := 37) 0 (by decide) dX10_open_37 ?_
        refine fm_iadd (pc := 38) dX10_open_38 ?_
        obtain ⟨x6, ex6, h⟩ := fm_ltp h
        refine fm_cgi ex6 ?_
        refine fl_istore1 (pc := 39) rfl (by decide) dX10_open_39 ?_
        refine fl_iinc2 (pc := 40) rfl 1 (by decide) (by decide) dX10_open_40 ?_
        refine fm_goto (pc := 43) 10 (by decide) dX10_open_43 ?_
        refine fm_fgt [some (.ref 76), some (.int x6), some (.int (l2 + 1))] (by simp [fm_sub]) ?_
        exact ih _ _ _ h
      · replace h := fm_itn c30 h
        refine fm_iconstv (pc := 33) 1 (by decide) dX10_open_33 ?_
        refine fm_goto (pc := 34) 38 (by decide) dX10_open_34 ?_
        refine fm_iadd (pc := 38) dX10_open_38 ?_
        obtain ⟨x7, ex7, h⟩ := fm_ltp h
        refine fm_cgi ex7 ?_
        refine fl_istore1 (pc := 39) rfl (by decide) dX10_open_39 ?_
        refine fl_iinc2 (pc := 40) rfl 1 (by decide) (by decide) dX10_open_40 ?_
        refine fm_goto (pc := 43) 10 (by decide) dX10_open_43 ?_
        refine fm_fgt [some (.ref 76), some (.int x7), some (.int (l2 + 1))] (by simp [fm_sub]) ?_
        exact ih _ _ _ h
theorem sp_X10_open {d : Nat}  {M : fm_M} {x : Int32 × fm_M} {Q : Option Value → fm_M → Prop} (h : F_X10_open  M = some x) (hq : Q (some (.int x.1)) x.2) : fm_ct (d + 8) mX10_open [.ref 76] M Q := by
  rw [F_X10_open] at h
  show fm_mw (d + 8) mX10_open Q 0 [some (.ref 76), none, none] [] M
  refine fl_aload0 (pc := 0) dX10_open_0 ?_
  refine fm_iconstv (pc := 1) 0 (by decide) dX10_open_1 ?_
  refine fm_puti (pc := 2) lp_10_130 sh_76 rfl dX10_open_2 ?_
  obtain ⟨M1, eM1, h⟩ := fm_ltp h
  refine fm_cgm eM1 ?_
  refine fm_iconstv (pc := 5) 0 (by decide) dX10_open_5 ?_
  refine fl_istore1 (pc := 6) rfl (by decide) dX10_open_6 ?_
  refine fm_bipushv (pc := 7) 100 (by decide) dX10_open_7 ?_
  refine fl_istore2 (pc := 9) rfl (by decide) dX10_open_9 ?_
  obtain ⟨w8, M9, ew8, h⟩ := fm_bdp h
  refine lp_X10_open_10  ?_ _ _ _ _ ew8
  intro w89 M99 q9
  cases q9
  refine fl_iload1 (pc := 46) dX10_open_46 ?_
  refine fm_iret (pc := 47) rfl ?_ dX10_open_47
  cases h
  exact hq
/-! X10_nines -/
def G_X10_nines_4 : Nat → Int32 → Int32 → Int32 → fm_M → Option ((Int32 × Int32) × fm_M)
  | 0, _, _, _, _ => none
  | n + 1, l0, l1, l2, M =>
    if l0 ≤ l2 then (
      some ((l1, l2), M)
    ) else (
      fm_lt ((l1 * 9)) (fun x1 =>
      G_X10_nines_4 n l0 x1 (l2 + 1) M)
    )
def F_X10_nines (a0 : Int32) (M : fm_M) : Option (Int32 × fm_M) :=
    fm_bd (G_X10_nines_4 fm_fuel a0 1 0 M) (fun w2 M3 =>
      some (w2.1, M3))
theorem lp_X10_nines_4 {d : Nat} {Q : Option Value → fm_M → Prop} {l0 : Int32}   {x : (Int32 × Int32) × fm_M} (k1 : ∀ (v : Int32 × Int32) (M2 : fm_M), x = (v, M2) → fm_mw d mX10_nines Q 20 [some (.int l0), some (.int v.1), some (.int v.2)] [] M2) : ∀ (n : Nat) (l1 : Int32) (l2 : Int32) (M : fm_M), G_X10_nines_4 n l0 l1 l2 M = some x → fm_mw d mX10_nines Q 4 [some (.int l0), some (.int l1), some (.int l2)] [] M := by
  intro n
  induction n with
  | zero => intro l1 l2 M h; simp [G_X10_nines_4] at h
  | succ n ih =>
    intro l1 l2 M h
    rw [G_X10_nines_4] at h
    refine fl_iload2 (pc := 4) dX10_nines_4 ?_
    refine fl_iload0 (pc := 5) dX10_nines_5 ?_
    refine fm_icmp_ge (pc := 6) 20 (by decide) dX10_nines_6 (fun c6 => ?_) (fun c6 => ?_)
    · replace h := fm_itp c6 h
      refine fm_fgt [some (.int l0), some (.int l1), some (.int l2)] (by simp [fm_sub]) ?_
      cases h
      exact k1 _ _ rfl
    · replace h := fm_itn c6 h
      refine fl_iload1 (pc := 9) dX10_nines_9 ?_
      refine fm_bipushv (pc := 10) 9 (by decide) dX10_nines_10 ?_
      refine fm_imul (pc := 12) dX10_nines_12 ?_
      obtain ⟨x1, ex1, h⟩ := fm_ltp h
      refine fm_cgi ex1 ?_
      refine fl_istore1 (pc := 13) rfl (by decide) dX10_nines_13 ?_
      refine fl_iinc2 (pc := 14) rfl 1 (by decide) (by decide) dX10_nines_14 ?_
      refine fm_goto (pc := 17) 4 (by decide) dX10_nines_17 ?_
      refine fm_fgt [some (.int l0), some (.int x1), some (.int (l2 + 1))] (by simp [fm_sub]) ?_
      exact ih _ _ _ h
theorem sp_X10_nines {d : Nat} {a0 : Int32} {M : fm_M} {x : Int32 × fm_M} {Q : Option Value → fm_M → Prop} (h : F_X10_nines a0 M = some x) (hq : Q (some (.int x.1)) x.2) : fm_ct d mX10_nines [.int a0] M Q := by
  rw [F_X10_nines] at h
  show fm_mw d mX10_nines Q 0 [some (.int a0), none, none] [] M
  refine fm_iconstv (pc := 0) 1 (by decide) dX10_nines_0 ?_
  refine fl_istore1 (pc := 1) rfl (by decide) dX10_nines_1 ?_
  refine fm_iconstv (pc := 2) 0 (by decide) dX10_nines_2 ?_
  refine fl_istore2 (pc := 3) rfl (by decide) dX10_nines_3 ?_
  obtain ⟨w2, M3, ew2, h⟩ := fm_bdp h
  refine lp_X10_nines_4  ?_ _ _ _ _ ew2
  intro w29 M39 q9
  cases q9
  refine fl_iload1 (pc := 20) dX10_nines_20 ?_
  refine fm_iret (pc := 21) rfl ?_ dX10_nines_21
  cases h
  exact hq
/-! X10_layFiled -/
def G_X10_layFiled_10 : Nat → Int32 → Int32 → Int32 → Int32 → fm_M → Option ((Int32) × fm_M)
  | 0, _, _, _, _, _ => none
  | n + 1, l1, l2, l3, l4, M =>
    if 9 ≤ l4 then (
      some (l4, M)
    ) else (
      fm_gd (fm_inb l3 184) (
      fm_lt ((((M.1 98 (Int32.toNatClampNeg l3)) + l4) - 4)) (fun x2 =>
      fm_bd (F_X10_isNote x2 M) (fun v3 M4 =>
      if v3 = 0 then (
        fm_gd (fm_inb ((9 * l3) + l4) 36) (
        fm_lt (fm_up M4 102 (Int32.toNatClampNeg ((9 * l3) + l4)) (-1)) (fun M14 =>
        G_X10_layFiled_10 n l1 l2 l3 (l4 + 1) M14))
      ) else (
        fm_bd (F_X10_isTouched 0 l3 M4) (fun v5 M6 =>
        if v5 = 0 then (
          fm_bd (F_X10_loudAt 0 l3 x2 l2 M6) (fun v7 M8 =>
          fm_gd (fm_inb ((9 * l3) + l4) 36) (
          fm_lt (fm_up M8 102 (Int32.toNatClampNeg ((9 * l3) + l4)) v7) (fun M10 =>
          G_X10_layFiled_10 n l1 l2 l3 (l4 + 1) M10)))
        ) else (
          fm_gd (fm_inb ((9 * l3) + l4) 36) (
          fm_lt (fm_up M6 102 (Int32.toNatClampNeg ((9 * l3) + l4)) 0) (fun M12 =>
          G_X10_layFiled_10 n l1 l2 l3 (l4 + 1) M12))
        ))
      ))))
    )
def G_X10_layFiled_2 : Nat → Int32 → Int32 → Int32 → fm_M → Option ((Int32) × fm_M)
  | 0, _, _, _, _ => none
  | n + 1, l1, l2, l3, M =>
    if l1 ≤ l3 then (
      some (l3, M)
    ) else (
      fm_bd (G_X10_layFiled_10 fm_fuel l1 l2 l3 0 M) (fun w15 M16 =>
        G_X10_layFiled_2 n l1 l2 (l3 + 1) M16)
    )
def F_X10_layFiled (a1 : Int32) (a2 : Int32) (M : fm_M) : Option (Unit × fm_M) :=
    fm_bd (G_X10_layFiled_2 fm_fuel a1 a2 0 M) (fun w17 M18 =>
      some ((), M18))
theorem lp_X10_layFiled_10 {d : Nat} {Q : Option Value → fm_M → Prop} {l1 : Int32} {l2 : Int32} {l3 : Int32}   {x : (Int32) × fm_M} (k1 : ∀ (v : Int32) (M2 : fm_M), x = (v, M2) → fm_mw (d + 6) mX10_layFiled Q 86 [some (.ref 76), some (.int l1), some (.int l2), some (.int l3), some (.int v), none, none] [] M2) : ∀ (n : Nat) (l4 : Int32) (M : fm_M), G_X10_layFiled_10 n l1 l2 l3 l4 M = some x → fm_mw (d + 6) mX10_layFiled Q 10 [some (.ref 76), some (.int l1), some (.int l2), some (.int l3), some (.int l4), none, none] [] M := by
  intro n
  induction n with
  | zero => intro l4 M h; simp [G_X10_layFiled_10] at h
  | succ n ih =>
    intro l4 M h
    rw [G_X10_layFiled_10] at h
    refine fl_iload4 (pc := 10) dX10_layFiled_10 ?_
    refine fm_bipushv (pc := 12) 9 (by decide) dX10_layFiled_12 ?_
    refine fm_icmp_ge (pc := 14) 86 (by decide) dX10_layFiled_14 (fun c14 => ?_) (fun c14 => ?_)
    · replace h := fm_itp c14 h
      refine fm_fgt [some (.ref 76), some (.int l1), some (.int l2), some (.int l3), some (.int l4), none, none] (by simp [fm_sub]) ?_
      cases h
      exact k1 _ _ rfl
    · replace h := fm_itn c14 h
      refine fl_aload0 (pc := 17) dX10_layFiled_17 ?_
      refine fm_getr (pc := 18) lk_10_78 sh_76 rfl dX10_layFiled_18 ?_
      refine fl_iload3 (pc := 21) dX10_layFiled_21 ?_
      obtain ⟨g1, h⟩ := fm_gdp h
      refine fm_iald (pc := 22) sh_98 (fm_inb_ok g1) dX10_layFiled_22 ?_
      refine fl_iload4 (pc := 23) dX10_layFiled_23 ?_
      refine fm_iadd (pc := 25) dX10_layFiled_25 ?_
      refine fm_iconstv (pc := 26) 4 (by decide) dX10_layFiled_26 ?_
      refine fm_isub (pc := 27) dX10_layFiled_27 ?_
      obtain ⟨x2, ex2, h⟩ := fm_ltp h
      refine fm_cgi ex2 ?_
      refine fl_istore5 (pc := 28) rfl (by decide) dX10_layFiled_28 ?_
      refine fl_iload5 (pc := 30) dX10_layFiled_30 ?_
      obtain ⟨v3, M4, ev3, h⟩ := fm_bdp h
      refine fm_callS (pc := 32) mX10_isNote [_] _ rfl csX10_isNote ml_10_407 rfl (Nat.le_of_ble_eq_true rfl) (Nat.le_of_ble_eq_true rfl) dX10_layFiled_32 ?_
      refine sp_X10_isNote ev3 ?_
      refine fm_ret1 ?_
      refine fl_istore6 (pc := 35) rfl (by decide) dX10_layFiled_35 ?_
      refine fl_aload0 (pc := 37) dX10_layFiled_37 ?_
      refine fm_getr (pc := 38) lk_10_99 sh_76 rfl dX10_layFiled_38 ?_
      refine fm_bipushv (pc := 41) 9 (by decide) dX10_layFiled_41 ?_
      refine fl_iload3 (pc := 43) dX10_layFiled_43 ?_
      refine fm_imul (pc := 44) dX10_layFiled_44 ?_
      refine fl_iload4 (pc := 45) dX10_layFiled_45 ?_
      refine fm_iadd (pc := 47) dX10_layFiled_47 ?_
      refine fl_iload6 (pc := 48) dX10_layFiled_48 ?_
      refine fm_if_ne (pc := 50) 57 (by decide) dX10_layFiled_50 (fun c50 => ?_) (fun c50 => ?_)
      · replace h := fm_itn c50 h
        refine fl_aload0 (pc := 57) dX10_layFiled_57 ?_
        refine fm_iconstv (pc := 58) 0 (by decide) dX10_layFiled_58 ?_
        refine fl_iload3 (pc := 59) dX10_layFiled_59 ?_
        obtain ⟨v5, M6, ev5, h⟩ := fm_bdp h
        refine fm_callV (pc := 60) mX10_isTouched [_, _] _ rfl cvX10_isTouched ml_10_374 sh_76 rfl rfl (Nat.le_of_ble_eq_true rfl) (Nat.le_of_ble_eq_true rfl) dX10_layFiled_60 ?_
        refine sp_X10_isTouched ev5 ?_
        refine fm_ret1 ?_
        refine fm_if_eq (pc := 63) 70 (by decide) dX10_layFiled_63 (fun c63 => ?_) (fun c63 => ?_)
        · replace h := fm_itp c63 h
          refine fl_aload0 (pc := 70) dX10_layFiled_70 ?_
          refine fm_iconstv (pc := 71) 0 (by decide) dX10_layFiled_71 ?_
          refine fl_iload3 (pc := 72) dX10_layFiled_72 ?_
          refine fl_iload5 (pc := 73) dX10_layFiled_73 ?_
          refine fl_iload2 (pc := 75) dX10_layFiled_75 ?_
          obtain ⟨v7, M8, ev7, h⟩ := fm_bdp h
          refine fm_callV (pc := 76) mX10_loudAt [_, _, _, _] _ rfl cvX10_loudAt ml_10_378 sh_76 rfl rfl (Nat.le_of_ble_eq_true rfl) (Nat.le_of_ble_eq_true rfl) dX10_layFiled_76 ?_
          refine sp_X10_loudAt ev7 ?_
          refine fm_ret1 ?_
          obtain ⟨g9, h⟩ := fm_gdp h
          refine fm_iast (pc := 79) sh_102 (fm_inb_ok g9) dX10_layFiled_79 ?_
          obtain ⟨M10, eM10, h⟩ := fm_ltp h
          refine fm_cgm eM10 ?_
          refine fl_iinc4 (pc := 80) rfl 1 (by decide) (by decide) dX10_layFiled_80 ?_
          refine fm_goto (pc := 83) 10 (by decide) dX10_layFiled_83 ?_
          refine fm_fgt [some (.ref 76), some (.int l1), some (.int l2), some (.int l3), some (.int (l4 + 1)), none, none] (by simp [fm_sub]) ?_
          exact ih _ _ h
        · replace h := fm_itn c63 h
          refine fm_iconstv (pc := 66) 0 (by decide) dX10_layFiled_66 ?_
          refine fm_goto (pc := 67) 79 (by decide) dX10_layFiled_67 ?_
          obtain ⟨g11, h⟩ := fm_gdp h
          refine fm_iast (pc := 79) sh_102 (fm_inb_ok g11) dX10_layFiled_79 ?_
          obtain ⟨M12, eM12, h⟩ := fm_ltp h
          refine fm_cgm eM12 ?_
          refine fl_iinc4 (pc := 80) rfl 1 (by decide) (by decide) dX10_layFiled_80 ?_
          refine fm_goto (pc := 83) 10 (by decide) dX10_layFiled_83 ?_
          refine fm_fgt [some (.ref 76), some (.int l1), some (.int l2), some (.int l3), some (.int (l4 + 1)), none, none] (by simp [fm_sub]) ?_
          exact ih _ _ h
      · replace h := fm_itp c50 h
        refine fm_iconstv (pc := 53) (-1) (by decide) dX10_layFiled_53 ?_
        refine fm_goto (pc := 54) 79 (by decide) dX10_layFiled_54 ?_
        obtain ⟨g13, h⟩ := fm_gdp h
        refine fm_iast (pc := 79) sh_102 (fm_inb_ok g13) dX10_layFiled_79 ?_
        obtain ⟨M14, eM14, h⟩ := fm_ltp h
        refine fm_cgm eM14 ?_
        refine fl_iinc4 (pc := 80) rfl 1 (by decide) (by decide) dX10_layFiled_80 ?_
        refine fm_goto (pc := 83) 10 (by decide) dX10_layFiled_83 ?_
        refine fm_fgt [some (.ref 76), some (.int l1), some (.int l2), some (.int l3), some (.int (l4 + 1)), none, none] (by simp [fm_sub]) ?_
        exact ih _ _ h
theorem lp_X10_layFiled_2 {d : Nat} {Q : Option Value → fm_M → Prop} {l1 : Int32} {l2 : Int32}   {x : (Int32) × fm_M} (k1 : ∀ (v : Int32) (M2 : fm_M), x = (v, M2) → fm_mw (d + 6) mX10_layFiled Q 92 [some (.ref 76), some (.int l1), some (.int l2), some (.int v), none, none, none] [] M2) : ∀ (n : Nat) (l3 : Int32) (M : fm_M), G_X10_layFiled_2 n l1 l2 l3 M = some x → fm_mw (d + 6) mX10_layFiled Q 2 [some (.ref 76), some (.int l1), some (.int l2), some (.int l3), none, none, none] [] M := by
  intro n
  induction n with
  | zero => intro l3 M h; simp [G_X10_layFiled_2] at h
  | succ n ih =>
    intro l3 M h
    rw [G_X10_layFiled_2] at h
    refine fl_iload3 (pc := 2) dX10_layFiled_2 ?_
    refine fl_iload1 (pc := 3) dX10_layFiled_3 ?_
    refine fm_icmp_ge (pc := 4) 92 (by decide) dX10_layFiled_4 (fun c4 => ?_) (fun c4 => ?_)
    · replace h := fm_itp c4 h
      refine fm_fgt [some (.ref 76), some (.int l1), some (.int l2), some (.int l3), none, none, none] (by simp [fm_sub]) ?_
      cases h
      exact k1 _ _ rfl
    · replace h := fm_itn c4 h
      refine fm_iconstv (pc := 7) 0 (by decide) dX10_layFiled_7 ?_
      refine fl_istore4 (pc := 8) rfl (by decide) dX10_layFiled_8 ?_
      obtain ⟨w15, M16, ew15, h⟩ := fm_bdp h
      refine lp_X10_layFiled_10  ?_ _ _ _ ew15
      intro w159 M169 q9
      cases q9
      refine fl_iinc3 (pc := 86) rfl 1 (by decide) (by decide) dX10_layFiled_86 ?_
      refine fm_goto (pc := 89) 2 (by decide) dX10_layFiled_89 ?_
      refine fm_fgt [some (.ref 76), some (.int l1), some (.int l2), some (.int (l3 + 1)), none, none, none] (by simp [fm_sub]) ?_
      exact ih _ _ h
theorem sp_X10_layFiled {d : Nat} {a1 : Int32} {a2 : Int32} {M : fm_M} {x : Unit × fm_M} {Q : Option Value → fm_M → Prop} (h : F_X10_layFiled a1 a2 M = some x) (hq : Q none x.2) : fm_ct (d + 6) mX10_layFiled [.ref 76, .int a1, .int a2] M Q := by
  rw [F_X10_layFiled] at h
  show fm_mw (d + 6) mX10_layFiled Q 0 [some (.ref 76), some (.int a1), some (.int a2), none, none, none, none] [] M
  refine fm_iconstv (pc := 0) 0 (by decide) dX10_layFiled_0 ?_
  refine fl_istore3 (pc := 1) rfl (by decide) dX10_layFiled_1 ?_
  obtain ⟨w17, M18, ew17, h⟩ := fm_bdp h
  refine lp_X10_layFiled_2  ?_ _ _ _ ew17
  intro w179 M189 q9
  cases q9
  refine fm_vret (pc := 92) rfl ?_ dX10_layFiled_92
  cases h
  exact hq
/-! X10_bribe -/
def G_X10_bribe_61 : Nat → Int32 → Int32 → Int32 → Int32 → Int32 → fm_M → Option ((Int32 × Int32) × fm_M)
  | 0, _, _, _, _, _, _ => none
  | n + 1, l1, l2, l3, l4, l5, M =>
    fm_gd (fm_inb 0 20) (
    if (M.1 78 (Int32.toNatClampNeg 0)) ≤ l5 then (
      some ((l4, l5), M)
    ) else (
      fm_bd (F_X10_humOf 0 l5 l1 M) (fun v9 M10 =>
      fm_lt ((l4 + v9)) (fun x11 =>
      G_X10_bribe_61 n l1 l2 l3 x11 (l5 + 1) M10))
    ))
def J_X10_bribe_169 (rec : Int32 → Int32 → Int32 → Int32 → fm_M → Option ((Int32 × Int32 × Int32 × Int32) × fm_M)) (l1 : Int32) (l2 : Int32) (l3 : Int32) (l4 : Int32) (l5 : Int32) (l6 : Int32) (l7 : Int32) (l8 : Int32) (l9 : Int32) (l10 : Int32) (l11 : Int32) (l12 : Int32) (s0 : Int32) (s1 : Int32) (M : fm_M) : Option ((Int32 × Int32 × Int32 × Int32) × fm_M) :=
    fm_lt ((s0 &&& s1)) (fun x21 =>
    fm_gd (fm_inb ((9 * l11) + l12) 36) (
    fm_lt ((l8 + (M.1 102 (Int32.toNatClampNeg ((9 * l11) + l12))))) (fun x23 =>
    fm_gd (fm_inb 5 20) (
    fm_lt ((l9 + ((M.1 78 (Int32.toNatClampNeg 5)) * (i_abs (l12 - 4))))) (fun x25 =>
    rec x23 x25 x21 (l11 + 1) M)))))
def G_X10_bribe_122 : Nat → Int32 → Int32 → Int32 → Int32 → Int32 → Int32 → Int32 → Int32 → Int32 → Int32 → Int32 → fm_M → Option ((Int32 × Int32 × Int32 × Int32) × fm_M)
  | 0, _, _, _, _, _, _, _, _, _, _, _, _ => none
  | n + 1, l1, l2, l3, l4, l5, l6, l7, l8, l9, l10, l11, M =>
    if l3 ≤ l11 then (
      some ((l8, l9, l10, l11), M)
    ) else (
      fm_bd (F_X10_nines ((l3 - 1) - l11) M) (fun v16 M17 =>
      fm_gd (fm_nz v16) (
      fm_lt ((i_rem (l7 / v16) 9)) (fun x19 =>
      fm_gd (fm_inb ((9 * l11) + x19) 36) (
      if (M17.1 102 (Int32.toNatClampNeg ((9 * l11) + x19))) = (-1) then (
        J_X10_bribe_169 (G_X10_bribe_122 n l1 l2 l3 l4 l5 l6 l7) l1 l2 l3 l4 l5 l6 l7 l8 l9 l10 l11 x19 l10 0 M17
      ) else (
        J_X10_bribe_169 (G_X10_bribe_122 n l1 l2 l3 l4 l5 l6 l7) l1 l2 l3 l4 l5 l6 l7 l8 l9 l10 l11 x19 l10 1 M17
      )))))
    )
def J_X10_bribe_233 (rec : Int32 → Int32 → Int32 → fm_M → Option ((Int32 × Int32 × Int32) × fm_M)) (l1 : Int32) (l2 : Int32) (l3 : Int32) (l4 : Int32) (l5 : Int32) (l6 : Int32) (l7 : Int32) (l8 : Int32) (l9 : Int32) (l10 : Int32) (l11 : Int32) (M : fm_M) : Option ((Int32 × Int32 × Int32) × fm_M) :=
    fm_bd (F_X10_passes 0 l1 l8 M) (fun v28 M29 =>
    if v28 = 0 then (
      rec l5 l6 (l7 + 1) M29
    ) else (
      rec l7 l9 (l7 + 1) M29
    ))
def G_X10_bribe_100 : Nat → Int32 → Int32 → Int32 → Int32 → Int32 → Int32 → Int32 → fm_M → Option ((Int32 × Int32 × Int32) × fm_M)
  | 0, _, _, _, _, _, _, _, _ => none
  | n + 1, l1, l2, l3, l4, l5, l6, l7, M =>
    fm_bd (F_X10_nines l3 M) (fun v14 M15 =>
    if v14 ≤ l7 then (
      some ((l5, l6, l7), M15)
    ) else (
      fm_bd (G_X10_bribe_122 fm_fuel l1 l2 l3 l4 l5 l6 l7 l4 0 1 0 M15) (fun w26 M27 =>
        if w26.2.2.1 = 0 then (
          G_X10_bribe_100 n l1 l2 l3 l4 l5 l6 (l7 + 1) M27
        ) else (
          if l5 = (-1) then (
            J_X10_bribe_233 (G_X10_bribe_100 n l1 l2 l3 l4) l1 l2 l3 l4 l5 l6 l7 w26.1 w26.2.1 w26.2.2.1 w26.2.2.2 M27
          ) else (
            if l6 ≤ w26.2.1 then (
              G_X10_bribe_100 n l1 l2 l3 l4 l5 l6 (l7 + 1) M27
            ) else (
              J_X10_bribe_233 (G_X10_bribe_100 n l1 l2 l3 l4) l1 l2 l3 l4 l5 l6 l7 w26.1 w26.2.1 w26.2.2.1 w26.2.2.2 M27
            )
          )
        ))
    ))
def J_X10_bribe_49 (l1 : Int32) (l2 : Int32) (l3 : Int32) (M : fm_M) : Option (Int32 × fm_M) :=
    fm_bd (F_X10_layFiled l3 l1 M) (fun v6 M7 =>
    fm_bd (G_X10_bribe_61 fm_fuel l1 l2 l3 0 l3 M7) (fun w12 M13 =>
      fm_bd (G_X10_bribe_100 fm_fuel l1 l2 l3 w12.1 (-1) 0 0 M13) (fun w30 M31 =>
        if w30.1 = (-1) then (
          some ((-8), M31)
        ) else (
          if l2 = 4 then (
            some (w30.2.1, M31)
          ) else (
            fm_bd (F_X10_nines ((l3 - 1) - l2) M31) (fun v32 M33 =>
            fm_gd (fm_nz v32) (
            some (((i_rem (w30.1 / v32) 9) - 4), M33)))
          )
        ))))
def F_X10_bribe (a1 : Int32) (a2 : Int32) (M : fm_M) : Option (Int32 × fm_M) :=
    fm_lt (fm_up M 76 0 0) (fun M1 =>
    fm_bd (F_X10_isNote a1 M1) (fun v2 M3 =>
    if v2 = 0 then (
      some ((-2147483648), M3)
    ) else (
      if a2 < 0 then (
        some ((-2147483648), M3)
      ) else (
        if a2 ≤ 4 then (
          fm_gd (fm_inb 0 20) (
          fm_lt ((i_min 4 (M3.1 78 (Int32.toNatClampNeg 0)))) (fun x5 =>
          if 4 ≤ a2 then (
            J_X10_bribe_49 a1 a2 x5 M3
          ) else (
            if a2 < x5 then (
              J_X10_bribe_49 a1 a2 x5 M3
            ) else (
              some ((-9), M3)
            )
          )))
        ) else (
          some ((-2147483648), M3)
        )
      )
    )))
theorem lp_X10_bribe_61 {d : Nat} {Q : Option Value → fm_M → Prop} {l1 : Int32} {l2 : Int32} {l3 : Int32}   {x : (Int32 × Int32) × fm_M} (k1 : ∀ (v : Int32 × Int32) (M2 : fm_M), x = (v, M2) → fm_mw (d + 7) mX10_bribe Q 91 [some (.ref 76), some (.int l1), some (.int l2), some (.int l3), some (.int v.1), some (.int v.2), none, none, none, none, none, none, none] [] M2) : ∀ (n : Nat) (l4 : Int32) (l5 : Int32) (M : fm_M), G_X10_bribe_61 n l1 l2 l3 l4 l5 M = some x → fm_mw (d + 7) mX10_bribe Q 61 [some (.ref 76), some (.int l1), some (.int l2), some (.int l3), some (.int l4), some (.int l5), none, none, none, none, none, none, none] [] M := by
  intro n
  induction n with
  | zero => intro l4 l5 M h; simp [G_X10_bribe_61] at h
  | succ n ih =>
    intro l4 l5 M h
    rw [G_X10_bribe_61] at h
    refine fl_iload5 (pc := 61) dX10_bribe_61 ?_
    refine fl_aload0 (pc := 63) dX10_bribe_63 ?_
    refine fm_getr (pc := 64) lk_10_13 sh_76 rfl dX10_bribe_64 ?_
    refine fm_iconstv (pc := 67) 0 (by decide) dX10_bribe_67 ?_
    obtain ⟨g8, h⟩ := fm_gdp h
    refine fm_iald (pc := 68) sh_78 (fm_inb_ok g8) dX10_bribe_68 ?_
    refine fm_icmp_ge (pc := 69) 91 (by decide) dX10_bribe_69 (fun c69 => ?_) (fun c69 => ?_)
    · replace h := fm_itp c69 h
      refine fm_fgt [some (.ref 76), some (.int l1), some (.int l2), some (.int l3), some (.int l4), some (.int l5), none, none, none, none, none, none, none] (by simp [fm_sub]) ?_
      cases h
      exact k1 _ _ rfl
    · replace h := fm_itn c69 h
      refine fl_iload4 (pc := 72) dX10_bribe_72 ?_
      refine fl_aload0 (pc := 74) dX10_bribe_74 ?_
      refine fm_iconstv (pc := 75) 0 (by decide) dX10_bribe_75 ?_
      refine fl_iload5 (pc := 76) dX10_bribe_76 ?_
      refine fl_iload1 (pc := 78) dX10_bribe_78 ?_
      obtain ⟨v9, M10, ev9, h⟩ := fm_bdp h
      refine fm_callV (pc := 79) mX10_humOf [_, _, _] _ rfl cvX10_humOf ml_10_382 sh_76 rfl rfl (Nat.le_of_ble_eq_true rfl) (Nat.le_of_ble_eq_true rfl) dX10_bribe_79 ?_
      refine sp_X10_humOf ev9 ?_
      refine fm_ret1 ?_
      refine fm_iadd (pc := 82) dX10_bribe_82 ?_
      obtain ⟨x11, ex11, h⟩ := fm_ltp h
      refine fm_cgi ex11 ?_
      refine fl_istore4 (pc := 83) rfl (by decide) dX10_bribe_83 ?_
      refine fl_iinc5 (pc := 85) rfl 1 (by decide) (by decide) dX10_bribe_85 ?_
      refine fm_goto (pc := 88) 61 (by decide) dX10_bribe_88 ?_
      refine fm_fgt [some (.ref 76), some (.int l1), some (.int l2), some (.int l3), some (.int x11), some (.int (l5 + 1)), none, none, none, none, none, none, none] (by simp [fm_sub]) ?_
      exact ih _ _ _ h
theorem jn_X10_bribe_169 {d : Nat} {Q : Option Value → fm_M → Prop} (rec : Int32 → Int32 → Int32 → Int32 → fm_M → Option ((Int32 × Int32 × Int32 × Int32) × fm_M))  (l1 : Int32) (l2 : Int32) (l3 : Int32) (l4 : Int32) (l5 : Int32) (l6 : Int32) (l7 : Int32) (l8 : Int32) (l9 : Int32) (l10 : Int32) (l11 : Int32) (l12 : Int32) (s0 : Int32) (s1 : Int32) {x : (Int32 × Int32 × Int32 × Int32) × fm_M}  (ih : ∀ (l8 : Int32) (l9 : Int32) (l10 : Int32) (l11 : Int32) (M : fm_M), rec l8 l9 l10 l11 M = some x → fm_mw (d + 7) mX10_bribe Q 122 [some (.ref 76), some (.int l1), some (.int l2), some (.int l3), some (.int l4), some (.int l5), some (.int l6), some (.int l7), some (.int l8), some (.int l9), some (.int l10), some (.int l11), none] [] M) (k1 : ∀ (v : Int32 × Int32 × Int32 × Int32) (M2 : fm_M), x = (v, M2) → fm_mw (d + 7) mX10_bribe Q 215 [some (.ref 76), some (.int l1), some (.int l2), some (.int l3), some (.int l4), some (.int l5), some (.int l6), some (.int l7), some (.int v.1), some (.int v.2.1), some (.int v.2.2.1), some (.int v.2.2.2), none] [] M2) (M : fm_M) (h : J_X10_bribe_169 rec l1 l2 l3 l4 l5 l6 l7 l8 l9 l10 l11 l12 s0 s1 M = some x) : fm_mw (d + 7) mX10_bribe Q 169 [some (.ref 76), some (.int l1), some (.int l2), some (.int l3), some (.int l4), some (.int l5), some (.int l6), some (.int l7), some (.int l8), some (.int l9), some (.int l10), some (.int l11), some (.int l12)] [(.int s1), (.int s0)] M := by
  rw [J_X10_bribe_169] at h
  refine fm_iand (pc := 169) dX10_bribe_169 ?_
  obtain ⟨x21, ex21, h⟩ := fm_ltp h
  refine fm_cgi ex21 ?_
  refine fl_istore10 (pc := 170) rfl (by decide) dX10_bribe_170 ?_
  refine fl_iload8 (pc := 172) dX10_bribe_172 ?_
  refine fl_aload0 (pc := 174) dX10_bribe_174 ?_
  refine fm_getr (pc := 175) lk_10_99 sh_76 rfl dX10_bribe_175 ?_
  refine fm_bipushv (pc := 178) 9 (by decide) dX10_bribe_178 ?_
  refine fl_iload11 (pc := 180) dX10_bribe_180 ?_
  refine fm_imul (pc := 182) dX10_bribe_182 ?_
  refine fl_iload12 (pc := 183) dX10_bribe_183 ?_
  refine fm_iadd (pc := 185) dX10_bribe_185 ?_
  obtain ⟨g22, h⟩ := fm_gdp h
  refine fm_iald (pc := 186) sh_102 (fm_inb_ok g22) dX10_bribe_186 ?_
  refine fm_iadd (pc := 187) dX10_bribe_187 ?_
  obtain ⟨x23, ex23, h⟩ := fm_ltp h
  refine fm_cgi ex23 ?_
  refine fl_istore8 (pc := 188) rfl (by decide) dX10_bribe_188 ?_
  refine fl_iload9 (pc := 190) dX10_bribe_190 ?_
  refine fl_aload0 (pc := 192) dX10_bribe_192 ?_
  refine fm_getr (pc := 193) lk_10_13 sh_76 rfl dX10_bribe_193 ?_
  refine fm_iconstv (pc := 196) 5 (by decide) dX10_bribe_196 ?_
  obtain ⟨g24, h⟩ := fm_gdp h
  refine fm_iald (pc := 197) sh_78 (fm_inb_ok g24) dX10_bribe_197 ?_
  refine fl_iload12 (pc := 198) dX10_bribe_198 ?_
  refine fm_iconstv (pc := 200) 4 (by decide) dX10_bribe_200 ?_
  refine fm_isub (pc := 201) dX10_bribe_201 ?_
  refine fq_mabs (pc := 202) ml_10_334 (Nat.le_of_ble_eq_true rfl) dX10_bribe_202 ?_
  refine fm_imul (pc := 205) dX10_bribe_205 ?_
  refine fm_iadd (pc := 206) dX10_bribe_206 ?_
  obtain ⟨x25, ex25, h⟩ := fm_ltp h
  refine fm_cgi ex25 ?_
  refine fl_istore9 (pc := 207) rfl (by decide) dX10_bribe_207 ?_
  refine fl_iinc11 (pc := 209) rfl 1 (by decide) (by decide) dX10_bribe_209 ?_
  refine fm_goto (pc := 212) 122 (by decide) dX10_bribe_212 ?_
  refine fm_fgt [some (.ref 76), some (.int l1), some (.int l2), some (.int l3), some (.int l4), some (.int l5), some (.int l6), some (.int l7), some (.int x23), some (.int x25), some (.int x21), some (.int (l11 + 1)), none] (by simp [fm_sub]) ?_
  exact ih _ _ _ _ _ h
theorem lp_X10_bribe_122 {d : Nat} {Q : Option Value → fm_M → Prop} {l1 : Int32} {l2 : Int32} {l3 : Int32} {l4 : Int32} {l5 : Int32} {l6 : Int32} {l7 : Int32}   {x : (Int32 × Int32 × Int32 × Int32) × fm_M} (k1 : ∀ (v : Int32 × Int32 × Int32 × Int32) (M2 : fm_M), x = (v, M2) → fm_mw (d + 7) mX10_bribe Q 215 [some (.ref 76), some (.int l1), some (.int l2), some (.int l3), some (.int l4), some (.int l5), some (.int l6), some (.int l7), some (.int v.1), some (.int v.2.1), some (.int v.2.2.1), some (.int v.2.2.2), none] [] M2) : ∀ (n : Nat) (l8 : Int32) (l9 : Int32) (l10 : Int32) (l11 : Int32) (M : fm_M), G_X10_bribe_122 n l1 l2 l3 l4 l5 l6 l7 l8 l9 l10 l11 M = some x → fm_mw (d + 7) mX10_bribe Q 122 [some (.ref 76), some (.int l1), some (.int l2), some (.int l3), some (.int l4), some (.int l5), some (.int l6), some (.int l7), some (.int l8), some (.int l9), some (.int l10), some (.int l11), none] [] M := by
  intro n
  induction n with
  | zero => intro l8 l9 l10 l11 M h; simp [G_X10_bribe_122] at h
  | succ n ih =>
    intro l8 l9 l10 l11 M h
    rw [G_X10_bribe_122] at h
    refine fl_iload11 (pc := 122) dX10_bribe_122 ?_
    refine fl_iload3 (pc := 124) dX10_bribe_124 ?_
    refine fm_icmp_ge (pc := 125) 215 (by decide) dX10_bribe_125 (fun c125 => ?_) (fun c125 => ?_)
    · replace h := fm_itp c125 h
      refine fm_fgt [some (.ref 76), some (.int l1), some (.int l2), some (.int l3), some (.int l4), some (.int l5), some (.int l6), some (.int l7), some (.int l8), some (.int l9), some (.int l10), some (.int l11), none] (by simp [fm_sub]) ?_
      cases h
      exact k1 _ _ rfl
    · replace h := fm_itn c125 h
      refine fl_iload7 (pc := 128) dX10_bribe_128 ?_
      refine fl_iload3 (pc := 130) dX10_bribe_130 ?_
      refine fm_iconstv (pc := 131) 1 (by decide) dX10_bribe_131 ?_
      refine fm_isub (pc := 132) dX10_bribe_132 ?_
      refine fl_iload11 (pc := 133) dX10_bribe_133 ?_
      refine fm_isub (pc := 135) dX10_bribe_135 ?_
      obtain ⟨v16, M17, ev16, h⟩ := fm_bdp h
      refine fm_callS (pc := 136) mX10_nines [_] _ rfl csX10_nines ml_10_435 rfl (Nat.le_of_ble_eq_true rfl) (Nat.le_of_ble_eq_true rfl) dX10_bribe_136 ?_
      refine sp_X10_nines ev16 ?_
      refine fm_ret1 ?_
      obtain ⟨g18, h⟩ := fm_gdp h
      refine fm_idiv (pc := 139) (fm_nz_ok g18) dX10_bribe_139 ?_
      refine fm_bipushv (pc := 140) 9 (by decide) dX10_bribe_140 ?_
      refine fq_irem (pc := 142) (by decide) dX10_bribe_142 ?_
      obtain ⟨x19, ex19, h⟩ := fm_ltp h
      refine fm_cgi ex19 ?_
      refine fl_istore12 (pc := 143) rfl (by decide) dX10_bribe_143 ?_
      refine fl_iload10 (pc := 145) dX10_bribe_145 ?_
      refine fl_aload0 (pc := 147) dX10_bribe_147 ?_
      refine fm_getr (pc := 148) lk_10_99 sh_76 rfl dX10_bribe_148 ?_
      refine fm_bipushv (pc := 151) 9 (by decide) dX10_bribe_151 ?_
      refine fl_iload11 (pc := 153) dX10_bribe_153 ?_
      refine fm_imul (pc := 155) dX10_bribe_155 ?_
      refine fl_iload12 (pc := 156) dX10_bribe_156 ?_
      refine fm_iadd (pc := 158) dX10_bribe_158 ?_
      obtain ⟨g20, h⟩ := fm_gdp h
      refine fm_iald (pc := 159) sh_102 (fm_inb_ok g20) dX10_bribe_159 ?_
      refine fm_iconstv (pc := 160) (-1) (by decide) dX10_bribe_160 ?_
      refine fm_icmp_eq (pc := 161) 168 (by decide) dX10_bribe_161 (fun c161 => ?_) (fun c161 => ?_)
      · replace h := fm_itp c161 h
        refine fm_iconstv (pc := 168) 0 (by decide) dX10_bribe_168 ?_
        exact jn_X10_bribe_169 _ _ _ _ _ _ _ _ _ _ _ _ _ _ _  ih k1 _ h
      · replace h := fm_itn c161 h
        refine fm_iconstv (pc := 164) 1 (by decide) dX10_bribe_164 ?_
        refine fm_goto (pc := 165) 169 (by decide) dX10_bribe_165 ?_
        exact jn_X10_bribe_169 _ _ _ _ _ _ _ _ _ _ _ _ _ _ _  ih k1 _ h
theorem jn_X10_bribe_233 {d : Nat} {Q : Option Value → fm_M → Prop} (rec : Int32 → Int32 → Int32 → fm_M → Option ((Int32 × Int32 × Int32) × fm_M))  (l1 : Int32) (l2 : Int32) (l3 : Int32) (l4 : Int32) (l5 : Int32) (l6 : Int32) (l7 : Int32) (l8 : Int32) (l9 : Int32) (l10 : Int32) (l11 : Int32) {x : (Int32 × Int32 × Int32) × fm_M}  (ih : ∀ (l5 : Int32) (l6 : Int32) (l7 : Int32) (M : fm_M), rec l5 l6 l7 M = some x → fm_mw (d + 7) mX10_bribe Q 100 [some (.ref 76), some (.int l1), some (.int l2), some (.int l3), some (.int l4), some (.int l5), some (.int l6), some (.int l7), none, none, none, none, none] [] M) (k1 : ∀ (v : Int32 × Int32 × Int32) (M2 : fm_M), x = (v, M2) → fm_mw (d + 7) mX10_bribe Q 261 [some (.ref 76), some (.int l1), some (.int l2), some (.int l3), some (.int l4), some (.int v.1), some (.int v.2.1), some (.int v.2.2), none, none, none, none, none] [] M2) (M : fm_M) (h : J_X10_bribe_233 rec l1 l2 l3 l4 l5 l6 l7 l8 l9 l10 l11 M = some x) : fm_mw (d + 7) mX10_bribe Q 233 [some (.ref 76), some (.int l1), some (.int l2), some (.int l3), some (.int l4), some (.int l5), some (.int l6), some (.int l7), some (.int l8), some (.int l9), some (.int l10), some (.int l11), none] [] M := by
  rw [J_X10_bribe_233] at h
  refine fl_aload0 (pc := 233) dX10_bribe_233 ?_
  refine fm_iconstv (pc := 234) 0 (by decide) dX10_bribe_234 ?_
  refine fl_iload1 (pc := 235) dX10_bribe_235 ?_
  refine fl_iload8 (pc := 236) dX10_bribe_236 ?_
  obtain ⟨v28, M29, ev28, h⟩ := fm_bdp h
  refine fm_callV (pc := 238) mX10_passes [_, _, _] _ rfl cvX10_passes ml_10_388 sh_76 rfl rfl (Nat.le_of_ble_eq_true rfl) (Nat.le_of_ble_eq_true rfl) dX10_bribe_238 ?_
  refine sp_X10_passes ev28 ?_
  refine fm_ret1 ?_
  refine fm_if_ne (pc := 241) 247 (by decide) dX10_bribe_241 (fun c241 => ?_) (fun c241 => ?_)
  · replace h := fm_itn c241 h
    refine fl_iload7 (pc := 247) dX10_bribe_247 ?_
    refine fl_istore5 (pc := 249) rfl (by decide) dX10_bribe_249 ?_
    refine fl_iload9 (pc := 251) dX10_bribe_251 ?_
    refine fl_istore6 (pc := 253) rfl (by decide) dX10_bribe_253 ?_
    refine fl_iinc7 (pc := 255) rfl 1 (by decide) (by decide) dX10_bribe_255 ?_
    refine fm_goto (pc := 258) 100 (by decide) dX10_bribe_258 ?_
    refine fm_fgt [some (.ref 76), some (.int l1), some (.int l2), some (.int l3), some (.int l4), some (.int l7), some (.int l9), some (.int (l7 + 1)), none, none, none, none, none] (by simp [fm_sub]) ?_
    exact ih _ _ _ _ h
  · replace h := fm_itp c241 h
    refine fm_goto (pc := 244) 255 (by decide) dX10_bribe_244 ?_
    refine fl_iinc7 (pc := 255) rfl 1 (by decide) (by decide) dX10_bribe_255 ?_
    refine fm_goto (pc := 258) 100 (by decide) dX10_bribe_258 ?_
    refine fm_fgt [some (.ref 76), some (.int l1), some (.int l2), some (.int l3), some (.int l4), some (.int l5), some (.int l6), some (.int (l7 + 1)), none, none, none, none, none] (by simp [fm_sub]) ?_
    exact ih _ _ _ _ h
theorem lp_X10_bribe_100 {d : Nat} {Q : Option Value → fm_M → Prop} {l1 : Int32} {l2 : Int32} {l3 : Int32} {l4 : Int32}   {x : (Int32 × Int32 × Int32) × fm_M} (k1 : ∀ (v : Int32 × Int32 × Int32) (M2 : fm_M), x = (v, M2) → fm_mw (d + 7) mX10_bribe Q 261 [some (.ref 76), some (.int l1), some (.int l2), some (.int l3), some (.int l4), some (.int v.1), some (.int v.2.1), some (.int v.2.2), none, none, none, none, none] [] M2) : ∀ (n : Nat) (l5 : Int32) (l6 : Int32) (l7 : Int32) (M : fm_M), G_X10_bribe_100 n l1 l2 l3 l4 l5 l6 l7 M = some x → fm_mw (d + 7) mX10_bribe Q 100 [some (.ref 76), some (.int l1), some (.int l2), some (.int l3), some (.int l4), some (.int l5), some (.int l6), some (.int l7), none, none, none, none, none] [] M := by
  intro n
  induction n with
  | zero => intro l5 l6 l7 M h; simp [G_X10_bribe_100] at h
  | succ n ih =>
    intro l5 l6 l7 M h
    rw [G_X10_bribe_100] at h
    refine fl_iload7 (pc := 100) dX10_bribe_100 ?_
    refine fl_iload3 (pc := 102) dX10_bribe_102 ?_
    obtain ⟨v14, M15, ev14, h⟩ := fm_bdp h
    refine fm_callS (pc := 103) mX10_nines [_] _ rfl csX10_nines ml_10_435 rfl (Nat.le_of_ble_eq_true rfl) (Nat.le_of_ble_eq_true rfl) dX10_bribe_103 ?_
    refine sp_X10_nines ev14 ?_
    refine fm_ret1 ?_
    refine fm_icmp_ge (pc := 106) 261 (by decide) dX10_bribe_106 (fun c106 => ?_) (fun c106 => ?_)
    · replace h := fm_itp c106 h
      refine fm_fgt [some (.ref 76), some (.int l1), some (.int l2), some (.int l3), some (.int l4), some (.int l5), some (.int l6), some (.int l7), none, none, none, none, none] (by simp [fm_sub]) ?_
      cases h
      exact k1 _ _ rfl
    · replace h := fm_itn c106 h
      refine fl_iload4 (pc := 109) dX10_bribe_109 ?_
      refine fl_istore8 (pc := 111) rfl (by decide) dX10_bribe_111 ?_
      refine fm_iconstv (pc := 113) 0 (by decide) dX10_bribe_113 ?_
      refine fl_istore9 (pc := 114) rfl (by decide) dX10_bribe_114 ?_
      refine fm_iconstv (pc := 116) 1 (by decide) dX10_bribe_116 ?_
      refine fl_istore10 (pc := 117) rfl (by decide) dX10_bribe_117 ?_
      refine fm_iconstv (pc := 119) 0 (by decide) dX10_bribe_119 ?_
      refine fl_istore11 (pc := 120) rfl (by decide) dX10_bribe_120 ?_
      obtain ⟨w26, M27, ew26, h⟩ := fm_bdp h
      refine lp_X10_bribe_122  ?_ _ _ _ _ _ _ ew26
      intro w269 M279 q9
      cases q9
      refine fl_iload10 (pc := 215) dX10_bribe_215 ?_
      refine fm_if_eq (pc := 217) 255 (by decide) dX10_bribe_217 (fun c217 => ?_) (fun c217 => ?_)
      · replace h := fm_itp c217 h
        refine fl_iinc7 (pc := 255) rfl 1 (by decide) (by decide) dX10_bribe_255 ?_
        refine fm_goto (pc := 258) 100 (by decide) dX10_bribe_258 ?_
        refine fm_fgt [some (.ref 76), some (.int l1), some (.int l2), some (.int l3), some (.int l4), some (.int l5), some (.int l6), some (.int (l7 + 1)), none, none, none, none, none] (by simp [fm_sub]) ?_
        exact ih _ _ _ _ h
      · replace h := fm_itn c217 h
        refine fl_iload5 (pc := 220) dX10_bribe_220 ?_
        refine fm_iconstv (pc := 222) (-1) (by decide) dX10_bribe_222 ?_
        refine fm_icmp_eq (pc := 223) 233 (by decide) dX10_bribe_223 (fun c223 => ?_) (fun c223 => ?_)
        · replace h := fm_itp c223 h
          exact jn_X10_bribe_233 _ _ _ _ _ _ _ _ _ _ _ _  ih k1 _ h
        · replace h := fm_itn c223 h
          refine fl_iload9 (pc := 226) dX10_bribe_226 ?_
          refine fl_iload6 (pc := 228) dX10_bribe_228 ?_
          refine fm_icmp_ge (pc := 230) 255 (by decide) dX10_bribe_230 (fun c230 => ?_) (fun c230 => ?_)
          · replace h := fm_itp c230 h
            refine fl_iinc7 (pc := 255) rfl 1 (by decide) (by decide) dX10_bribe_255 ?_
            refine fm_goto (pc := 258) 100 (by decide) dX10_bribe_258 ?_
            refine fm_fgt [some (.ref 76), some (.int l1), some (.int l2), some (.int l3), some (.int l4), some (.int l5), some (.int l6), some (.int (l7 + 1)), none, none, none, none, none] (by simp [fm_sub]) ?_
            exact ih _ _ _ _ h
          · replace h := fm_itn c230 h
            exact jn_X10_bribe_233 _ _ _ _ _ _ _ _ _ _ _ _  ih k1 _ h
theorem jn_X10_bribe_49 {d : Nat} {Q : Option Value → fm_M → Prop}  (l1 : Int32) (l2 : Int32) (l3 : Int32) {x : Int32 × fm_M}  (hq : Q (some (.int x.1)) x.2) (M : fm_M) (h : J_X10_bribe_49 l1 l2 l3 M = some x) : fm_mw (d + 7) mX10_bribe Q 49 [some (.ref 76), some (.int l1), some (.int l2), some (.int l3), none, none, none, none, none, none, none, none, none] [] M := by
  rw [J_X10_bribe_49] at h
  refine fl_aload0 (pc := 49) dX10_bribe_49 ?_
  refine fl_iload3 (pc := 50) dX10_bribe_50 ?_
  refine fl_iload1 (pc := 51) dX10_bribe_51 ?_
  obtain ⟨v6, M7, ev6, h⟩ := fm_bdp h
  refine fm_callV (pc := 52) mX10_layFiled [_, _] _ rfl cvX10_layFiled ml_10_432 sh_76 rfl rfl (Nat.le_of_ble_eq_true rfl) (Nat.le_of_ble_eq_true rfl) dX10_bribe_52 ?_
  refine sp_X10_layFiled ev6 ?_
  refine fm_ret0 ?_
  refine fm_iconstv (pc := 55) 0 (by decide) dX10_bribe_55 ?_
  refine fl_istore4 (pc := 56) rfl (by decide) dX10_bribe_56 ?_
  refine fl_iload3 (pc := 58) dX10_bribe_58 ?_
  refine fl_istore5 (pc := 59) rfl (by decide) dX10_bribe_59 ?_
  obtain ⟨w12, M13, ew12, h⟩ := fm_bdp h
  refine lp_X10_bribe_61  ?_ _ _ _ _ ew12
  intro w129 M139 q9
  cases q9
  refine fm_iconstv (pc := 91) (-1) (by decide) dX10_bribe_91 ?_
  refine fl_istore5 (pc := 92) rfl (by decide) dX10_bribe_92 ?_
  refine fm_iconstv (pc := 94) 0 (by decide) dX10_bribe_94 ?_
  refine fl_istore6 (pc := 95) rfl (by decide) dX10_bribe_95 ?_
  refine fm_iconstv (pc := 97) 0 (by decide) dX10_bribe_97 ?_
  refine fl_istore7 (pc := 98) rfl (by decide) dX10_bribe_98 ?_
  obtain ⟨w30, M31, ew30, h⟩ := fm_bdp h
  refine lp_X10_bribe_100  ?_ _ _ _ _ _ ew30
  intro w309 M319 q9
  cases q9
  refine fl_iload5 (pc := 261) dX10_bribe_261 ?_
  refine fm_iconstv (pc := 263) (-1) (by decide) dX10_bribe_263 ?_
  refine fm_icmp_ne (pc := 264) 270 (by decide) dX10_bribe_264 (fun c264 => ?_) (fun c264 => ?_)
  · replace h := fm_itn c264 h
    refine fl_iload2 (pc := 270) dX10_bribe_270 ?_
    refine fm_iconstv (pc := 271) 4 (by decide) dX10_bribe_271 ?_
    refine fm_icmp_ne (pc := 272) 280 (by decide) dX10_bribe_272 (fun c272 => ?_) (fun c272 => ?_)
    · replace h := fm_itn c272 h
      refine fl_iload5 (pc := 280) dX10_bribe_280 ?_
      refine fl_iload3 (pc := 282) dX10_bribe_282 ?_
      refine fm_iconstv (pc := 283) 1 (by decide) dX10_bribe_283 ?_
      refine fm_isub (pc := 284) dX10_bribe_284 ?_
      refine fl_iload2 (pc := 285) dX10_bribe_285 ?_
      refine fm_isub (pc := 286) dX10_bribe_286 ?_
      obtain ⟨v32, M33, ev32, h⟩ := fm_bdp h
      refine fm_callS (pc := 287) mX10_nines [_] _ rfl csX10_nines ml_10_435 rfl (Nat.le_of_ble_eq_true rfl) (Nat.le_of_ble_eq_true rfl) dX10_bribe_287 ?_
      refine sp_X10_nines ev32 ?_
      refine fm_ret1 ?_
      obtain ⟨g34, h⟩ := fm_gdp h
      refine fm_idiv (pc := 290) (fm_nz_ok g34) dX10_bribe_290 ?_
      refine fm_bipushv (pc := 291) 9 (by decide) dX10_bribe_291 ?_
      refine fq_irem (pc := 293) (by decide) dX10_bribe_293 ?_
      refine fm_iconstv (pc := 294) 4 (by decide) dX10_bribe_294 ?_
      refine fm_isub (pc := 295) dX10_bribe_295 ?_
      refine fm_iret (pc := 296) rfl ?_ dX10_bribe_296
      cases h
      exact hq
    · replace h := fm_itp c272 h
      refine fl_iload6 (pc := 275) dX10_bribe_275 ?_
      refine fm_goto (pc := 277) 296 (by decide) dX10_bribe_277 ?_
      refine fm_iret (pc := 296) rfl ?_ dX10_bribe_296
      cases h
      exact hq
  · replace h := fm_itp c264 h
    refine fm_bipushv (pc := 267) (-8) (by decide) dX10_bribe_267 ?_
    refine fm_iret (pc := 269) rfl ?_ dX10_bribe_269
    cases h
    exact hq
theorem sp_X10_bribe {d : Nat} {a1 : Int32} {a2 : Int32} {M : fm_M} {x : Int32 × fm_M} {Q : Option Value → fm_M → Prop} (h : F_X10_bribe a1 a2 M = some x) (hq : Q (some (.int x.1)) x.2) : fm_ct (d + 7) mX10_bribe [.ref 76, .int a1, .int a2] M Q := by
  rw [F_X10_bribe] at h
  show fm_mw (d + 7) mX10_bribe Q 0 [some (.ref 76), some (.int a1), some (.int a2), none, none, none, none, none, none, none, none, none, none] [] M
  refine fl_aload0 (pc := 0) dX10_bribe_0 ?_
  refine fm_iconstv (pc := 1) 0 (by decide) dX10_bribe_1 ?_
  refine fm_puti (pc := 2) lp_10_130 sh_76 rfl dX10_bribe_2 ?_
  obtain ⟨M1, eM1, h⟩ := fm_ltp h
  refine fm_cgm eM1 ?_
  refine fl_iload1 (pc := 5) dX10_bribe_5 ?_
  obtain ⟨v2, M3, ev2, h⟩ := fm_bdp h
  refine fm_callS (pc := 6) mX10_isNote [_] _ rfl csX10_isNote ml_10_407 rfl (Nat.le_of_ble_eq_true rfl) (Nat.le_of_ble_eq_true rfl) dX10_bribe_6 ?_
  refine sp_X10_isNote ev2 ?_
  refine fm_ret1 ?_
  refine fm_if_eq (pc := 9) 21 (by decide) dX10_bribe_9 (fun c9 => ?_) (fun c9 => ?_)
  · replace h := fm_itp c9 h
    refine fm_ldcw (pc := 21) kc_10_431 dX10_bribe_21 ?_
    refine fm_iret (pc := 24) rfl ?_ dX10_bribe_24
    cases h
    exact hq
  · replace h := fm_itn c9 h
    refine fl_iload2 (pc := 12) dX10_bribe_12 ?_
    refine fm_if_lt (pc := 13) 21 (by decide) dX10_bribe_13 (fun c13 => ?_) (fun c13 => ?_)
    · replace h := fm_itp c13 h
      refine fm_ldcw (pc := 21) kc_10_431 dX10_bribe_21 ?_
      refine fm_iret (pc := 24) rfl ?_ dX10_bribe_24
      cases h
      exact hq
    · replace h := fm_itn c13 h
      refine fl_iload2 (pc := 16) dX10_bribe_16 ?_
      refine fm_iconstv (pc := 17) 4 (by decide) dX10_bribe_17 ?_
      refine fm_icmp_le (pc := 18) 25 (by decide) dX10_bribe_18 (fun c18 => ?_) (fun c18 => ?_)
      · replace h := fm_itp c18 h
        refine fm_iconstv (pc := 25) 4 (by decide) dX10_bribe_25 ?_
        refine fl_aload0 (pc := 26) dX10_bribe_26 ?_
        refine fm_getr (pc := 27) lk_10_13 sh_76 rfl dX10_bribe_27 ?_
        refine fm_iconstv (pc := 30) 0 (by decide) dX10_bribe_30 ?_
        obtain ⟨g4, h⟩ := fm_gdp h
        refine fm_iald (pc := 31) sh_78 (fm_inb_ok g4) dX10_bribe_31 ?_
        refine fq_mmin (pc := 32) ml_10_336 (Nat.le_of_ble_eq_true rfl) dX10_bribe_32 ?_
        obtain ⟨x5, ex5, h⟩ := fm_ltp h
        refine fm_cgi ex5 ?_
        refine fl_istore3 (pc := 35) rfl (by decide) dX10_bribe_35 ?_
        refine fl_iload2 (pc := 36) dX10_bribe_36 ?_
        refine fm_iconstv (pc := 37) 4 (by decide) dX10_bribe_37 ?_
        refine fm_icmp_ge (pc := 38) 49 (by decide) dX10_bribe_38 (fun c38 => ?_) (fun c38 => ?_)
        · replace h := fm_itp c38 h
          exact jn_X10_bribe_49 _ _ _  hq _ h
        · replace h := fm_itn c38 h
          refine fl_iload2 (pc := 41) dX10_bribe_41 ?_
          refine fl_iload3 (pc := 42) dX10_bribe_42 ?_
          refine fm_icmp_lt (pc := 43) 49 (by decide) dX10_bribe_43 (fun c43 => ?_) (fun c43 => ?_)
          · replace h := fm_itp c43 h
            exact jn_X10_bribe_49 _ _ _  hq _ h
          · replace h := fm_itn c43 h
            refine fm_bipushv (pc := 46) (-9) (by decide) dX10_bribe_46 ?_
            refine fm_iret (pc := 48) rfl ?_ dX10_bribe_48
            cases h
            exact hq
      · replace h := fm_itn c18 h
        refine fm_ldcw (pc := 21) kc_10_431 dX10_bribe_21 ?_
        refine fm_iret (pc := 24) rfl ?_ dX10_bribe_24
        cases h
        exact hq
