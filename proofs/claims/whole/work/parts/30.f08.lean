/-! X10_passes -/
def J_X10_passes_45 (l1 : Int32) (l2 : Int32) (l3 : Int32) (M : fm_M) : Option (Int32 × fm_M) :=
    fm_gd (fm_inb 2 20) (
    if l3 < (M.1 78 (Int32.toNatClampNeg 2)) then (
      some (0, M)
    ) else (
      some (1, M)
    ))
def F_X10_passes (a1 : Int32) (a2 : Int32) (a3 : Int32) (M : fm_M) : Option (Int32 × fm_M) :=
    fm_bd (F_X10_calls a1 0 a2 0 a3 0 M) (fun v1 M2 =>
    fm_bd (F_X10_hasLaw 2 M2) (fun v3 M4 =>
    if v3 = 0 then (
      J_X10_passes_45 a1 a2 a3 M4
    ) else (
      fm_bd (F_X10_goes 2 M4) (fun v6 M7 =>
      if v6 = 0 then (
        J_X10_passes_45 a1 a2 a3 M7
      ) else (
        fm_gd (fm_inb 0 64) (
        if (lg_cmp (M7.2 93 (Int32.toNatClampNeg 0)) 0) = 0 then (
          some (0, M7)
        ) else (
          some (1, M7)
        ))
      ))
    )))
theorem jn_X10_passes_45 {d : Nat} {Q : Option Value → fm_M → Prop}  (l1 : Int32) (l2 : Int32) (l3 : Int32) {x : Int32 × fm_M}  (hq : Q (some (.int x.1)) x.2) (M : fm_M) (h : J_X10_passes_45 l1 l2 l3 M = some x) : fm_mw (d + 3) mX10_passes Q 45 [some (.ref 76), some (.int l1), some (.int l2), some (.int l3)] [] M := by
  rw [J_X10_passes_45] at h
  refine fl_iload3 (pc := 45) dX10_passes_45 ?_
  refine fl_aload0 (pc := 46) dX10_passes_46 ?_
  refine fm_getr (pc := 47) lk_10_13 sh_76 rfl dX10_passes_47 ?_
  refine fm_iconstv (pc := 50) 2 (by decide) dX10_passes_50 ?_
  obtain ⟨g5, h⟩ := fm_gdp h
  refine fm_iald (pc := 51) sh_78 (fm_inb_ok g5) dX10_passes_51 ?_
  refine fm_icmp_lt (pc := 52) 59 (by decide) dX10_passes_52 (fun c52 => ?_) (fun c52 => ?_)
  · replace h := fm_itp c52 h
    refine fm_iconstv (pc := 59) 0 (by decide) dX10_passes_59 ?_
    refine fm_zret (pc := 60) rfl (by decide) ?_ dX10_passes_60
    cases h
    exact hq
  · replace h := fm_itn c52 h
    refine fm_iconstv (pc := 55) 1 (by decide) dX10_passes_55 ?_
    refine fm_goto (pc := 56) 60 (by decide) dX10_passes_56 ?_
    refine fm_zret (pc := 60) rfl (by decide) ?_ dX10_passes_60
    cases h
    exact hq
theorem sp_X10_passes {d : Nat} {a1 : Int32} {a2 : Int32} {a3 : Int32} {M : fm_M} {x : Int32 × fm_M} {Q : Option Value → fm_M → Prop} (h : F_X10_passes a1 a2 a3 M = some x) (hq : Q (some (.int x.1)) x.2) : fm_ct (d + 3) mX10_passes [.ref 76, .int a1, .int a2, .int a3] M Q := by
  rw [F_X10_passes] at h
  show fm_mw (d + 3) mX10_passes Q 0 [some (.ref 76), some (.int a1), some (.int a2), some (.int a3)] [] M
  refine fl_aload0 (pc := 0) dX10_passes_0 ?_
  refine fl_iload1 (pc := 1) dX10_passes_1 ?_
  refine fm_iconstv (pc := 2) 0 (by decide) dX10_passes_2 ?_
  refine fl_iload2 (pc := 3) dX10_passes_3 ?_
  refine fm_iconstv (pc := 4) 0 (by decide) dX10_passes_4 ?_
  refine fl_iload3 (pc := 5) dX10_passes_5 ?_
  refine fm_iconstv (pc := 6) 0 (by decide) dX10_passes_6 ?_
  obtain ⟨v1, M2, ev1, h⟩ := fm_bdp h
  refine fm_callV (pc := 7) mX10_calls [_, _, _, _, _, _] _ rfl cvX10_calls ml_10_346 sh_76 rfl rfl (Nat.le_of_ble_eq_true rfl) (Nat.le_of_ble_eq_true rfl) dX10_passes_7 ?_
  refine sp_X10_calls ev1 ?_
  refine fm_ret0 ?_
  refine fl_aload0 (pc := 10) dX10_passes_10 ?_
  refine fm_iconstv (pc := 11) 2 (by decide) dX10_passes_11 ?_
  obtain ⟨v3, M4, ev3, h⟩ := fm_bdp h
  refine fm_callV (pc := 12) mX10_hasLaw [_] _ rfl cvX10_hasLaw ml_10_350 sh_76 rfl rfl (Nat.le_of_ble_eq_true rfl) (Nat.le_of_ble_eq_true rfl) dX10_passes_12 ?_
  refine sp_X10_hasLaw ev3 ?_
  refine fm_ret1 ?_
  refine fm_if_eq (pc := 15) 45 (by decide) dX10_passes_15 (fun c15 => ?_) (fun c15 => ?_)
  · replace h := fm_itp c15 h
    exact jn_X10_passes_45 _ _ _  hq _ h
  · replace h := fm_itn c15 h
    refine fl_aload0 (pc := 18) dX10_passes_18 ?_
    refine fm_iconstv (pc := 19) 2 (by decide) dX10_passes_19 ?_
    obtain ⟨v6, M7, ev6, h⟩ := fm_bdp h
    refine fm_callV (pc := 20) mX10_goes [_] _ rfl cvX10_goes ml_10_353 sh_76 rfl rfl (Nat.le_of_ble_eq_true rfl) (Nat.le_of_ble_eq_true rfl) dX10_passes_20 ?_
    refine sp_X10_goes ev6 ?_
    refine fm_ret1 ?_
    refine fm_if_eq (pc := 23) 45 (by decide) dX10_passes_23 (fun c23 => ?_) (fun c23 => ?_)
    · replace h := fm_itp c23 h
      exact jn_X10_passes_45 _ _ _  hq _ h
    · replace h := fm_itn c23 h
      refine fl_aload0 (pc := 26) dX10_passes_26 ?_
      refine fm_getr (pc := 27) lk_10_63 sh_76 rfl dX10_passes_27 ?_
      refine fm_iconstv (pc := 30) 0 (by decide) dX10_passes_30 ?_
      obtain ⟨g8, h⟩ := fm_gdp h
      refine fm_lald (pc := 31) sh_93 (fm_inb_ok g8) dX10_passes_31 ?_
      refine fm_lconstv (pc := 32) 0 (by decide) dX10_passes_32 ?_
      refine fm_lcmp (pc := 33) dX10_passes_33 ?_
      refine fm_if_eq (pc := 34) 41 (by decide) dX10_passes_34 (fun c34 => ?_) (fun c34 => ?_)
      · replace h := fm_itp c34 h
        refine fm_iconstv (pc := 41) 0 (by decide) dX10_passes_41 ?_
        refine fm_goto (pc := 42) 60 (by decide) dX10_passes_42 ?_
        refine fm_zret (pc := 60) rfl (by decide) ?_ dX10_passes_60
        cases h
        exact hq
      · replace h := fm_itn c34 h
        refine fm_iconstv (pc := 37) 1 (by decide) dX10_passes_37 ?_
        refine fm_goto (pc := 38) 60 (by decide) dX10_passes_38 ?_
        refine fm_zret (pc := 60) rfl (by decide) ?_ dX10_passes_60
        cases h
        exact hq
/-! X10_strikes -/
def F_X10_strikes (a1 : Int32) (a2 : Int32) (M : fm_M) : Option (Unit × fm_M) :=
    fm_lt (((10 * a1) + a2)) (fun x1 =>
    fm_gd (fm_inb a2 20) (
    fm_bd (F_X10_humAll a1 (M.1 85 (Int32.toNatClampNeg a2)) M) (fun v3 M4 =>
    fm_gd (fm_inb x1 230) (
    fm_lt (fm_up M4 101 (Int32.toNatClampNeg x1) v3) (fun M6 =>
    fm_gd (fm_inb a2 20) (
    fm_gd (fm_inb x1 230) (
    fm_bd (F_X10_passes a1 (M6.1 85 (Int32.toNatClampNeg a2)) (M6.1 101 (Int32.toNatClampNeg x1)) M6) (fun v9 M10 =>
    if v9 = 0 then (
      fm_gd (fm_inb x1 230) (
      fm_lt (fm_up M10 100 (Int32.toNatClampNeg x1) 0) (fun M12 =>
      some ((), M12)))
    ) else (
      fm_gd (fm_inb x1 230) (
      fm_lt (fm_up M10 100 (Int32.toNatClampNeg x1) 1) (fun M14 =>
      some ((), M14)))
    )))))))))
theorem sp_X10_strikes {d : Nat} {a1 : Int32} {a2 : Int32} {M : fm_M} {x : Unit × fm_M} {Q : Option Value → fm_M → Prop} (h : F_X10_strikes a1 a2 M = some x) (hq : Q none x.2) : fm_ct (d + 8) mX10_strikes [.ref 76, .int a1, .int a2] M Q := by
  rw [F_X10_strikes] at h
  show fm_mw (d + 8) mX10_strikes Q 0 [some (.ref 76), some (.int a1), some (.int a2), none] [] M
  refine fm_bipushv (pc := 0) 10 (by decide) dX10_strikes_0 ?_
  refine fl_iload1 (pc := 2) dX10_strikes_2 ?_
  refine fm_imul (pc := 3) dX10_strikes_3 ?_
  refine fl_iload2 (pc := 4) dX10_strikes_4 ?_
  refine fm_iadd (pc := 5) dX10_strikes_5 ?_
  obtain ⟨x1, ex1, h⟩ := fm_ltp h
  refine fm_cgi ex1 ?_
  refine fl_istore3 (pc := 6) rfl (by decide) dX10_strikes_6 ?_
  refine fl_aload0 (pc := 7) dX10_strikes_7 ?_
  refine fm_getr (pc := 8) lk_10_87 sh_76 rfl dX10_strikes_8 ?_
  refine fl_iload3 (pc := 11) dX10_strikes_11 ?_
  refine fl_aload0 (pc := 12) dX10_strikes_12 ?_
  refine fl_iload1 (pc := 13) dX10_strikes_13 ?_
  refine fl_aload0 (pc := 14) dX10_strikes_14 ?_
  refine fm_getr (pc := 15) lk_10_34 sh_76 rfl dX10_strikes_15 ?_
  refine fl_iload2 (pc := 18) dX10_strikes_18 ?_
  obtain ⟨g2, h⟩ := fm_gdp h
  refine fm_iald (pc := 19) sh_85 (fm_inb_ok g2) dX10_strikes_19 ?_
  obtain ⟨v3, M4, ev3, h⟩ := fm_bdp h
  refine fm_callV (pc := 20) mX10_humAll [_, _] _ rfl cvX10_humAll ml_10_385 sh_76 rfl rfl (Nat.le_of_ble_eq_true rfl) (Nat.le_of_ble_eq_true rfl) dX10_strikes_20 ?_
  refine sp_X10_humAll ev3 ?_
  refine fm_ret1 ?_
  obtain ⟨g5, h⟩ := fm_gdp h
  refine fm_iast (pc := 23) sh_101 (fm_inb_ok g5) dX10_strikes_23 ?_
  obtain ⟨M6, eM6, h⟩ := fm_ltp h
  refine fm_cgm eM6 ?_
  refine fl_aload0 (pc := 24) dX10_strikes_24 ?_
  refine fm_getr (pc := 25) lk_10_84 sh_76 rfl dX10_strikes_25 ?_
  refine fl_iload3 (pc := 28) dX10_strikes_28 ?_
  refine fl_aload0 (pc := 29) dX10_strikes_29 ?_
  refine fl_iload1 (pc := 30) dX10_strikes_30 ?_
  refine fl_aload0 (pc := 31) dX10_strikes_31 ?_
  refine fm_getr (pc := 32) lk_10_34 sh_76 rfl dX10_strikes_32 ?_
  refine fl_iload2 (pc := 35) dX10_strikes_35 ?_
  obtain ⟨g7, h⟩ := fm_gdp h
  refine fm_iald (pc := 36) sh_85 (fm_inb_ok g7) dX10_strikes_36 ?_
  refine fl_aload0 (pc := 37) dX10_strikes_37 ?_
  refine fm_getr (pc := 38) lk_10_87 sh_76 rfl dX10_strikes_38 ?_
  refine fl_iload3 (pc := 41) dX10_strikes_41 ?_
  obtain ⟨g8, h⟩ := fm_gdp h
  refine fm_iald (pc := 42) sh_101 (fm_inb_ok g8) dX10_strikes_42 ?_
  obtain ⟨v9, M10, ev9, h⟩ := fm_bdp h
  refine fm_callV (pc := 43) mX10_passes [_, _, _] _ rfl cvX10_passes ml_10_388 sh_76 rfl rfl (Nat.le_of_ble_eq_true rfl) (Nat.le_of_ble_eq_true rfl) dX10_strikes_43 ?_
  refine sp_X10_passes ev9 ?_
  refine fm_ret1 ?_
  refine fm_if_eq (pc := 46) 53 (by decide) dX10_strikes_46 (fun c46 => ?_) (fun c46 => ?_)
  · replace h := fm_itp c46 h
    refine fm_iconstv (pc := 53) 0 (by decide) dX10_strikes_53 ?_
    obtain ⟨g11, h⟩ := fm_gdp h
    refine fm_iast (pc := 54) sh_100 (fm_inb_ok g11) dX10_strikes_54 ?_
    obtain ⟨M12, eM12, h⟩ := fm_ltp h
    refine fm_cgm eM12 ?_
    refine fm_vret (pc := 55) rfl ?_ dX10_strikes_55
    cases h
    exact hq
  · replace h := fm_itn c46 h
    refine fm_iconstv (pc := 49) 1 (by decide) dX10_strikes_49 ?_
    refine fm_goto (pc := 50) 54 (by decide) dX10_strikes_50 ?_
    obtain ⟨g13, h⟩ := fm_gdp h
    refine fm_iast (pc := 54) sh_100 (fm_inb_ok g13) dX10_strikes_54 ?_
    obtain ⟨M14, eM14, h⟩ := fm_ltp h
    refine fm_cgm eM14 ?_
    refine fm_vret (pc := 55) rfl ?_ dX10_strikes_55
    cases h
    exact hq
/-! X10_dayGoes -/
def G_X10_dayGoes_2 : Nat → Int32 → Int32 → fm_M → Option ((Int32) × fm_M)
  | 0, _, _, _ => none
  | n + 1, l1, l2, M =>
    fm_gd (fm_inb 1 20) (
    if (M.1 78 (Int32.toNatClampNeg 1)) ≤ l2 then (
      some (l2, M)
    ) else (
      fm_lt (((10 * l1) + l2)) (fun x2 =>
      fm_gd (fm_inb x2 230) (
      if (M.1 100 (Int32.toNatClampNeg x2)) = (-1) then (
        fm_gd (fm_inb x2 230) (
        fm_gd (fm_inb l1 23) (
        if (M.1 99 (Int32.toNatClampNeg x2)) = (M.1 94 (Int32.toNatClampNeg l1)) then (
          fm_bd (F_X10_strikes l1 l2 M) (fun v6 M7 =>
          G_X10_dayGoes_2 n l1 (l2 + 1) M7)
        ) else (
          G_X10_dayGoes_2 n l1 (l2 + 1) M
        )))
      ) else (
        G_X10_dayGoes_2 n l1 (l2 + 1) M
      )))
    ))
def G_X10_dayGoes_58 : Nat → Int32 → Int32 → fm_M → Option ((Int32) × fm_M)
  | 0, _, _, _ => none
  | n + 1, l1, l2, M =>
    fm_gd (fm_inb 0 20) (
    if (M.1 78 (Int32.toNatClampNeg 0)) ≤ l2 then (
      some (l2, M)
    ) else (
      if (M.1 76 43) = 3 then (
        some (l2, M)
      ) else (
        fm_bd (F_X10_callsRust l1 l2 M) (fun v11 M12 =>
        fm_lt (((8 * l1) + l2)) (fun x13 =>
        fm_gd (fm_inb x13 184) (
        fm_gd (fm_inb 6 20) (
        fm_bd (F_X10_within 1 9 (M12.1 78 (Int32.toNatClampNeg 6)) M12) (fun v16 M17 =>
        fm_gd (fm_inb x13 184) (
        fm_lt (fm_up M17 98 (Int32.toNatClampNeg x13) (i_max 100 ((M12.1 98 (Int32.toNatClampNeg x13)) - v16))) (fun M19 =>
        G_X10_dayGoes_58 n l1 (l2 + 1) M19)))))))
      )
    ))
def F_X10_dayGoes (a1 : Int32) (M : fm_M) : Option (Unit × fm_M) :=
    fm_bd (G_X10_dayGoes_2 fm_fuel a1 0 M) (fun w8 M9 =>
      fm_bd (G_X10_dayGoes_58 fm_fuel a1 0 M9) (fun w20 M21 =>
        fm_gd (fm_inb a1 23) (
        fm_lt (fm_up M21 97 (Int32.toNatClampNeg a1) 0) (fun M23 =>
        fm_gd (fm_inb a1 23) (
        fm_gd (fm_inb a1 23) (
        fm_lt (fm_up M23 94 (Int32.toNatClampNeg a1) ((M23.1 94 (Int32.toNatClampNeg a1)) + 1)) (fun M26 =>
        some ((), M26))))))))
theorem lp_X10_dayGoes_2 {d : Nat} {Q : Option Value → fm_M → Prop} {l1 : Int32}   {x : (Int32) × fm_M} (k1 : ∀ (v : Int32) (M2 : fm_M), x = (v, M2) → fm_mw (d + 9) mX10_dayGoes Q 56 [some (.ref 76), some (.int l1), some (.int v), none] [] M2) : ∀ (n : Nat) (l2 : Int32) (M : fm_M), G_X10_dayGoes_2 n l1 l2 M = some x → fm_mw (d + 9) mX10_dayGoes Q 2 [some (.ref 76), some (.int l1), some (.int l2), none] [] M := by
  intro n
  induction n with
  | zero => intro l2 M h; simp [G_X10_dayGoes_2] at h
  | succ n ih =>
    intro l2 M h
    rw [G_X10_dayGoes_2] at h
    refine fl_iload2 (pc := 2) dX10_dayGoes_2 ?_
    refine fl_aload0 (pc := 3) dX10_dayGoes_3 ?_
    refine fm_getr (pc := 4) lk_10_13 sh_76 rfl dX10_dayGoes_4 ?_
    refine fm_iconstv (pc := 7) 1 (by decide) dX10_dayGoes_7 ?_
    obtain ⟨g1, h⟩ := fm_gdp h
    refine fm_iald (pc := 8) sh_78 (fm_inb_ok g1) dX10_dayGoes_8 ?_
    refine fm_icmp_ge (pc := 9) 56 (by decide) dX10_dayGoes_9 (fun c9 => ?_) (fun c9 => ?_)
    · replace h := fm_itp c9 h
      refine fm_fgt [some (.ref 76), some (.int l1), some (.int l2), none] (by simp [fm_sub]) ?_
      cases h
      exact k1 _ _ rfl
    · replace h := fm_itn c9 h
      refine fm_bipushv (pc := 12) 10 (by decide) dX10_dayGoes_12 ?_
      refine fl_iload1 (pc := 14) dX10_dayGoes_14 ?_
      refine fm_imul (pc := 15) dX10_dayGoes_15 ?_
      refine fl_iload2 (pc := 16) dX10_dayGoes_16 ?_
      refine fm_iadd (pc := 17) dX10_dayGoes_17 ?_
      obtain ⟨x2, ex2, h⟩ := fm_ltp h
      refine fm_cgi ex2 ?_
      refine fl_istore3 (pc := 18) rfl (by decide) dX10_dayGoes_18 ?_
      refine fl_aload0 (pc := 19) dX10_dayGoes_19 ?_
      refine fm_getr (pc := 20) lk_10_84 sh_76 rfl dX10_dayGoes_20 ?_
      refine fl_iload3 (pc := 23) dX10_dayGoes_23 ?_
      obtain ⟨g3, h⟩ := fm_gdp h
      refine fm_iald (pc := 24) sh_100 (fm_inb_ok g3) dX10_dayGoes_24 ?_
      refine fm_iconstv (pc := 25) (-1) (by decide) dX10_dayGoes_25 ?_
      refine fm_icmp_ne (pc := 26) 50 (by decide) dX10_dayGoes_26 (fun c26 => ?_) (fun c26 => ?_)
      · replace h := fm_itn c26 h
        refine fl_iinc2 (pc := 50) rfl 1 (by decide) (by decide) dX10_dayGoes_50 ?_
        refine fm_goto (pc := 53) 2 (by decide) dX10_dayGoes_53 ?_
        refine fm_fgt [some (.ref 76), some (.int l1), some (.int (l2 + 1)), none] (by simp [fm_sub]) ?_
        exact ih _ _ h
      · replace h := fm_itp c26 h
        refine fl_aload0 (pc := 29) dX10_dayGoes_29 ?_
        refine fm_getr (pc := 30) lk_10_81 sh_76 rfl dX10_dayGoes_30 ?_
        refine fl_iload3 (pc := 33) dX10_dayGoes_33 ?_
        obtain ⟨g4, h⟩ := fm_gdp h
        refine fm_iald (pc := 34) sh_99 (fm_inb_ok g4) dX10_dayGoes_34 ?_
        refine fl_aload0 (pc := 35) dX10_dayGoes_35 ?_
        refine fm_getr (pc := 36) lk_10_66 sh_76 rfl dX10_dayGoes_36 ?_
        refine fl_iload1 (pc := 39) dX10_dayGoes_39 ?_
        obtain ⟨g5, h⟩ := fm_gdp h
        refine fm_iald (pc := 40) sh_94 (fm_inb_ok g5) dX10_dayGoes_40 ?_
        refine fm_icmp_ne (pc := 41) 50 (by decide) dX10_dayGoes_41 (fun c41 => ?_) (fun c41 => ?_)
        · replace h := fm_itn c41 h
          refine fl_iinc2 (pc := 50) rfl 1 (by decide) (by decide) dX10_dayGoes_50 ?_
          refine fm_goto (pc := 53) 2 (by decide) dX10_dayGoes_53 ?_
          refine fm_fgt [some (.ref 76), some (.int l1), some (.int (l2 + 1)), none] (by simp [fm_sub]) ?_
          exact ih _ _ h
        · replace h := fm_itp c41 h
          refine fl_aload0 (pc := 44) dX10_dayGoes_44 ?_
          refine fl_iload1 (pc := 45) dX10_dayGoes_45 ?_
          refine fl_iload2 (pc := 46) dX10_dayGoes_46 ?_
          obtain ⟨v6, M7, ev6, h⟩ := fm_bdp h
          refine fm_callV (pc := 47) mX10_strikes [_, _] _ rfl cvX10_strikes ml_10_392 sh_76 rfl rfl (Nat.le_of_ble_eq_true rfl) (Nat.le_of_ble_eq_true rfl) dX10_dayGoes_47 ?_
          refine sp_X10_strikes ev6 ?_
          refine fm_ret0 ?_
          refine fl_iinc2 (pc := 50) rfl 1 (by decide) (by decide) dX10_dayGoes_50 ?_
          refine fm_goto (pc := 53) 2 (by decide) dX10_dayGoes_53 ?_
          refine fm_fgt [some (.ref 76), some (.int l1), some (.int (l2 + 1)), none] (by simp [fm_sub]) ?_
          exact ih _ _ h
theorem lp_X10_dayGoes_58 {d : Nat} {Q : Option Value → fm_M → Prop} {l1 : Int32}   {x : (Int32) × fm_M} (k1 : ∀ (v : Int32) (M2 : fm_M), x = (v, M2) → fm_mw (d + 9) mX10_dayGoes Q 127 [some (.ref 76), some (.int l1), some (.int v), none] [] M2) : ∀ (n : Nat) (l2 : Int32) (M : fm_M), G_X10_dayGoes_58 n l1 l2 M = some x → fm_mw (d + 9) mX10_dayGoes Q 58 [some (.ref 76), some (.int l1), some (.int l2), none] [] M := by
  intro n
  induction n with
  | zero => intro l2 M h; simp [G_X10_dayGoes_58] at h
  | succ n ih =>
    intro l2 M h
    rw [G_X10_dayGoes_58] at h
    refine fl_iload2 (pc := 58) dX10_dayGoes_58 ?_
    refine fl_aload0 (pc := 59) dX10_dayGoes_59 ?_
    refine fm_getr (pc := 60) lk_10_13 sh_76 rfl dX10_dayGoes_60 ?_
    refine fm_iconstv (pc := 63) 0 (by decide) dX10_dayGoes_63 ?_
    obtain ⟨g10, h⟩ := fm_gdp h
    refine fm_iald (pc := 64) sh_78 (fm_inb_ok g10) dX10_dayGoes_64 ?_
    refine fm_icmp_ge (pc := 65) 127 (by decide) dX10_dayGoes_65 (fun c65 => ?_) (fun c65 => ?_)
    · replace h := fm_itp c65 h
      refine fm_fgt [some (.ref 76), some (.int l1), some (.int l2), none] (by simp [fm_sub]) ?_
      cases h
      exact k1 _ _ rfl
    · replace h := fm_itn c65 h
      refine fl_aload0 (pc := 68) dX10_dayGoes_68 ?_
      refine fm_geti (pc := 69) lk_10_316 sh_76 rfl dX10_dayGoes_69 ?_
      refine fm_iconstv (pc := 72) 3 (by decide) dX10_dayGoes_72 ?_
      refine fm_icmp_eq (pc := 73) 127 (by decide) dX10_dayGoes_73 (fun c73 => ?_) (fun c73 => ?_)
      · replace h := fm_itp c73 h
        refine fm_fgt [some (.ref 76), some (.int l1), some (.int l2), none] (by simp [fm_sub]) ?_
        cases h
        exact k1 _ _ rfl
      · replace h := fm_itn c73 h
        refine fl_aload0 (pc := 76) dX10_dayGoes_76 ?_
        refine fl_iload1 (pc := 77) dX10_dayGoes_77 ?_
        refine fl_iload2 (pc := 78) dX10_dayGoes_78 ?_
        obtain ⟨v11, M12, ev11, h⟩ := fm_bdp h
        refine fm_callV (pc := 79) mX10_callsRust [_, _] _ rfl cvX10_callsRust ml_10_395 sh_76 rfl rfl (Nat.le_of_ble_eq_true rfl) (Nat.le_of_ble_eq_true rfl) dX10_dayGoes_79 ?_
        refine sp_X10_callsRust ev11 ?_
        refine fm_ret0 ?_
        refine fm_bipushv (pc := 82) 8 (by decide) dX10_dayGoes_82 ?_
        refine fl_iload1 (pc := 84) dX10_dayGoes_84 ?_
        refine fm_imul (pc := 85) dX10_dayGoes_85 ?_
        refine fl_iload2 (pc := 86) dX10_dayGoes_86 ?_
        refine fm_iadd (pc := 87) dX10_dayGoes_87 ?_
        obtain ⟨x13, ex13, h⟩ := fm_ltp h
        refine fm_cgi ex13 ?_
        refine fl_istore3 (pc := 88) rfl (by decide) dX10_dayGoes_88 ?_
        refine fl_aload0 (pc := 89) dX10_dayGoes_89 ?_
        refine fm_getr (pc := 90) lk_10_78 sh_76 rfl dX10_dayGoes_90 ?_
        refine fl_iload3 (pc := 93) dX10_dayGoes_93 ?_
        refine fm_bipushv (pc := 94) 100 (by decide) dX10_dayGoes_94 ?_
        refine fl_aload0 (pc := 96) dX10_dayGoes_96 ?_
        refine fm_getr (pc := 97) lk_10_78 sh_76 rfl dX10_dayGoes_97 ?_
        refine fl_iload3 (pc := 100) dX10_dayGoes_100 ?_
        obtain ⟨g14, h⟩ := fm_gdp h
        refine fm_iald (pc := 101) sh_98 (fm_inb_ok g14) dX10_dayGoes_101 ?_
        refine fl_aload0 (pc := 102) dX10_dayGoes_102 ?_
        refine fm_iconstv (pc := 103) 1 (by decide) dX10_dayGoes_103 ?_
        refine fm_bipushv (pc := 104) 9 (by decide) dX10_dayGoes_104 ?_
        refine fl_aload0 (pc := 106) dX10_dayGoes_106 ?_
        refine fm_getr (pc := 107) lk_10_13 sh_76 rfl dX10_dayGoes_107 ?_
        refine fm_bipushv (pc := 110) 6 (by decide) dX10_dayGoes_110 ?_
        obtain ⟨g15, h⟩ := fm_gdp h
        refine fm_iald (pc := 112) sh_78 (fm_inb_ok g15) dX10_dayGoes_112 ?_
        obtain ⟨v16, M17, ev16, h⟩ := fm_bdp h
        refine fm_callV (pc := 113) mX10_within [_, _, _] _ rfl cvX10_within ml_10_368 sh_76 rfl rfl (Nat.le_of_ble_eq_true rfl) (Nat.le_of_ble_eq_true rfl) dX10_dayGoes_113 ?_
        refine sp_X10_within ev16 ?_
        refine fm_ret1 ?_
        refine fm_isub (pc := 116) dX10_dayGoes_116 ?_
        refine fq_mmax (pc := 117) ml_10_328 (Nat.le_of_ble_eq_true rfl) dX10_dayGoes_117 ?_
        obtain ⟨g18, h⟩ := fm_gdp h
        refine fm_iast (pc := 120) sh_98 (fm_inb_ok g18) dX10_dayGoes_120 ?_
        obtain ⟨M19, eM19, h⟩ := fm_ltp h
        refine fm_cgm eM19 ?_
        refine fl_iinc2 (pc := 121) rfl 1 (by decide) (by decide) dX10_dayGoes_121 ?_
        refine fm_goto (pc := 124) 58 (by decide) dX10_dayGoes_124 ?_
        refine fm_fgt [some (.ref 76), some (.int l1), some (.int (l2 + 1)), none] (by simp [fm_sub]) ?_
        exact ih _ _ h
theorem sp_X10_dayGoes {d : Nat} {a1 : Int32} {M : fm_M} {x : Unit × fm_M} {Q : Option Value → fm_M → Prop} (h : F_X10_dayGoes a1 M = some x) (hq : Q none x.2) : fm_ct (d + 9) mX10_dayGoes [.ref 76, .int a1] M Q := by
  rw [F_X10_dayGoes] at h
  show fm_mw (d + 9) mX10_dayGoes Q 0 [some (.ref 76), some (.int a1), none, none] [] M
  refine fm_iconstv (pc := 0) 0 (by decide) dX10_dayGoes_0 ?_
  refine fl_istore2 (pc := 1) rfl (by decide) dX10_dayGoes_1 ?_
  obtain ⟨w8, M9, ew8, h⟩ := fm_bdp h
  refine lp_X10_dayGoes_2  ?_ _ _ _ ew8
  intro w89 M99 q9
  cases q9
  refine fm_iconstv (pc := 56) 0 (by decide) dX10_dayGoes_56 ?_
  refine fl_istore2 (pc := 57) rfl (by decide) dX10_dayGoes_57 ?_
  obtain ⟨w20, M21, ew20, h⟩ := fm_bdp h
  refine lp_X10_dayGoes_58  ?_ _ _ _ ew20
  intro w209 M219 q9
  cases q9
  refine fl_aload0 (pc := 127) dX10_dayGoes_127 ?_
  refine fm_getr (pc := 128) lk_10_75 sh_76 rfl dX10_dayGoes_128 ?_
  refine fl_iload1 (pc := 131) dX10_dayGoes_131 ?_
  refine fm_iconstv (pc := 132) 0 (by decide) dX10_dayGoes_132 ?_
  obtain ⟨g22, h⟩ := fm_gdp h
  refine fm_iast (pc := 133) sh_97 (fm_inb_ok g22) dX10_dayGoes_133 ?_
  obtain ⟨M23, eM23, h⟩ := fm_ltp h
  refine fm_cgm eM23 ?_
  refine fl_aload0 (pc := 134) dX10_dayGoes_134 ?_
  refine fm_getr (pc := 135) lk_10_66 sh_76 rfl dX10_dayGoes_135 ?_
  refine fl_iload1 (pc := 138) dX10_dayGoes_138 ?_
  refine fm_dup2 (pc := 139) rfl rfl dX10_dayGoes_139 ?_
  obtain ⟨g24, h⟩ := fm_gdp h
  refine fm_iald (pc := 140) sh_94 (fm_inb_ok g24) dX10_dayGoes_140 ?_
  refine fm_iconstv (pc := 141) 1 (by decide) dX10_dayGoes_141 ?_
  refine fm_iadd (pc := 142) dX10_dayGoes_142 ?_
  obtain ⟨g25, h⟩ := fm_gdp h
  refine fm_iast (pc := 143) sh_94 (fm_inb_ok g25) dX10_dayGoes_143 ?_
  obtain ⟨M26, eM26, h⟩ := fm_ltp h
  refine fm_cgm eM26 ?_
  refine fm_vret (pc := 144) rfl ?_ dX10_dayGoes_144
  cases h
  exact hq
/-! X10_goesOn -/
def G_X10_goesOn_2 : Nat → Int32 → Int32 → fm_M → Option ((Int32) × fm_M)
  | 0, _, _, _ => none
  | n + 1, l1, l2, M =>
    if l1 ≤ l2 then (
      some (l2, M)
    ) else (
      fm_bd (F_X10_dayGoes 1 M) (fun v1 M2 =>
      G_X10_goesOn_2 n l1 (l2 + 1) M2)
    )
def F_X10_goesOn (a1 : Int32) (M : fm_M) : Option (Unit × fm_M) :=
    fm_bd (G_X10_goesOn_2 fm_fuel a1 0 M) (fun w3 M4 =>
      some ((), M4))
theorem lp_X10_goesOn_2 {d : Nat} {Q : Option Value → fm_M → Prop} {l1 : Int32}   {x : (Int32) × fm_M} (k1 : ∀ (v : Int32) (M2 : fm_M), x = (v, M2) → fm_mw (d + 10) mX10_goesOn Q 18 [some (.ref 76), some (.int l1), some (.int v)] [] M2) : ∀ (n : Nat) (l2 : Int32) (M : fm_M), G_X10_goesOn_2 n l1 l2 M = some x → fm_mw (d + 10) mX10_goesOn Q 2 [some (.ref 76), some (.int l1), some (.int l2)] [] M := by
  intro n
  induction n with
  | zero => intro l2 M h; simp [G_X10_goesOn_2] at h
  | succ n ih =>
    intro l2 M h
    rw [G_X10_goesOn_2] at h
    refine fl_iload2 (pc := 2) dX10_goesOn_2 ?_
    refine fl_iload1 (pc := 3) dX10_goesOn_3 ?_
    refine fm_icmp_ge (pc := 4) 18 (by decide) dX10_goesOn_4 (fun c4 => ?_) (fun c4 => ?_)
    · replace h := fm_itp c4 h
      refine fm_fgt [some (.ref 76), some (.int l1), some (.int l2)] (by simp [fm_sub]) ?_
      cases h
      exact k1 _ _ rfl
    · replace h := fm_itn c4 h
      refine fl_aload0 (pc := 7) dX10_goesOn_7 ?_
      refine fm_iconstv (pc := 8) 1 (by decide) dX10_goesOn_8 ?_
      obtain ⟨v1, M2, ev1, h⟩ := fm_bdp h
      refine fm_callV (pc := 9) mX10_dayGoes [_] _ rfl cvX10_dayGoes ml_10_398 sh_76 rfl rfl (Nat.le_of_ble_eq_true rfl) (Nat.le_of_ble_eq_true rfl) dX10_goesOn_9 ?_
      refine sp_X10_dayGoes ev1 ?_
      refine fm_ret0 ?_
      refine fl_iinc2 (pc := 12) rfl 1 (by decide) (by decide) dX10_goesOn_12 ?_
      refine fm_goto (pc := 15) 2 (by decide) dX10_goesOn_15 ?_
      refine fm_fgt [some (.ref 76), some (.int l1), some (.int (l2 + 1))] (by simp [fm_sub]) ?_
      exact ih _ _ h
theorem sp_X10_goesOn {d : Nat} {a1 : Int32} {M : fm_M} {x : Unit × fm_M} {Q : Option Value → fm_M → Prop} (h : F_X10_goesOn a1 M = some x) (hq : Q none x.2) : fm_ct (d + 10) mX10_goesOn [.ref 76, .int a1] M Q := by
  rw [F_X10_goesOn] at h
  show fm_mw (d + 10) mX10_goesOn Q 0 [some (.ref 76), some (.int a1), none] [] M
  refine fm_iconstv (pc := 0) 0 (by decide) dX10_goesOn_0 ?_
  refine fl_istore2 (pc := 1) rfl (by decide) dX10_goesOn_1 ?_
  obtain ⟨w3, M4, ew3, h⟩ := fm_bdp h
  refine lp_X10_goesOn_2  ?_ _ _ _ ew3
  intro w39 M49 q9
  cases q9
  refine fm_vret (pc := 18) rfl ?_ dX10_goesOn_18
  cases h
  exact hq
/-! X10_manyOf -/
def G_X10_manyOf_5 : Nat → Int32 → Int32 → Int32 → Int32 → fm_M → Option ((Int32 × Int32) × fm_M)
  | 0, _, _, _, _, _ => none
  | n + 1, l1, l2, l3, l4, M =>
    fm_gd (fm_inb 1 20) (
    if (M.1 78 (Int32.toNatClampNeg 1)) ≤ l4 then (
      some ((l3, l4), M)
    ) else (
      fm_gd (fm_inb ((10 * l1) + l4) 230) (
      if (M.1 100 (Int32.toNatClampNeg ((10 * l1) + l4))) = l2 then (
        fm_lt ((l3 + 1)) (fun x4 =>
        G_X10_manyOf_5 n l1 l2 x4 (l4 + 1) M)
      ) else (
        fm_lt ((l3 + 0)) (fun x3 =>
        G_X10_manyOf_5 n l1 l2 x3 (l4 + 1) M)
      ))
    ))
def F_X10_manyOf (a1 : Int32) (a2 : Int32) (M : fm_M) : Option (Int32 × fm_M) :=
    fm_bd (G_X10_manyOf_5 fm_fuel a1 a2 0 0 M) (fun w5 M6 =>
      some (w5.1, M6))
theorem lp_X10_manyOf_5 {d : Nat} {Q : Option Value → fm_M → Prop} {l1 : Int32} {l2 : Int32}   {x : (Int32 × Int32) × fm_M} (k1 : ∀ (v : Int32 × Int32) (M2 : fm_M), x = (v, M2) → fm_mw d mX10_manyOf Q 46 [some (.ref 76), some (.int l1), some (.int l2), some (.int v.1), some (.int v.2)] [] M2) : ∀ (n : Nat) (l3 : Int32) (l4 : Int32) (M : fm_M), G_X10_manyOf_5 n l1 l2 l3 l4 M = some x → fm_mw d mX10_manyOf Q 5 [some (.ref 76), some (.int l1), some (.int l2), some (.int l3), some (.int l4)] [] M := by
  intro n
  induction n with
  | zero => intro l3 l4 M h; simp [G_X10_manyOf_5] at h
  | succ n ih =>
    intro l3 l4 M h
    rw [G_X10_manyOf_5] at h
    refine fl_iload4 (pc := 5) dX10_manyOf_5 ?_
    refine fl_aload0 (pc := 7) dX10_manyOf_7 ?_
    refine fm_getr (pc := 8) lk_10_13 sh_76 rfl dX10_manyOf_8 ?_
    refine fm_iconstv (pc := 11) 1 (by decide) dX10_manyOf_11 ?_
    obtain ⟨g1, h⟩ := fm_gdp h
    refine fm_iald (pc := 12) sh_78 (fm_inb_ok g1) dX10_manyOf_12 ?_
    refine fm_icmp_ge (pc := 13) 46 (by decide) dX10_manyOf_13 (fun c13 => ?_) (fun c13 => ?_)
    · replace h := fm_itp c13 h
      refine fm_fgt [some (.ref 76), some (.int l1), some (.int l2), some (.int l3), some (.int l4)] (by simp [fm_sub]) ?_
      cases h
      exact k1 _ _ rfl
    · replace h := fm_itn c13 h
      refine fl_iload3 (pc := 16) dX10_manyOf_16 ?_
      refine fl_aload0 (pc := 17) dX10_manyOf_17 ?_
      refine fm_getr (pc := 18) lk_10_84 sh_76 rfl dX10_manyOf_18 ?_
      refine fm_bipushv (pc := 21) 10 (by decide) dX10_manyOf_21 ?_
      refine fl_iload1 (pc := 23) dX10_manyOf_23 ?_
      refine fm_imul (pc := 24) dX10_manyOf_24 ?_
      refine fl_iload4 (pc := 25) dX10_manyOf_25 ?_
      refine fm_iadd (pc := 27) dX10_manyOf_27 ?_
      obtain ⟨g2, h⟩ := fm_gdp h
      refine fm_iald (pc := 28) sh_100 (fm_inb_ok g2) dX10_manyOf_28 ?_
      refine fl_iload2 (pc := 29) dX10_manyOf_29 ?_
      refine fm_icmp_ne (pc := 30) 37 (by decide) dX10_manyOf_30 (fun c30 => ?_) (fun c30 => ?_)
      · replace h := fm_itn c30 h
        refine fm_iconstv (pc := 37) 0 (by decide) dX10_manyOf_37 ?_
        refine fm_iadd (pc := 38) dX10_manyOf_38 ?_
        obtain ⟨x3, ex3, h⟩ := fm_ltp h
        refine fm_cgi ex3 ?_
        refine fl_istore3 (pc := 39) rfl (by decide) dX10_manyOf_39 ?_
        refine fl_iinc4 (pc := 40) rfl 1 (by decide) (by decide) dX10_manyOf_40 ?_
        refine fm_goto (pc := 43) 5 (by decide) dX10_manyOf_43 ?_
        refine fm_fgt [some (.ref 76), some (.int l1), some (.int l2), some (.int x3), some (.int (l4 + 1))] (by simp [fm_sub]) ?_
        exact ih _ _ _ h
      · replace h := fm_itp c30 h
        refine fm_iconstv (pc := 33) 1 (by decide) dX10_manyOf_33 ?_
        refine fm_goto (pc := 34) 38 (by decide) dX10_manyOf_34 ?_
        refine fm_iadd (pc := 38) dX10_manyOf_38 ?_
        obtain ⟨x4, ex4, h⟩ := fm_ltp h
        refine fm_cgi ex4 ?_
        refine fl_istore3 (pc := 39) rfl (by decide) dX10_manyOf_39 ?_
        refine fl_iinc4 (pc := 40) rfl 1 (by decide) (by decide) dX10_manyOf_40 ?_
        refine fm_goto (pc := 43) 5 (by decide) dX10_manyOf_43 ?_
        refine fm_fgt [some (.ref 76), some (.int l1), some (.int l2), some (.int x4), some (.int (l4 + 1))] (by simp [fm_sub]) ?_
        exact ih _ _ _ h
theorem sp_X10_manyOf {d : Nat} {a1 : Int32} {a2 : Int32} {M : fm_M} {x : Int32 × fm_M} {Q : Option Value → fm_M → Prop} (h : F_X10_manyOf a1 a2 M = some x) (hq : Q (some (.int x.1)) x.2) : fm_ct d mX10_manyOf [.ref 76, .int a1, .int a2] M Q := by
  rw [F_X10_manyOf] at h
  show fm_mw d mX10_manyOf Q 0 [some (.ref 76), some (.int a1), some (.int a2), none, none] [] M
  refine fm_iconstv (pc := 0) 0 (by decide) dX10_manyOf_0 ?_
  refine fl_istore3 (pc := 1) rfl (by decide) dX10_manyOf_1 ?_
  refine fm_iconstv (pc := 2) 0 (by decide) dX10_manyOf_2 ?_
  refine fl_istore4 (pc := 3) rfl (by decide) dX10_manyOf_3 ?_
  obtain ⟨w5, M6, ew5, h⟩ := fm_bdp h
  refine lp_X10_manyOf_5  ?_ _ _ _ _ ew5
  intro w59 M69 q9
  cases q9
  refine fl_iload3 (pc := 46) dX10_manyOf_46 ?_
  refine fm_iret (pc := 47) rfl ?_ dX10_manyOf_47
  cases h
  exact hq
/-! X10_heardAll -/
def G_X10_heardAll_4 : Nat → Int32 → Int32 → Int32 → fm_M → Option ((Int32 × Int32) × fm_M)
  | 0, _, _, _, _ => none
  | n + 1, l1, l2, l3, M =>
    fm_gd (fm_inb 1 20) (
    if (M.1 78 (Int32.toNatClampNeg 1)) ≤ l3 then (
      some ((l2, l3), M)
    ) else (
      fm_gd (fm_inb ((10 * l1) + l3) 230) (
      fm_lt ((l2 + (i_max 0 (M.1 101 (Int32.toNatClampNeg ((10 * l1) + l3)))))) (fun x3 =>
      G_X10_heardAll_4 n l1 x3 (l3 + 1) M))
    ))
def F_X10_heardAll (a1 : Int32) (M : fm_M) : Option (Int32 × fm_M) :=
    fm_bd (G_X10_heardAll_4 fm_fuel a1 0 0 M) (fun w4 M5 =>
      some (w4.1, M5))
theorem lp_X10_heardAll_4 {d : Nat} {Q : Option Value → fm_M → Prop} {l1 : Int32}   {x : (Int32 × Int32) × fm_M} (k1 : ∀ (v : Int32 × Int32) (M2 : fm_M), x = (v, M2) → fm_mw (d + 1) mX10_heardAll Q 38 [some (.ref 76), some (.int l1), some (.int v.1), some (.int v.2)] [] M2) : ∀ (n : Nat) (l2 : Int32) (l3 : Int32) (M : fm_M), G_X10_heardAll_4 n l1 l2 l3 M = some x → fm_mw (d + 1) mX10_heardAll Q 4 [some (.ref 76), some (.int l1), some (.int l2), some (.int l3)] [] M := by
  intro n
  induction n with
  | zero => intro l2 l3 M h; simp [G_X10_heardAll_4] at h
  | succ n ih =>
    intro l2 l3 M h
    rw [G_X10_heardAll_4] at h
    refine fl_iload3 (pc := 4) dX10_heardAll_4 ?_
    refine fl_aload0 (pc := 5) dX10_heardAll_5 ?_
    refine fm_getr (pc := 6) lk_10_13 sh_76 rfl dX10_heardAll_6 ?_
    refine fm_iconstv (pc := 9) 1 (by decide) dX10_heardAll_9 ?_
    obtain ⟨g1, h⟩ := fm_gdp h
    refine fm_iald (pc := 10) sh_78 (fm_inb_ok g1) dX10_heardAll_10 ?_
    refine fm_icmp_ge (pc := 11) 38 (by decide) dX10_heardAll_11 (fun c11 => ?_) (fun c11 => ?_)
    · replace h := fm_itp c11 h
      refine fm_fgt [some (.ref 76), some (.int l1), some (.int l2), some (.int l3)] (by simp [fm_sub]) ?_
      cases h
      exact k1 _ _ rfl
    · replace h := fm_itn c11 h
      refine fl_iload2 (pc := 14) dX10_heardAll_14 ?_
      refine fm_iconstv (pc := 15) 0 (by decide) dX10_heardAll_15 ?_
      refine fl_aload0 (pc := 16) dX10_heardAll_16 ?_
      refine fm_getr (pc := 17) lk_10_87 sh_76 rfl dX10_heardAll_17 ?_
      refine fm_bipushv (pc := 20) 10 (by decide) dX10_heardAll_20 ?_
      refine fl_iload1 (pc := 22) dX10_heardAll_22 ?_
      refine fm_imul (pc := 23) dX10_heardAll_23 ?_
      refine fl_iload3 (pc := 24) dX10_heardAll_24 ?_
      refine fm_iadd (pc := 25) dX10_heardAll_25 ?_
      obtain ⟨g2, h⟩ := fm_gdp h
      refine fm_iald (pc := 26) sh_101 (fm_inb_ok g2) dX10_heardAll_26 ?_
      refine fq_mmax (pc := 27) ml_10_328 (Nat.le_of_ble_eq_true rfl) dX10_heardAll_27 ?_
      refine fm_iadd (pc := 30) dX10_heardAll_30 ?_
      obtain ⟨x3, ex3, h⟩ := fm_ltp h
      refine fm_cgi ex3 ?_
      refine fl_istore2 (pc := 31) rfl (by decide) dX10_heardAll_31 ?_
      refine fl_iinc3 (pc := 32) rfl 1 (by decide) (by decide) dX10_heardAll_32 ?_
      refine fm_goto (pc := 35) 4 (by decide) dX10_heardAll_35 ?_
      refine fm_fgt [some (.ref 76), some (.int l1), some (.int x3), some (.int (l3 + 1))] (by simp [fm_sub]) ?_
      exact ih _ _ _ h
theorem sp_X10_heardAll {d : Nat} {a1 : Int32} {M : fm_M} {x : Int32 × fm_M} {Q : Option Value → fm_M → Prop} (h : F_X10_heardAll a1 M = some x) (hq : Q (some (.int x.1)) x.2) : fm_ct (d + 1) mX10_heardAll [.ref 76, .int a1] M Q := by
  rw [F_X10_heardAll] at h
  show fm_mw (d + 1) mX10_heardAll Q 0 [some (.ref 76), some (.int a1), none, none] [] M
  refine fm_iconstv (pc := 0) 0 (by decide) dX10_heardAll_0 ?_
  refine fl_istore2 (pc := 1) rfl (by decide) dX10_heardAll_1 ?_
  refine fm_iconstv (pc := 2) 0 (by decide) dX10_heardAll_2 ?_
  refine fl_istore3 (pc := 3) rfl (by decide) dX10_heardAll_3 ?_
  obtain ⟨w4, M5, ew4, h⟩ := fm_bdp h
  refine lp_X10_heardAll_4  ?_ _ _ _ _ ew4
  intro w49 M59 q9
  cases q9
  refine fl_iload2 (pc := 38) dX10_heardAll_38 ?_
  refine fm_iret (pc := 39) rfl ?_ dX10_heardAll_39
  cases h
  exact hq
/-! X10_motion -/
def J_X10_motion_27 (l1 : Int32) (l2 : Int32) (s1 : Int32) (M : fm_M) : Option (Int32 × fm_M) :=
    fm_lt (fm_up M 76 0 s1) (fun M3 =>
    if (M3.1 76 0) = 0 then (
      if l2 = 0 then (
        fm_gd (fm_inb l1 20) (
        some ((M3.1 85 (Int32.toNatClampNeg l1)), M3))
      ) else (
      if l2 = 1 then (
        fm_gd (fm_inb l1 230) (
        some ((M3.1 99 (Int32.toNatClampNeg l1)), M3))
      ) else (
      if l2 = 2 then (
        fm_gd (fm_inb l1 230) (
        some ((M3.1 100 (Int32.toNatClampNeg l1)), M3))
      ) else (
      fm_gd (fm_inb l1 230) (
      some ((M3.1 101 (Int32.toNatClampNeg l1)), M3)))))
    ) else (
      some (0, M3)
    ))
def J_X10_motion_22 (l1 : Int32) (l2 : Int32) (M : fm_M) : Option (Int32 × fm_M) :=
    J_X10_motion_27 l1 l2 2 M
def F_X10_motion (a1 : Int32) (a2 : Int32) (M : fm_M) : Option (Int32 × fm_M) :=
    fm_bd (F_X10_isMotion a1 M) (fun v1 M2 =>
    if v1 = 0 then (
      J_X10_motion_27 a1 a2 1 M2
    ) else (
      if a2 < 0 then (
        J_X10_motion_22 a1 a2 M2
      ) else (
        if a2 ≤ 3 then (
          J_X10_motion_27 a1 a2 0 M2
        ) else (
          J_X10_motion_22 a1 a2 M2
        )
      )
    ))
theorem jn_X10_motion_27 {d : Nat} {Q : Option Value → fm_M → Prop}  (l1 : Int32) (l2 : Int32) (s1 : Int32) {x : Int32 × fm_M}  (hq : Q (some (.int x.1)) x.2) (M : fm_M) (h : J_X10_motion_27 l1 l2 s1 M = some x) : fm_mw (d + 1) mX10_motion Q 27 [some (.ref 76), some (.int l1), some (.int l2)] [(.int s1), (.ref 76)] M := by
  rw [J_X10_motion_27] at h
  refine fm_puti (pc := 27) lp_10_130 sh_76 rfl dX10_motion_27 ?_
  obtain ⟨M3, eM3, h⟩ := fm_ltp h
  refine fm_cgm eM3 ?_
  refine fl_aload0 (pc := 30) dX10_motion_30 ?_
  refine fm_geti (pc := 31) lk_10_130 sh_76 rfl dX10_motion_31 ?_
  refine fm_if_eq (pc := 34) 39 (by decide) dX10_motion_34 (fun c34 => ?_) (fun c34 => ?_)
  · replace h := fm_itp c34 h
    refine fl_iload2 (pc := 39) dX10_motion_39 ?_
    by_cases s40_0 : l2 = 0
    · replace h := fm_itp s40_0 h
      refine fm_tswIn (pc := 40) 68 0 (28) (by rw [s40_0]; rfl) (by decide) (by decide) (by decide) (by decide) dX10_motion_40 ?_
      refine fl_aload0 (pc := 68) dX10_motion_68 ?_
      refine fm_getr (pc := 69) lk_10_34 sh_76 rfl dX10_motion_69 ?_
      refine fl_iload1 (pc := 72) dX10_motion_72 ?_
      obtain ⟨g4, h⟩ := fm_gdp h
      refine fm_iald (pc := 73) sh_85 (fm_inb_ok g4) dX10_motion_73 ?_
      refine fm_iret (pc := 74) rfl ?_ dX10_motion_74
      cases h
      exact hq
    · replace h := fm_itn s40_0 h
      by_cases s40_1 : l2 = 1
      · replace h := fm_itp s40_1 h
        refine fm_tswIn (pc := 40) 75 1 (35) (by rw [s40_1]; rfl) (by decide) (by decide) (by decide) (by decide) dX10_motion_40 ?_
        refine fl_aload0 (pc := 75) dX10_motion_75 ?_
        refine fm_getr (pc := 76) lk_10_81 sh_76 rfl dX10_motion_76 ?_
        refine fl_iload1 (pc := 79) dX10_motion_79 ?_
        obtain ⟨g5, h⟩ := fm_gdp h
        refine fm_iald (pc := 80) sh_99 (fm_inb_ok g5) dX10_motion_80 ?_
        refine fm_iret (pc := 81) rfl ?_ dX10_motion_81
        cases h
        exact hq
      · replace h := fm_itn s40_1 h
        by_cases s40_2 : l2 = 2
        · replace h := fm_itp s40_2 h
          refine fm_tswIn (pc := 40) 82 2 (42) (by rw [s40_2]; rfl) (by decide) (by decide) (by decide) (by decide) dX10_motion_40 ?_
          refine fl_aload0 (pc := 82) dX10_motion_82 ?_
          refine fm_getr (pc := 83) lk_10_84 sh_76 rfl dX10_motion_83 ?_
          refine fl_iload1 (pc := 86) dX10_motion_86 ?_
          obtain ⟨g6, h⟩ := fm_gdp h
          refine fm_iald (pc := 87) sh_100 (fm_inb_ok g6) dX10_motion_87 ?_
          refine fm_iret (pc := 88) rfl ?_ dX10_motion_88
          cases h
          exact hq
        · replace h := fm_itn s40_2 h
          have q0 : ¬ Int32.toInt l2 = 0 := fun q => s40_0 (Int32.toInt_inj.mp (by rw [q]; rfl))
          have q1 : ¬ Int32.toInt l2 = 1 := fun q => s40_1 (Int32.toInt_inj.mp (by rw [q]; rfl))
          have q2 : ¬ Int32.toInt l2 = 2 := fun q => s40_2 (Int32.toInt_inj.mp (by rw [q]; rfl))
          refine fm_tswOut (pc := 40) 89 (by omega) (by decide) dX10_motion_40 ?_
          refine fl_aload0 (pc := 89) dX10_motion_89 ?_
          refine fm_getr (pc := 90) lk_10_87 sh_76 rfl dX10_motion_90 ?_
          refine fl_iload1 (pc := 93) dX10_motion_93 ?_
          obtain ⟨g7, h⟩ := fm_gdp h
          refine fm_iald (pc := 94) sh_101 (fm_inb_ok g7) dX10_motion_94 ?_
          refine fm_iret (pc := 95) rfl ?_ dX10_motion_95
          cases h
          exact hq
  · replace h := fm_itn c34 h
    refine fm_iconstv (pc := 37) 0 (by decide) dX10_motion_37 ?_
    refine fm_iret (pc := 38) rfl ?_ dX10_motion_38
    cases h
    exact hq
theorem jn_X10_motion_22 {d : Nat} {Q : Option Value → fm_M → Prop}  (l1 : Int32) (l2 : Int32) {x : Int32 × fm_M}  (hq : Q (some (.int x.1)) x.2) (M : fm_M) (h : J_X10_motion_22 l1 l2 M = some x) : fm_mw (d + 1) mX10_motion Q 22 [some (.ref 76), some (.int l1), some (.int l2)] [(.ref 76)] M := by
  rw [J_X10_motion_22] at h
  refine fm_iconstv (pc := 22) 2 (by decide) dX10_motion_22 ?_
  refine fm_goto (pc := 23) 27 (by decide) dX10_motion_23 ?_
  exact jn_X10_motion_27 _ _ _  hq _ h
theorem sp_X10_motion {d : Nat} {a1 : Int32} {a2 : Int32} {M : fm_M} {x : Int32 × fm_M} {Q : Option Value → fm_M → Prop} (h : F_X10_motion a1 a2 M = some x) (hq : Q (some (.int x.1)) x.2) : fm_ct (d + 1) mX10_motion [.ref 76, .int a1, .int a2] M Q := by
  rw [F_X10_motion] at h
  show fm_mw (d + 1) mX10_motion Q 0 [some (.ref 76), some (.int a1), some (.int a2)] [] M
  refine fl_aload0 (pc := 0) dX10_motion_0 ?_
  refine fl_aload0 (pc := 1) dX10_motion_1 ?_
  refine fl_iload1 (pc := 2) dX10_motion_2 ?_
  obtain ⟨v1, M2, ev1, h⟩ := fm_bdp h
  refine fm_callV (pc := 3) mX10_isMotion [_] _ rfl cvX10_isMotion ml_10_401 sh_76 rfl rfl (Nat.le_of_ble_eq_true rfl) (Nat.le_of_ble_eq_true rfl) dX10_motion_3 ?_
  refine sp_X10_isMotion ev1 ?_
  refine fm_ret1 ?_
  refine fm_if_ne (pc := 6) 13 (by decide) dX10_motion_6 (fun c6 => ?_) (fun c6 => ?_)
  · replace h := fm_itn c6 h
    refine fl_iload2 (pc := 13) dX10_motion_13 ?_
    refine fm_if_lt (pc := 14) 22 (by decide) dX10_motion_14 (fun c14 => ?_) (fun c14 => ?_)
    · replace h := fm_itp c14 h
      exact jn_X10_motion_22 _ _  hq _ h
    · replace h := fm_itn c14 h
      refine fl_iload2 (pc := 17) dX10_motion_17 ?_
      refine fm_iconstv (pc := 18) 3 (by decide) dX10_motion_18 ?_
      refine fm_icmp_le (pc := 19) 26 (by decide) dX10_motion_19 (fun c19 => ?_) (fun c19 => ?_)
      · replace h := fm_itp c19 h
        refine fm_iconstv (pc := 26) 0 (by decide) dX10_motion_26 ?_
        exact jn_X10_motion_27 _ _ _  hq _ h
      · replace h := fm_itn c19 h
        exact jn_X10_motion_22 _ _  hq _ h
  · replace h := fm_itp c6 h
    refine fm_iconstv (pc := 9) 1 (by decide) dX10_motion_9 ?_
    refine fm_goto (pc := 10) 27 (by decide) dX10_motion_10 ?_
    exact jn_X10_motion_27 _ _ _  hq _ h
/-! X10_fork -/
def F_X10_fork (a1 : Int32) (a2 : Int32) (M : fm_M) : Option (Int32 × fm_M) :=
    fm_lt (fm_up M 76 0 0) (fun M1 =>
    fm_bd (F_X10_isFork a1 M1) (fun v2 M3 =>
    if v2 = 0 then (
      some ((-1), M3)
    ) else (
      if a2 = 0 then (
        fm_gd (fm_inb a1 184) (
        some ((M3.1 98 (Int32.toNatClampNeg a1)), M3))
      ) else (
      if a2 = 1 then (
        fm_gd (fm_inb a1 16) (
        some ((M3.1 81 (Int32.toNatClampNeg a1)), M3))
      ) else (
      if a2 = 2 then (
        fm_gd (fm_inb a1 16) (
        some ((M3.1 82 (Int32.toNatClampNeg a1)), M3))
      ) else (
      if a2 = 3 then (
        fm_gd (fm_inb a1 16) (
        some ((M3.1 83 (Int32.toNatClampNeg a1)), M3))
      ) else (
      if a2 = 4 then (
        fm_bd (F_X10_isCracked a1 M3) (fun v8 M9 =>
        if v8 = 0 then (
          some (0, M9)
        ) else (
          some (1, M9)
        ))
      ) else (
      if a2 = 5 then (
        fm_gd (fm_inb 0 23) (
        some ((((M3.1 97 (Int32.toNatClampNeg 0)) >>> (a1 &&& 31)) &&& 1), M3))
      ) else (
      some ((-1), M3)))))))
    )))
theorem sp_X10_fork {d : Nat} {a1 : Int32} {a2 : Int32} {M : fm_M} {x : Int32 × fm_M} {Q : Option Value → fm_M → Prop} (h : F_X10_fork a1 a2 M = some x) (hq : Q (some (.int x.1)) x.2) : fm_ct (d + 1) mX10_fork [.ref 76, .int a1, .int a2] M Q := by
  rw [F_X10_fork] at h
  show fm_mw (d + 1) mX10_fork Q 0 [some (.ref 76), some (.int a1), some (.int a2)] [] M
  refine fl_aload0 (pc := 0) dX10_fork_0 ?_
  refine fm_iconstv (pc := 1) 0 (by decide) dX10_fork_1 ?_
  refine fm_puti (pc := 2) lp_10_130 sh_76 rfl dX10_fork_2 ?_
  obtain ⟨M1, eM1, h⟩ := fm_ltp h
  refine fm_cgm eM1 ?_
  refine fl_aload0 (pc := 5) dX10_fork_5 ?_
  refine fl_iload1 (pc := 6) dX10_fork_6 ?_
  obtain ⟨v2, M3, ev2, h⟩ := fm_bdp h
  refine fm_callV (pc := 7) mX10_isFork [_] _ rfl cvX10_isFork ml_10_404 sh_76 rfl rfl (Nat.le_of_ble_eq_true rfl) (Nat.le_of_ble_eq_true rfl) dX10_fork_7 ?_
  refine sp_X10_isFork ev2 ?_
  refine fm_ret1 ?_
  refine fm_if_ne (pc := 10) 15 (by decide) dX10_fork_10 (fun c10 => ?_) (fun c10 => ?_)
  · replace h := fm_itn c10 h
    refine fl_iload2 (pc := 15) dX10_fork_15 ?_
    by_cases s16_0 : a2 = 0
    · replace h := fm_itp s16_0 h
      refine fm_tswIn (pc := 16) 56 0 (40) (by rw [s16_0]; rfl) (by decide) (by decide) (by decide) (by decide) dX10_fork_16 ?_
      refine fl_aload0 (pc := 56) dX10_fork_56 ?_
      refine fm_getr (pc := 57) lk_10_78 sh_76 rfl dX10_fork_57 ?_
      refine fl_iload1 (pc := 60) dX10_fork_60 ?_
      obtain ⟨g4, h⟩ := fm_gdp h
      refine fm_iald (pc := 61) sh_98 (fm_inb_ok g4) dX10_fork_61 ?_
      refine fm_iret (pc := 62) rfl ?_ dX10_fork_62
      cases h
      exact hq
    · replace h := fm_itn s16_0 h
      by_cases s16_1 : a2 = 1
      · replace h := fm_itp s16_1 h
        refine fm_tswIn (pc := 16) 63 1 (47) (by rw [s16_1]; rfl) (by decide) (by decide) (by decide) (by decide) dX10_fork_16 ?_
        refine fl_aload0 (pc := 63) dX10_fork_63 ?_
        refine fm_getr (pc := 64) lk_10_22 sh_76 rfl dX10_fork_64 ?_
        refine fl_iload1 (pc := 67) dX10_fork_67 ?_
        obtain ⟨g5, h⟩ := fm_gdp h
        refine fm_iald (pc := 68) sh_81 (fm_inb_ok g5) dX10_fork_68 ?_
        refine fm_iret (pc := 69) rfl ?_ dX10_fork_69
        cases h
        exact hq
      · replace h := fm_itn s16_1 h
        by_cases s16_2 : a2 = 2
        · replace h := fm_itp s16_2 h
          refine fm_tswIn (pc := 16) 70 2 (54) (by rw [s16_2]; rfl) (by decide) (by decide) (by decide) (by decide) dX10_fork_16 ?_
          refine fl_aload0 (pc := 70) dX10_fork_70 ?_
          refine fm_getr (pc := 71) lk_10_25 sh_76 rfl dX10_fork_71 ?_
          refine fl_iload1 (pc := 74) dX10_fork_74 ?_
          obtain ⟨g6, h⟩ := fm_gdp h
          refine fm_iald (pc := 75) sh_82 (fm_inb_ok g6) dX10_fork_75 ?_
          refine fm_iret (pc := 76) rfl ?_ dX10_fork_76
          cases h
          exact hq
        · replace h := fm_itn s16_2 h
          by_cases s16_3 : a2 = 3
          · replace h := fm_itp s16_3 h
            refine fm_tswIn (pc := 16) 77 3 (61) (by rw [s16_3]; rfl) (by decide) (by decide) (by decide) (by decide) dX10_fork_16 ?_
            refine fl_aload0 (pc := 77) dX10_fork_77 ?_
            refine fm_getr (pc := 78) lk_10_28 sh_76 rfl dX10_fork_78 ?_
            refine fl_iload1 (pc := 81) dX10_fork_81 ?_
            obtain ⟨g7, h⟩ := fm_gdp h
            refine fm_iald (pc := 82) sh_83 (fm_inb_ok g7) dX10_fork_82 ?_
            refine fm_iret (pc := 83) rfl ?_ dX10_fork_83
            cases h
            exact hq
          · replace h := fm_itn s16_3 h
            by_cases s16_4 : a2 = 4
            · replace h := fm_itp s16_4 h
              refine fm_tswIn (pc := 16) 84 4 (68) (by rw [s16_4]; rfl) (by decide) (by decide) (by decide) (by decide) dX10_fork_16 ?_
              refine fl_aload0 (pc := 84) dX10_fork_84 ?_
              refine fl_iload1 (pc := 85) dX10_fork_85 ?_
              obtain ⟨v8, M9, ev8, h⟩ := fm_bdp h
              refine fm_callV (pc := 86) mX10_isCracked [_] _ rfl cvX10_isCracked ml_10_365 sh_76 rfl rfl (Nat.le_of_ble_eq_true rfl) (Nat.le_of_ble_eq_true rfl) dX10_fork_86 ?_
              refine sp_X10_isCracked ev8 ?_
              refine fm_ret1 ?_
              refine fm_if_eq (pc := 89) 96 (by decide) dX10_fork_89 (fun c89 => ?_) (fun c89 => ?_)
              · replace h := fm_itp c89 h
                refine fm_iconstv (pc := 96) 0 (by decide) dX10_fork_96 ?_
                refine fm_iret (pc := 97) rfl ?_ dX10_fork_97
                cases h
                exact hq
              · replace h := fm_itn c89 h
                refine fm_iconstv (pc := 92) 1 (by decide) dX10_fork_92 ?_
                refine fm_goto (pc := 93) 97 (by decide) dX10_fork_93 ?_
                refine fm_iret (pc := 97) rfl ?_ dX10_fork_97
                cases h
                exact hq
            · replace h := fm_itn s16_4 h
              by_cases s16_5 : a2 = 5
              · replace h := fm_itp s16_5 h
                refine fm_tswIn (pc := 16) 98 5 (82) (by rw [s16_5]; rfl) (by decide) (by decide) (by decide) (by decide) dX10_fork_16 ?_
                refine fl_aload0 (pc := 98) dX10_fork_98 ?_
                refine fm_getr (pc := 99) lk_10_75 sh_76 rfl dX10_fork_99 ?_
                refine fm_iconstv (pc := 102) 0 (by decide) dX10_fork_102 ?_
                obtain ⟨g10, h⟩ := fm_gdp h
                refine fm_iald (pc := 103) sh_97 (fm_inb_ok g10) dX10_fork_103 ?_
                refine fl_iload1 (pc := 104) dX10_fork_104 ?_
                refine fm_ishr (pc := 105) dX10_fork_105 ?_
                refine fm_iconstv (pc := 106) 1 (by decide) dX10_fork_106 ?_
                refine fm_iand (pc := 107) dX10_fork_107 ?_
                refine fm_iret (pc := 108) rfl ?_ dX10_fork_108
                cases h
                exact hq
              · replace h := fm_itn s16_5 h
                have q0 : ¬ Int32.toInt a2 = 0 := fun q => s16_0 (Int32.toInt_inj.mp (by rw [q]; rfl))
                have q1 : ¬ Int32.toInt a2 = 1 := fun q => s16_1 (Int32.toInt_inj.mp (by rw [q]; rfl))
                have q2 : ¬ Int32.toInt a2 = 2 := fun q => s16_2 (Int32.toInt_inj.mp (by rw [q]; rfl))
                have q3 : ¬ Int32.toInt a2 = 3 := fun q => s16_3 (Int32.toInt_inj.mp (by rw [q]; rfl))
                have q4 : ¬ Int32.toInt a2 = 4 := fun q => s16_4 (Int32.toInt_inj.mp (by rw [q]; rfl))
                have q5 : ¬ Int32.toInt a2 = 5 := fun q => s16_5 (Int32.toInt_inj.mp (by rw [q]; rfl))
                refine fm_tswOut (pc := 16) 109 (by omega) (by decide) dX10_fork_16 ?_
                refine fm_iconstv (pc := 109) (-1) (by decide) dX10_fork_109 ?_
                refine fm_iret (pc := 110) rfl ?_ dX10_fork_110
                cases h
                exact hq
  · replace h := fm_itp c10 h
    refine fm_iconstv (pc := 13) (-1) (by decide) dX10_fork_13 ?_
    refine fm_iret (pc := 14) rfl ?_ dX10_fork_14
    cases h
    exact hq
/-! X10_wet -/
def F_X10_wet (a1 : Int32) (M : fm_M) : Option (Int32 × fm_M) :=
    fm_lt (fm_up M 76 0 0) (fun M1 =>
    if a1 < 0 then (
      some ((-1), M1)
    ) else (
      if 9999 < a1 then (
        some ((-1), M1)
      ) else (
        fm_bd (F_X10_wetAt a1 M1) (fun v2 M3 =>
        some (v2, M3))
      )
    ))
theorem sp_X10_wet {d : Nat} {a1 : Int32} {M : fm_M} {x : Int32 × fm_M} {Q : Option Value → fm_M → Prop} (h : F_X10_wet a1 M = some x) (hq : Q (some (.int x.1)) x.2) : fm_ct (d + 1) mX10_wet [.ref 76, .int a1] M Q := by
  rw [F_X10_wet] at h
  show fm_mw (d + 1) mX10_wet Q 0 [some (.ref 76), some (.int a1)] [] M
  refine fl_aload0 (pc := 0) dX10_wet_0 ?_
  refine fm_iconstv (pc := 1) 0 (by decide) dX10_wet_1 ?_
  refine fm_puti (pc := 2) lp_10_130 sh_76 rfl dX10_wet_2 ?_
  obtain ⟨M1, eM1, h⟩ := fm_ltp h
  refine fm_cgm eM1 ?_
  refine fl_iload1 (pc := 5) dX10_wet_5 ?_
  refine fm_if_lt (pc := 6) 24 (by decide) dX10_wet_6 (fun c6 => ?_) (fun c6 => ?_)
  · replace h := fm_itp c6 h
    refine fm_iconstv (pc := 24) (-1) (by decide) dX10_wet_24 ?_
    refine fm_iret (pc := 25) rfl ?_ dX10_wet_25
    cases h
    exact hq
  · replace h := fm_itn c6 h
    refine fl_iload1 (pc := 9) dX10_wet_9 ?_
    refine fm_sipushv (pc := 10) 9999 (by decide) dX10_wet_10 ?_
    refine fm_icmp_gt (pc := 13) 24 (by decide) dX10_wet_13 (fun c13 => ?_) (fun c13 => ?_)
    · replace h := fm_itp c13 h
      refine fm_iconstv (pc := 24) (-1) (by decide) dX10_wet_24 ?_
      refine fm_iret (pc := 25) rfl ?_ dX10_wet_25
      cases h
      exact hq
    · replace h := fm_itn c13 h
      refine fl_aload0 (pc := 16) dX10_wet_16 ?_
      refine fl_iload1 (pc := 17) dX10_wet_17 ?_
      obtain ⟨v2, M3, ev2, h⟩ := fm_bdp h
      refine fm_callV (pc := 18) mX10_wetAt [_] _ rfl cvX10_wetAt ml_10_319 sh_76 rfl rfl (Nat.le_of_ble_eq_true rfl) (Nat.le_of_ble_eq_true rfl) dX10_wet_18 ?_
      refine sp_X10_wetAt ev2 ?_
      refine fm_ret1 ?_
      refine fm_goto (pc := 21) 25 (by decide) dX10_wet_21 ?_
      refine fm_iret (pc := 25) rfl ?_ dX10_wet_25
      cases h
      exact hq
/-! X10_beats -/
def F_X10_beats (a1 : Int32) (a2 : Int32) (M : fm_M) : Option (Int32 × fm_M) :=
    fm_lt (fm_up M 76 0 0) (fun M1 =>
    fm_bd (F_X10_isFork a1 M1) (fun v2 M3 =>
    if v2 = 0 then (
      some ((-1), M3)
    ) else (
      fm_bd (F_X10_isNote a2 M3) (fun v4 M5 =>
      if v4 = 0 then (
        some ((-1), M5)
      ) else (
        fm_gd (fm_inb a1 184) (
        fm_bd (F_X10_beatsOf 0 (M5.1 98 (Int32.toNatClampNeg a1)) a2 M5) (fun v7 M8 =>
        some (v7, M8)))
      ))
    )))
theorem sp_X10_beats {d : Nat} {a1 : Int32} {a2 : Int32} {M : fm_M} {x : Int32 × fm_M} {Q : Option Value → fm_M → Prop} (h : F_X10_beats a1 a2 M = some x) (hq : Q (some (.int x.1)) x.2) : fm_ct (d + 4) mX10_beats [.ref 76, .int a1, .int a2] M Q := by
  rw [F_X10_beats] at h
  show fm_mw (d + 4) mX10_beats Q 0 [some (.ref 76), some (.int a1), some (.int a2)] [] M
  refine fl_aload0 (pc := 0) dX10_beats_0 ?_
  refine fm_iconstv (pc := 1) 0 (by decide) dX10_beats_1 ?_
  refine fm_puti (pc := 2) lp_10_130 sh_76 rfl dX10_beats_2 ?_
  obtain ⟨M1, eM1, h⟩ := fm_ltp h
  refine fm_cgm eM1 ?_
  refine fl_aload0 (pc := 5) dX10_beats_5 ?_
  refine fl_iload1 (pc := 6) dX10_beats_6 ?_
  obtain ⟨v2, M3, ev2, h⟩ := fm_bdp h
  refine fm_callV (pc := 7) mX10_isFork [_] _ rfl cvX10_isFork ml_10_404 sh_76 rfl rfl (Nat.le_of_ble_eq_true rfl) (Nat.le_of_ble_eq_true rfl) dX10_beats_7 ?_
  refine sp_X10_isFork ev2 ?_
  refine fm_ret1 ?_
  refine fm_if_eq (pc := 10) 35 (by decide) dX10_beats_10 (fun c10 => ?_) (fun c10 => ?_)
  · replace h := fm_itp c10 h
    refine fm_iconstv (pc := 35) (-1) (by decide) dX10_beats_35 ?_
    refine fm_iret (pc := 36) rfl ?_ dX10_beats_36
    cases h
    exact hq
  · replace h := fm_itn c10 h
    refine fl_iload2 (pc := 13) dX10_beats_13 ?_
    obtain ⟨v4, M5, ev4, h⟩ := fm_bdp h
    refine fm_callS (pc := 14) mX10_isNote [_] _ rfl csX10_isNote ml_10_407 rfl (Nat.le_of_ble_eq_true rfl) (Nat.le_of_ble_eq_true rfl) dX10_beats_14 ?_
    refine sp_X10_isNote ev4 ?_
    refine fm_ret1 ?_
    refine fm_if_eq (pc := 17) 35 (by decide) dX10_beats_17 (fun c17 => ?_) (fun c17 => ?_)
    · replace h := fm_itp c17 h
      refine fm_iconstv (pc := 35) (-1) (by decide) dX10_beats_35 ?_
      refine fm_iret (pc := 36) rfl ?_ dX10_beats_36
      cases h
      exact hq
    · replace h := fm_itn c17 h
      refine fl_aload0 (pc := 20) dX10_beats_20 ?_
      refine fm_iconstv (pc := 21) 0 (by decide) dX10_beats_21 ?_
      refine fl_aload0 (pc := 22) dX10_beats_22 ?_
      refine fm_getr (pc := 23) lk_10_78 sh_76 rfl dX10_beats_23 ?_
      refine fl_iload1 (pc := 26) dX10_beats_26 ?_
      obtain ⟨g6, h⟩ := fm_gdp h
      refine fm_iald (pc := 27) sh_98 (fm_inb_ok g6) dX10_beats_27 ?_
      refine fl_iload2 (pc := 28) dX10_beats_28 ?_
      obtain ⟨v7, M8, ev7, h⟩ := fm_bdp h
      refine fm_callV (pc := 29) mX10_beatsOf [_, _, _] _ rfl cvX10_beatsOf ml_10_342 sh_76 rfl rfl (Nat.le_of_ble_eq_true rfl) (Nat.le_of_ble_eq_true rfl) dX10_beats_29 ?_
      refine sp_X10_beatsOf ev7 ?_
      refine fm_ret1 ?_
      refine fm_goto (pc := 32) 36 (by decide) dX10_beats_32 ?_
      refine fm_iret (pc := 36) rfl ?_ dX10_beats_36
      cases h
      exact hq
/-! X10_hums -/
def F_X10_hums (a1 : Int32) (a2 : Int32) (M : fm_M) : Option (Int32 × fm_M) :=
    fm_lt (fm_up M 76 0 0) (fun M1 =>
    fm_bd (F_X10_isFork a1 M1) (fun v2 M3 =>
    if v2 = 0 then (
      some ((-1), M3)
    ) else (
      fm_bd (F_X10_isNote a2 M3) (fun v4 M5 =>
      if v4 = 0 then (
        some ((-1), M5)
      ) else (
        fm_bd (F_X10_humOf 0 a1 a2 M5) (fun v6 M7 =>
        some (v6, M7))
      ))
    )))
theorem sp_X10_hums {d : Nat} {a1 : Int32} {a2 : Int32} {M : fm_M} {x : Int32 × fm_M} {Q : Option Value → fm_M → Prop} (h : F_X10_hums a1 a2 M = some x) (hq : Q (some (.int x.1)) x.2) : fm_ct (d + 7) mX10_hums [.ref 76, .int a1, .int a2] M Q := by
  rw [F_X10_hums] at h
  show fm_mw (d + 7) mX10_hums Q 0 [some (.ref 76), some (.int a1), some (.int a2)] [] M
  refine fl_aload0 (pc := 0) dX10_hums_0 ?_
  refine fm_iconstv (pc := 1) 0 (by decide) dX10_hums_1 ?_
  refine fm_puti (pc := 2) lp_10_130 sh_76 rfl dX10_hums_2 ?_
  obtain ⟨M1, eM1, h⟩ := fm_ltp h
  refine fm_cgm eM1 ?_
  refine fl_aload0 (pc := 5) dX10_hums_5 ?_
  refine fl_iload1 (pc := 6) dX10_hums_6 ?_
  obtain ⟨v2, M3, ev2, h⟩ := fm_bdp h
  refine fm_callV (pc := 7) mX10_isFork [_] _ rfl cvX10_isFork ml_10_404 sh_76 rfl rfl (Nat.le_of_ble_eq_true rfl) (Nat.le_of_ble_eq_true rfl) dX10_hums_7 ?_
  refine sp_X10_isFork ev2 ?_
  refine fm_ret1 ?_
  refine fm_if_eq (pc := 10) 30 (by decide) dX10_hums_10 (fun c10 => ?_) (fun c10 => ?_)
  · replace h := fm_itp c10 h
    refine fm_iconstv (pc := 30) (-1) (by decide) dX10_hums_30 ?_
    refine fm_iret (pc := 31) rfl ?_ dX10_hums_31
    cases h
    exact hq
  · replace h := fm_itn c10 h
    refine fl_iload2 (pc := 13) dX10_hums_13 ?_
    obtain ⟨v4, M5, ev4, h⟩ := fm_bdp h
    refine fm_callS (pc := 14) mX10_isNote [_] _ rfl csX10_isNote ml_10_407 rfl (Nat.le_of_ble_eq_true rfl) (Nat.le_of_ble_eq_true rfl) dX10_hums_14 ?_
    refine sp_X10_isNote ev4 ?_
    refine fm_ret1 ?_
    refine fm_if_eq (pc := 17) 30 (by decide) dX10_hums_17 (fun c17 => ?_) (fun c17 => ?_)
    · replace h := fm_itp c17 h
      refine fm_iconstv (pc := 30) (-1) (by decide) dX10_hums_30 ?_
      refine fm_iret (pc := 31) rfl ?_ dX10_hums_31
      cases h
      exact hq
    · replace h := fm_itn c17 h
      refine fl_aload0 (pc := 20) dX10_hums_20 ?_
      refine fm_iconstv (pc := 21) 0 (by decide) dX10_hums_21 ?_
      refine fl_iload1 (pc := 22) dX10_hums_22 ?_
      refine fl_iload2 (pc := 23) dX10_hums_23 ?_
      obtain ⟨v6, M7, ev6, h⟩ := fm_bdp h
      refine fm_callV (pc := 24) mX10_humOf [_, _, _] _ rfl cvX10_humOf ml_10_382 sh_76 rfl rfl (Nat.le_of_ble_eq_true rfl) (Nat.le_of_ble_eq_true rfl) dX10_hums_24 ?_
      refine sp_X10_humOf ev6 ?_
      refine fm_ret1 ?_
      refine fm_goto (pc := 27) 31 (by decide) dX10_hums_27 ?_
      refine fm_iret (pc := 31) rfl ?_ dX10_hums_31
      cases h
      exact hq
/-! X10_struck -/
def G_X10_struck_65 : Nat → Int32 → Int32 → Int32 → Int32 → fm_M → Option ((Int32 × Int32) × fm_M)
  | 0, _, _, _, _, _ => none
  | n + 1, l1, l2, l3, l4, M =>
    fm_gd (fm_inb 0 20) (
    if (M.1 78 (Int32.toNatClampNeg 0)) ≤ l4 then (
      some ((l3, l4), M)
    ) else (
      fm_bd (F_X10_humOf 0 l4 l1 M) (fun v5 M6 =>
      if v5 ≤ 0 then (
        fm_lt ((l3 + 0)) (fun x7 =>
        G_X10_struck_65 n l1 l2 x7 (l4 + 1) M6)
      ) else (
        fm_lt ((l3 + 1)) (fun x8 =>
        G_X10_struck_65 n l1 l2 x8 (l4 + 1) M6)
      ))
    ))
def F_X10_struck (a1 : Int32) (a2 : Int32) (M : fm_M) : Option (Int32 × fm_M) :=
    fm_lt (fm_up M 76 0 0) (fun M1 =>
    fm_bd (F_X10_isNote a1 M1) (fun v2 M3 =>
    if v2 = 0 then (
      some ((-1), M3)
    ) else (
      if a2 < 0 then (
        some ((-1), M3)
      ) else (
        if a2 ≤ 2 then (
          if a2 = 0 then (
            fm_bd (F_X10_humAll 0 a1 M3) (fun v15 M16 =>
            some (v15, M16))
          ) else (
            if a2 = 1 then (
              fm_bd (F_X10_humAll 0 a1 M3) (fun v11 M12 =>
              fm_bd (F_X10_passes 0 a1 v11 M12) (fun v13 M14 =>
              if v13 = 0 then (
                some (0, M14)
              ) else (
                some (1, M14)
              )))
            ) else (
              fm_bd (G_X10_struck_65 fm_fuel a1 a2 0 0 M3) (fun w9 M10 =>
                some (w9.1, M10))
            )
          )
        ) else (
          some ((-1), M3)
        )
      )
    )))
theorem lp_X10_struck_65 {d : Nat} {Q : Option Value → fm_M → Prop} {l1 : Int32} {l2 : Int32}   {x : (Int32 × Int32) × fm_M} (k1 : ∀ (v : Int32 × Int32) (M2 : fm_M), x = (v, M2) → fm_mw (d + 8) mX10_struck Q 101 [some (.ref 76), some (.int l1), some (.int l2), some (.int v.1), some (.int v.2)] [] M2) : ∀ (n : Nat) (l3 : Int32) (l4 : Int32) (M : fm_M), G_X10_struck_65 n l1 l2 l3 l4 M = some x → fm_mw (d + 8) mX10_struck Q 65 [some (.ref 76), some (.int l1), some (.int l2), some (.int l3), some (.int l4)] [] M := by
  intro n
  induction n with
  | zero => intro l3 l4 M h; simp [G_X10_struck_65] at h
  | succ n ih =>
    intro l3 l4 M h
    rw [G_X10_struck_65] at h
    refine fl_iload4 (pc := 65) dX10_struck_65 ?_
    refine fl_aload0 (pc := 67) dX10_struck_67 ?_
    refine fm_getr (pc := 68) lk_10_13 sh_76 rfl dX10_struck_68 ?_
    refine fm_iconstv (pc := 71) 0 (by decide) dX10_struck_71 ?_
    obtain ⟨g4, h⟩ := fm_gdp h
    refine fm_iald (pc := 72) sh_78 (fm_inb_ok g4) dX10_struck_72 ?_
    refine fm_icmp_ge (pc := 73) 101 (by decide) dX10_struck_73 (fun c73 => ?_) (fun c73 => ?_)
    · replace h := fm_itp c73 h
      refine fm_fgt [some (.ref 76), some (.int l1), some (.int l2), some (.int l3), some (.int l4)] (by simp [fm_sub]) ?_
      cases h
      exact k1 _ _ rfl
    · replace h := fm_itn c73 h
      refine fl_iload3 (pc := 76) dX10_struck_76 ?_
      refine fl_aload0 (pc := 77) dX10_struck_77 ?_
      refine fm_iconstv (pc := 78) 0 (by decide) dX10_struck_78 ?_
      refine fl_iload4 (pc := 79) dX10_struck_79 ?_
      refine fl_iload1 (pc := 81) dX10_struck_81 ?_
      obtain ⟨v5, M6, ev5, h⟩ := fm_bdp h
      refine fm_callV (pc := 82) mX10_humOf [_, _, _] _ rfl cvX10_humOf ml_10_382 sh_76 rfl rfl (Nat.le_of_ble_eq_true rfl) (Nat.le_of_ble_eq_true rfl) dX10_struck_82 ?_
      refine sp_X10_humOf ev5 ?_
      refine fm_ret1 ?_
      refine fm_if_le (pc := 85) 92 (by decide) dX10_struck_85 (fun c85 => ?_) (fun c85 => ?_)
      · replace h := fm_itp c85 h
        refine fm_iconstv (pc := 92) 0 (by decide) dX10_struck_92 ?_
        refine fm_iadd (pc := 93) dX10_struck_93 ?_
        obtain ⟨x7, ex7, h⟩ := fm_ltp h
        refine fm_cgi ex7 ?_
        refine fl_istore3 (pc := 94) rfl (by decide) dX10_struck_94 ?_
        refine fl_iinc4 (pc := 95) rfl 1 (by decide) (by decide) dX10_struck_95 ?_
        refine fm_goto (pc := 98) 65 (by decide) dX10_struck_98 ?_
        refine fm_fgt [some (.ref 76), some (.int l1), some (.int l2), some (.int x7), some (.int (l4 + 1))] (by simp [fm_sub]) ?_
        exact ih _ _ _ h
      · replace h := fm_itn c85 h
        refine fm_iconstv (pc := 88) 1 (by decide) dX10_struck_88 ?_
        refine fm_goto (pc := 89) 93 (by decide) dX10_struck_89 ?_
        refine fm_iadd (pc := 93) dX10_struck_93 ?_
        obtain ⟨x8, ex8, h⟩ := fm_ltp h
        refine fm_cgi ex8 ?_
        refine fl_istore3 (pc := 94) rfl (by decide) dX10_struck_94 ?_
        refine fl_iinc4 (pc := 95) rfl 1 (by decide) (by decide) dX10_struck_95 ?_
        refine fm_goto (pc := 98) 65 (by decide) dX10_struck_98 ?_
        refine fm_fgt [some (.ref 76), some (.int l1), some (.int l2), some (.int x8), some (.int (l4 + 1))] (by simp [fm_sub]) ?_
        exact ih _ _ _ h
theorem sp_X10_struck {d : Nat} {a1 : Int32} {a2 : Int32} {M : fm_M} {x : Int32 × fm_M} {Q : Option Value → fm_M → Prop} (h : F_X10_struck a1 a2 M = some x) (hq : Q (some (.int x.1)) x.2) : fm_ct (d + 8) mX10_struck [.ref 76, .int a1, .int a2] M Q := by
  rw [F_X10_struck] at h
  show fm_mw (d + 8) mX10_struck Q 0 [some (.ref 76), some (.int a1), some (.int a2), none, none] [] M
  refine fl_aload0 (pc := 0) dX10_struck_0 ?_
  refine fm_iconstv (pc := 1) 0 (by decide) dX10_struck_1 ?_
  refine fm_puti (pc := 2) lp_10_130 sh_76 rfl dX10_struck_2 ?_
  obtain ⟨M1, eM1, h⟩ := fm_ltp h
  refine fm_cgm eM1 ?_
  refine fl_iload1 (pc := 5) dX10_struck_5 ?_
  obtain ⟨v2, M3, ev2, h⟩ := fm_bdp h
  refine fm_callS (pc := 6) mX10_isNote [_] _ rfl csX10_isNote ml_10_407 rfl (Nat.le_of_ble_eq_true rfl) (Nat.le_of_ble_eq_true rfl) dX10_struck_6 ?_
  refine sp_X10_isNote ev2 ?_
  refine fm_ret1 ?_
  refine fm_if_eq (pc := 9) 21 (by decide) dX10_struck_9 (fun c9 => ?_) (fun c9 => ?_)
  · replace h := fm_itp c9 h
    refine fm_iconstv (pc := 21) (-1) (by decide) dX10_struck_21 ?_
    refine fm_iret (pc := 22) rfl ?_ dX10_struck_22
    cases h
    exact hq
  · replace h := fm_itn c9 h
    refine fl_iload2 (pc := 12) dX10_struck_12 ?_
    refine fm_if_lt (pc := 13) 21 (by decide) dX10_struck_13 (fun c13 => ?_) (fun c13 => ?_)
    · replace h := fm_itp c13 h
      refine fm_iconstv (pc := 21) (-1) (by decide) dX10_struck_21 ?_
      refine fm_iret (pc := 22) rfl ?_ dX10_struck_22
      cases h
      exact hq
    · replace h := fm_itn c13 h
      refine fl_iload2 (pc := 16) dX10_struck_16 ?_
      refine fm_iconstv (pc := 17) 2 (by decide) dX10_struck_17 ?_
      refine fm_icmp_le (pc := 18) 23 (by decide) dX10_struck_18 (fun c18 => ?_) (fun c18 => ?_)
      · replace h := fm_itp c18 h
        refine fl_iload2 (pc := 23) dX10_struck_23 ?_
        refine fm_if_ne (pc := 24) 34 (by decide) dX10_struck_24 (fun c24 => ?_) (fun c24 => ?_)
        · replace h := fm_itn c24 h
          refine fl_iload2 (pc := 34) dX10_struck_34 ?_
          refine fm_iconstv (pc := 35) 1 (by decide) dX10_struck_35 ?_
          refine fm_icmp_ne (pc := 36) 60 (by decide) dX10_struck_36 (fun c36 => ?_) (fun c36 => ?_)
          · replace h := fm_itn c36 h
            refine fm_iconstv (pc := 60) 0 (by decide) dX10_struck_60 ?_
            refine fl_istore3 (pc := 61) rfl (by decide) dX10_struck_61 ?_
            refine fm_iconstv (pc := 62) 0 (by decide) dX10_struck_62 ?_
            refine fl_istore4 (pc := 63) rfl (by decide) dX10_struck_63 ?_
            obtain ⟨w9, M10, ew9, h⟩ := fm_bdp h
            refine lp_X10_struck_65  ?_ _ _ _ _ ew9
            intro w99 M109 q9
            cases q9
            refine fl_iload3 (pc := 101) dX10_struck_101 ?_
            refine fm_iret (pc := 102) rfl ?_ dX10_struck_102
            cases h
            exact hq
          · replace h := fm_itp c36 h
            refine fl_aload0 (pc := 39) dX10_struck_39 ?_
            refine fm_iconstv (pc := 40) 0 (by decide) dX10_struck_40 ?_
            refine fl_iload1 (pc := 41) dX10_struck_41 ?_
            refine fl_aload0 (pc := 42) dX10_struck_42 ?_
            refine fm_iconstv (pc := 43) 0 (by decide) dX10_struck_43 ?_
            refine fl_iload1 (pc := 44) dX10_struck_44 ?_
            obtain ⟨v11, M12, ev11, h⟩ := fm_bdp h
            refine fm_callV (pc := 45) mX10_humAll [_, _] _ rfl cvX10_humAll ml_10_385 sh_76 rfl rfl (Nat.le_of_ble_eq_true rfl) (Nat.le_of_ble_eq_true rfl) dX10_struck_45 ?_
            refine sp_X10_humAll ev11 ?_
            refine fm_ret1 ?_
            obtain ⟨v13, M14, ev13, h⟩ := fm_bdp h
            refine fm_callV (pc := 48) mX10_passes [_, _, _] _ rfl cvX10_passes ml_10_388 sh_76 rfl rfl (Nat.le_of_ble_eq_true rfl) (Nat.le_of_ble_eq_true rfl) dX10_struck_48 ?_
            refine sp_X10_passes ev13 ?_
            refine fm_ret1 ?_
            refine fm_if_eq (pc := 51) 58 (by decide) dX10_struck_51 (fun c51 => ?_) (fun c51 => ?_)
            · replace h := fm_itp c51 h
              refine fm_iconstv (pc := 58) 0 (by decide) dX10_struck_58 ?_
              refine fm_iret (pc := 59) rfl ?_ dX10_struck_59
              cases h
              exact hq
            · replace h := fm_itn c51 h
              refine fm_iconstv (pc := 54) 1 (by decide) dX10_struck_54 ?_
              refine fm_goto (pc := 55) 59 (by decide) dX10_struck_55 ?_
              refine fm_iret (pc := 59) rfl ?_ dX10_struck_59
              cases h
              exact hq
        · replace h := fm_itp c24 h
          refine fl_aload0 (pc := 27) dX10_struck_27 ?_
          refine fm_iconstv (pc := 28) 0 (by decide) dX10_struck_28 ?_
          refine fl_iload1 (pc := 29) dX10_struck_29 ?_
          obtain ⟨v15, M16, ev15, h⟩ := fm_bdp h
          refine fm_callV (pc := 30) mX10_humAll [_, _] _ rfl cvX10_humAll ml_10_385 sh_76 rfl rfl (Nat.le_of_ble_eq_true rfl) (Nat.le_of_ble_eq_true rfl) dX10_struck_30 ?_
          refine sp_X10_humAll ev15 ?_
          refine fm_ret1 ?_
          refine fm_iret (pc := 33) rfl ?_ dX10_struck_33
          cases h
          exact hq
      · replace h := fm_itn c18 h
        refine fm_iconstv (pc := 21) (-1) (by decide) dX10_struck_21 ?_
        refine fm_iret (pc := 22) rfl ?_ dX10_struck_22
        cases h
        exact hq
/-! X10_law -/
def J_X10_law_104 (l1 : Int32) (l2 : Int32) (l3 : Int32) (l4 : Int32) (M : fm_M) : Option (Int64 × fm_M) :=
    fm_bd (F_X10_goes l1 M) (fun v8 M9 =>
    if v8 = 0 then (
      some ((-9223372036854775808), M9)
    ) else (
      fm_gd (fm_inb 0 64) (
      some ((M9.2 93 (Int32.toNatClampNeg 0)), M9))
    ))
def J_X10_law_104_1 (l1 : Int32) (l2 : Int32) (l3 : Int32) (M : fm_M) : Option (Int64 × fm_M) :=
    fm_bd (F_X10_goes l1 M) (fun v13 M14 =>
    if v13 = 0 then (
      some ((-9223372036854775808), M14)
    ) else (
      fm_gd (fm_inb 0 64) (
      some ((M14.2 93 (Int32.toNatClampNeg 0)), M14))
    ))
def J_X10_law_51 (l1 : Int32) (l2 : Int32) (l3 : Int32) (M : fm_M) : Option (Int64 × fm_M) :=
    if l1 = 0 then (
      fm_gd (fm_inb l2 184) (
      fm_bd (F_X10_callsHum 0 l2 (M.1 98 (Int32.toNatClampNeg l2)) l3 M) (fun v17 M18 =>
      J_X10_law_104_1 l1 l2 l3 M18))
    ) else (
      if l1 = 1 then (
        fm_bd (F_X10_callsRust 0 l2 M) (fun v11 M12 =>
        J_X10_law_104_1 l1 l2 l3 M12)
      ) else (
        fm_bd (F_X10_humAll 0 l3 M) (fun v4 M5 =>
        fm_bd (F_X10_calls 0 0 l3 0 v4 0 M5) (fun v6 M7 =>
        J_X10_law_104 l1 l2 l3 v4 M7))
      )
    )
def J_X10_law_35 (l1 : Int32) (l2 : Int32) (l3 : Int32) (M : fm_M) : Option (Int64 × fm_M) :=
    if l1 = 1 then (
      J_X10_law_51 l1 l2 l3 M
    ) else (
      fm_bd (F_X10_isNote l3 M) (fun v19 M20 =>
      if v19 = 0 then (
        some ((-9223372036854775808), M20)
      ) else (
        J_X10_law_51 l1 l2 l3 M20
      ))
    )
def F_X10_law (a1 : Int32) (a2 : Int32) (a3 : Int32) (M : fm_M) : Option (Int64 × fm_M) :=
    fm_lt (fm_up M 76 0 0) (fun M1 =>
    if a1 < 0 then (
      some ((-9223372036854775808), M1)
    ) else (
      if 2 < a1 then (
        some ((-9223372036854775808), M1)
      ) else (
        fm_bd (F_X10_hasLaw a1 M1) (fun v2 M3 =>
        if v2 = 0 then (
          some ((-9223372036854775808), M3)
        ) else (
          if a1 = 2 then (
            J_X10_law_35 a1 a2 a3 M3
          ) else (
            fm_bd (F_X10_isFork a2 M3) (fun v21 M22 =>
            if v21 = 0 then (
              some ((-9223372036854775808), M22)
            ) else (
              J_X10_law_35 a1 a2 a3 M22
            ))
          )
        ))
      )
    ))
theorem jn_X10_law_104 {d : Nat} {Q : Option Value → fm_M → Prop}  (l1 : Int32) (l2 : Int32) (l3 : Int32) (l4 : Int32) {x : Int64 × fm_M}  (hq : Q (some (.long x.1)) x.2) (M : fm_M) (h : J_X10_law_104 l1 l2 l3 l4 M = some x) : fm_mw (d + 8) mX10_law Q 104 [some (.ref 76), some (.int l1), some (.int l2), some (.int l3), some (.int l4)] [] M := by
  rw [J_X10_law_104] at h
  refine fl_aload0 (pc := 104) dX10_law_104 ?_
  refine fl_iload1 (pc := 105) dX10_law_105 ?_
  obtain ⟨v8, M9, ev8, h⟩ := fm_bdp h
  refine fm_callV (pc := 106) mX10_goes [_] _ rfl cvX10_goes ml_10_353 sh_76 rfl rfl (Nat.le_of_ble_eq_true rfl) (Nat.le_of_ble_eq_true rfl) dX10_law_106 ?_
  refine sp_X10_goes ev8 ?_
  refine fm_ret1 ?_
  refine fm_if_eq (pc := 109) 121 (by decide) dX10_law_109 (fun c109 => ?_) (fun c109 => ?_)
  · replace h := fm_itp c109 h
    refine fm_ldc2 (pc := 121) kc_10_412 dX10_law_121 ?_
    refine fm_lret (pc := 124) rfl ?_ dX10_law_124
    cases h
    exact hq
  · replace h := fm_itn c109 h
    refine fl_aload0 (pc := 112) dX10_law_112 ?_
    refine fm_getr (pc := 113) lk_10_63 sh_76 rfl dX10_law_113 ?_
    refine fm_iconstv (pc := 116) 0 (by decide) dX10_law_116 ?_
    obtain ⟨g10, h⟩ := fm_gdp h
    refine fm_lald (pc := 117) sh_93 (fm_inb_ok g10) dX10_law_117 ?_
    refine fm_goto (pc := 118) 124 (by decide) dX10_law_118 ?_
    refine fm_lret (pc := 124) rfl ?_ dX10_law_124
    cases h
    exact hq
theorem jn_X10_law_104_1 {d : Nat} {Q : Option Value → fm_M → Prop}  (l1 : Int32) (l2 : Int32) (l3 : Int32) {x : Int64 × fm_M}  (hq : Q (some (.long x.1)) x.2) (M : fm_M) (h : J_X10_law_104_1 l1 l2 l3 M = some x) : fm_mw (d + 8) mX10_law Q 104 [some (.ref 76), some (.int l1), some (.int l2), some (.int l3), none] [] M := by
  rw [J_X10_law_104_1] at h
  refine fl_aload0 (pc := 104) dX10_law_104 ?_
  refine fl_iload1 (pc := 105) dX10_law_105 ?_
  obtain ⟨v13, M14, ev13, h⟩ := fm_bdp h
  refine fm_callV (pc := 106) mX10_goes [_] _ rfl cvX10_goes ml_10_353 sh_76 rfl rfl (Nat.le_of_ble_eq_true rfl) (Nat.le_of_ble_eq_true rfl) dX10_law_106 ?_
  refine sp_X10_goes ev13 ?_
  refine fm_ret1 ?_
  refine fm_if_eq (pc := 109) 121 (by decide) dX10_law_109 (fun c109 => ?_) (fun c109 => ?_)
  · replace h := fm_itp c109 h
    refine fm_ldc2 (pc := 121) kc_10_412 dX10_law_121 ?_
    refine fm_lret (pc := 124) rfl ?_ dX10_law_124
    cases h
    exact hq
  · replace h := fm_itn c109 h
    refine fl_aload0 (pc := 112) dX10_law_112 ?_
    refine fm_getr (pc := 113) lk_10_63 sh_76 rfl dX10_law_113 ?_
    refine fm_iconstv (pc := 116) 0 (by decide) dX10_law_116 ?_
    obtain ⟨g15, h⟩ := fm_gdp h
    refine fm_lald (pc := 117) sh_93 (fm_inb_ok g15) dX10_law_117 ?_
    refine fm_goto (pc := 118) 124 (by decide) dX10_law_118 ?_
    refine fm_lret (pc := 124) rfl ?_ dX10_law_124
    cases h
    exact hq
theorem jn_X10_law_51 {d : Nat} {Q : Option Value → fm_M → Prop}  (l1 : Int32) (l2 : Int32) (l3 : Int32) {x : Int64 × fm_M}  (hq : Q (some (.long x.1)) x.2) (M : fm_M) (h : J_X10_law_51 l1 l2 l3 M = some x) : fm_mw (d + 8) mX10_law Q 51 [some (.ref 76), some (.int l1), some (.int l2), some (.int l3), none] [] M := by
  rw [J_X10_law_51] at h
  refine fl_iload1 (pc := 51) dX10_law_51 ?_
  refine fm_if_ne (pc := 52) 71 (by decide) dX10_law_52 (fun c52 => ?_) (fun c52 => ?_)
  · replace h := fm_itn c52 h
    refine fl_iload1 (pc := 71) dX10_law_71 ?_
    refine fm_iconstv (pc := 72) 1 (by decide) dX10_law_72 ?_
    refine fm_icmp_ne (pc := 73) 85 (by decide) dX10_law_73 (fun c73 => ?_) (fun c73 => ?_)
    · replace h := fm_itn c73 h
      refine fl_aload0 (pc := 85) dX10_law_85 ?_
      refine fm_iconstv (pc := 86) 0 (by decide) dX10_law_86 ?_
      refine fl_iload3 (pc := 87) dX10_law_87 ?_
      obtain ⟨v4, M5, ev4, h⟩ := fm_bdp h
      refine fm_callV (pc := 88) mX10_humAll [_, _] _ rfl cvX10_humAll ml_10_385 sh_76 rfl rfl (Nat.le_of_ble_eq_true rfl) (Nat.le_of_ble_eq_true rfl) dX10_law_88 ?_
      refine sp_X10_humAll ev4 ?_
      refine fm_ret1 ?_
      refine fl_istore4 (pc := 91) rfl (by decide) dX10_law_91 ?_
      refine fl_aload0 (pc := 93) dX10_law_93 ?_
      refine fm_iconstv (pc := 94) 0 (by decide) dX10_law_94 ?_
      refine fm_iconstv (pc := 95) 0 (by decide) dX10_law_95 ?_
      refine fl_iload3 (pc := 96) dX10_law_96 ?_
      refine fm_iconstv (pc := 97) 0 (by decide) dX10_law_97 ?_
      refine fl_iload4 (pc := 98) dX10_law_98 ?_
      refine fm_iconstv (pc := 100) 0 (by decide) dX10_law_100 ?_
      obtain ⟨v6, M7, ev6, h⟩ := fm_bdp h
      refine fm_callV (pc := 101) mX10_calls [_, _, _, _, _, _] _ rfl cvX10_calls ml_10_346 sh_76 rfl rfl (Nat.le_of_ble_eq_true rfl) (Nat.le_of_ble_eq_true rfl) dX10_law_101 ?_
      refine sp_X10_calls ev6 ?_
      refine fm_ret0 ?_
      exact jn_X10_law_104 _ _ _ _  hq _ h
    · replace h := fm_itp c73 h
      refine fl_aload0 (pc := 76) dX10_law_76 ?_
      refine fm_iconstv (pc := 77) 0 (by decide) dX10_law_77 ?_
      refine fl_iload2 (pc := 78) dX10_law_78 ?_
      obtain ⟨v11, M12, ev11, h⟩ := fm_bdp h
      refine fm_callV (pc := 79) mX10_callsRust [_, _] _ rfl cvX10_callsRust ml_10_395 sh_76 rfl rfl (Nat.le_of_ble_eq_true rfl) (Nat.le_of_ble_eq_true rfl) dX10_law_79 ?_
      refine sp_X10_callsRust ev11 ?_
      refine fm_ret0 ?_
      refine fm_goto (pc := 82) 104 (by decide) dX10_law_82 ?_
      exact jn_X10_law_104_1 _ _ _  hq _ h
  · replace h := fm_itp c52 h
    refine fl_aload0 (pc := 55) dX10_law_55 ?_
    refine fm_iconstv (pc := 56) 0 (by decide) dX10_law_56 ?_
    refine fl_iload2 (pc := 57) dX10_law_57 ?_
    refine fl_aload0 (pc := 58) dX10_law_58 ?_
    refine fm_getr (pc := 59) lk_10_78 sh_76 rfl dX10_law_59 ?_
    refine fl_iload2 (pc := 62) dX10_law_62 ?_
    obtain ⟨g16, h⟩ := fm_gdp h
    refine fm_iald (pc := 63) sh_98 (fm_inb_ok g16) dX10_law_63 ?_
    refine fl_iload3 (pc := 64) dX10_law_64 ?_
    obtain ⟨v17, M18, ev17, h⟩ := fm_bdp h
    refine fm_callV (pc := 65) mX10_callsHum [_, _, _, _] _ rfl cvX10_callsHum ml_10_361 sh_76 rfl rfl (Nat.le_of_ble_eq_true rfl) (Nat.le_of_ble_eq_true rfl) dX10_law_65 ?_
    refine sp_X10_callsHum ev17 ?_
    refine fm_ret0 ?_
    refine fm_goto (pc := 68) 104 (by decide) dX10_law_68 ?_
    exact jn_X10_law_104_1 _ _ _  hq _ h
theorem jn_X10_law_35 {d : Nat} {Q : Option Value → fm_M → Prop}  (l1 : Int32) (l2 : Int32) (l3 : Int32) {x : Int64 × fm_M}  (hq : Q (some (.long x.1)) x.2) (M : fm_M) (h : J_X10_law_35 l1 l2 l3 M = some x) : fm_mw (d + 8) mX10_law Q 35 [some (.ref 76), some (.int l1), some (.int l2), some (.int l3), none] [] M := by
  rw [J_X10_law_35] at h
  refine fl_iload1 (pc := 35) dX10_law_35 ?_
  refine fm_iconstv (pc := 36) 1 (by decide) dX10_law_36 ?_
  refine fm_icmp_eq (pc := 37) 51 (by decide) dX10_law_37 (fun c37 => ?_) (fun c37 => ?_)
  · replace h := fm_itp c37 h
    exact jn_X10_law_51 _ _ _  hq _ h
  · replace h := fm_itn c37 h
    refine fl_iload3 (pc := 40) dX10_law_40 ?_
    obtain ⟨v19, M20, ev19, h⟩ := fm_bdp h
    refine fm_callS (pc := 41) mX10_isNote [_] _ rfl csX10_isNote ml_10_407 rfl (Nat.le_of_ble_eq_true rfl) (Nat.le_of_ble_eq_true rfl) dX10_law_41 ?_
    refine sp_X10_isNote ev19 ?_
    refine fm_ret1 ?_
    refine fm_if_ne (pc := 44) 51 (by decide) dX10_law_44 (fun c44 => ?_) (fun c44 => ?_)
    · replace h := fm_itn c44 h
      exact jn_X10_law_51 _ _ _  hq _ h
    · replace h := fm_itp c44 h
      refine fm_ldc2 (pc := 47) kc_10_412 dX10_law_47 ?_
      refine fm_lret (pc := 50) rfl ?_ dX10_law_50
      cases h
      exact hq
theorem sp_X10_law {d : Nat} {a1 : Int32} {a2 : Int32} {a3 : Int32} {M : fm_M} {x : Int64 × fm_M} {Q : Option Value → fm_M → Prop} (h : F_X10_law a1 a2 a3 M = some x) (hq : Q (some (.long x.1)) x.2) : fm_ct (d + 8) mX10_law [.ref 76, .int a1, .int a2, .int a3] M Q := by
  rw [F_X10_law] at h
  show fm_mw (d + 8) mX10_law Q 0 [some (.ref 76), some (.int a1), some (.int a2), some (.int a3), none] [] M
  refine fl_aload0 (pc := 0) dX10_law_0 ?_
  refine fm_iconstv (pc := 1) 0 (by decide) dX10_law_1 ?_
  refine fm_puti (pc := 2) lp_10_130 sh_76 rfl dX10_law_2 ?_
  obtain ⟨M1, eM1, h⟩ := fm_ltp h
  refine fm_cgm eM1 ?_
  refine fl_iload1 (pc := 5) dX10_law_5 ?_
  refine fm_if_lt (pc := 6) 47 (by decide) dX10_law_6 (fun c6 => ?_) (fun c6 => ?_)
  · replace h := fm_itp c6 h
    refine fm_ldc2 (pc := 47) kc_10_412 dX10_law_47 ?_
    refine fm_lret (pc := 50) rfl ?_ dX10_law_50
    cases h
    exact hq
  · replace h := fm_itn c6 h
    refine fl_iload1 (pc := 9) dX10_law_9 ?_
    refine fm_iconstv (pc := 10) 2 (by decide) dX10_law_10 ?_
    refine fm_icmp_gt (pc := 11) 47 (by decide) dX10_law_11 (fun c11 => ?_) (fun c11 => ?_)
    · replace h := fm_itp c11 h
      refine fm_ldc2 (pc := 47) kc_10_412 dX10_law_47 ?_
      refine fm_lret (pc := 50) rfl ?_ dX10_law_50
      cases h
      exact hq
    · replace h := fm_itn c11 h
      refine fl_aload0 (pc := 14) dX10_law_14 ?_
      refine fl_iload1 (pc := 15) dX10_law_15 ?_
      obtain ⟨v2, M3, ev2, h⟩ := fm_bdp h
      refine fm_callV (pc := 16) mX10_hasLaw [_] _ rfl cvX10_hasLaw ml_10_350 sh_76 rfl rfl (Nat.le_of_ble_eq_true rfl) (Nat.le_of_ble_eq_true rfl) dX10_law_16 ?_
      refine sp_X10_hasLaw ev2 ?_
      refine fm_ret1 ?_
      refine fm_if_eq (pc := 19) 47 (by decide) dX10_law_19 (fun c19 => ?_) (fun c19 => ?_)
      · replace h := fm_itp c19 h
        refine fm_ldc2 (pc := 47) kc_10_412 dX10_law_47 ?_
        refine fm_lret (pc := 50) rfl ?_ dX10_law_50
        cases h
        exact hq
      · replace h := fm_itn c19 h
        refine fl_iload1 (pc := 22) dX10_law_22 ?_
        refine fm_iconstv (pc := 23) 2 (by decide) dX10_law_23 ?_
        refine fm_icmp_eq (pc := 24) 35 (by decide) dX10_law_24 (fun c24 => ?_) (fun c24 => ?_)
        · replace h := fm_itp c24 h
          exact jn_X10_law_35 _ _ _  hq _ h
        · replace h := fm_itn c24 h
          refine fl_aload0 (pc := 27) dX10_law_27 ?_
          refine fl_iload2 (pc := 28) dX10_law_28 ?_
          obtain ⟨v21, M22, ev21, h⟩ := fm_bdp h
          refine fm_callV (pc := 29) mX10_isFork [_] _ rfl cvX10_isFork ml_10_404 sh_76 rfl rfl (Nat.le_of_ble_eq_true rfl) (Nat.le_of_ble_eq_true rfl) dX10_law_29 ?_
          refine sp_X10_isFork ev21 ?_
          refine fm_ret1 ?_
          refine fm_if_eq (pc := 32) 47 (by decide) dX10_law_32 (fun c32 => ?_) (fun c32 => ?_)
          · replace h := fm_itp c32 h
            refine fm_ldc2 (pc := 47) kc_10_412 dX10_law_47 ?_
            refine fm_lret (pc := 50) rfl ?_ dX10_law_50
            cases h
            exact hq
          · replace h := fm_itn c32 h
            exact jn_X10_law_35 _ _ _  hq _ h
/-! X10_keepNow -/
def J_X10_keepNow_45  (M : fm_M) : Option (Unit × fm_M) :=
    fm_bd (F_X10_copies (3 + (M.1 76 42)) 0 M) (fun v1 M2 =>
    fm_lt (fm_up M2 76 42 ((M2.1 76 42) + 1)) (fun M3 =>
    some ((), M3)))
def G_X10_keepNow_11 : Nat → Int32 → fm_M → Option ((Int32) × fm_M)
  | 0, _, _ => none
  | n + 1, l1, M =>
    if 20 ≤ l1 then (
      some (l1, M)
    ) else (
      fm_bd (F_X10_copies ((3 + l1) - 1) (3 + l1) M) (fun v4 M5 =>
      G_X10_keepNow_11 n (l1 + 1) M5)
    )
def J_X10_keepNow_45_1 (l1 : Int32) (M : fm_M) : Option (Unit × fm_M) :=
    fm_bd (F_X10_copies (3 + (M.1 76 42)) 0 M) (fun v9 M10 =>
    fm_lt (fm_up M10 76 42 ((M10.1 76 42) + 1)) (fun M11 =>
    some ((), M11)))
def F_X10_keepNow  (M : fm_M) : Option (Unit × fm_M) :=
    if (M.1 76 42) = 20 then (
      fm_bd (G_X10_keepNow_11 fm_fuel 1 M) (fun w6 M7 =>
        fm_lt (fm_up M7 76 42 ((M7.1 76 42) - 1)) (fun M8 =>
        J_X10_keepNow_45_1 w6 M8))
    ) else (
      J_X10_keepNow_45 M
    )
theorem jn_X10_keepNow_45 {d : Nat} {Q : Option Value → fm_M → Prop}   {x : Unit × fm_M}  (hq : Q none x.2) (M : fm_M) (h : J_X10_keepNow_45 M = some x) : fm_mw (d + 1) mX10_keepNow Q 45 [some (.ref 76), none] [] M := by
  rw [J_X10_keepNow_45] at h
  refine fl_aload0 (pc := 45) dX10_keepNow_45 ?_
  refine fm_iconstv (pc := 46) 3 (by decide) dX10_keepNow_46 ?_
  refine fl_aload0 (pc := 47) dX10_keepNow_47 ?_
  refine fm_geti (pc := 48) lk_10_290 sh_76 rfl dX10_keepNow_48 ?_
  refine fm_iadd (pc := 51) dX10_keepNow_51 ?_
  refine fm_iconstv (pc := 52) 0 (by decide) dX10_keepNow_52 ?_
  obtain ⟨v1, M2, ev1, h⟩ := fm_bdp h
  refine fm_callV (pc := 53) mX10_copies [_, _] _ rfl cvX10_copies ml_10_414 sh_76 rfl rfl (Nat.le_of_ble_eq_true rfl) (Nat.le_of_ble_eq_true rfl) dX10_keepNow_53 ?_
  refine sp_X10_copies ev1 ?_
  refine fm_ret0 ?_
  refine fl_aload0 (pc := 56) dX10_keepNow_56 ?_
  refine fm_dup (pc := 57) rfl dX10_keepNow_57 ?_
  refine fm_geti (pc := 58) lk_10_290 sh_76 rfl dX10_keepNow_58 ?_
  refine fm_iconstv (pc := 61) 1 (by decide) dX10_keepNow_61 ?_
  refine fm_iadd (pc := 62) dX10_keepNow_62 ?_
  refine fm_puti (pc := 63) lp_10_290 sh_76 rfl dX10_keepNow_63 ?_
  obtain ⟨M3, eM3, h⟩ := fm_ltp h
  refine fm_cgm eM3 ?_
  refine fm_vret (pc := 66) rfl ?_ dX10_keepNow_66
  cases h
  exact hq
theorem lp_X10_keepNow_11 {d : Nat} {Q : Option Value → fm_M → Prop}    {x : (Int32) × fm_M} (k1 : ∀ (v : Int32) (M2 : fm_M), x = (v, M2) → fm_mw (d + 1) mX10_keepNow Q 35 [some (.ref 76), some (.int v)] [] M2) : ∀ (n : Nat) (l1 : Int32) (M : fm_M), G_X10_keepNow_11 n l1 M = some x → fm_mw (d + 1) mX10_keepNow Q 11 [some (.ref 76), some (.int l1)] [] M := by
  intro n
  induction n with
  | zero => intro l1 M h; simp [G_X10_keepNow_11] at h
  | succ n ih =>
    intro l1 M h
    rw [G_X10_keepNow_11] at h
    refine fl_iload1 (pc := 11) dX10_keepNow_11 ?_
    refine fm_bipushv (pc := 12) 20 (by decide) dX10_keepNow_12 ?_
    refine fm_icmp_ge (pc := 14) 35 (by decide) dX10_keepNow_14 (fun c14 => ?_) (fun c14 => ?_)
    · replace h := fm_itp c14 h
      refine fm_fgt [some (.ref 76), some (.int l1)] (by simp [fm_sub]) ?_
      cases h
      exact k1 _ _ rfl
    · replace h := fm_itn c14 h
      refine fl_aload0 (pc := 17) dX10_keepNow_17 ?_
      refine fm_iconstv (pc := 18) 3 (by decide) dX10_keepNow_18 ?_
      refine fl_iload1 (pc := 19) dX10_keepNow_19 ?_
      refine fm_iadd (pc := 20) dX10_keepNow_20 ?_
      refine fm_iconstv (pc := 21) 1 (by decide) dX10_keepNow_21 ?_
      refine fm_isub (pc := 22) dX10_keepNow_22 ?_
      refine fm_iconstv (pc := 23) 3 (by decide) dX10_keepNow_23 ?_
      refine fl_iload1 (pc := 24) dX10_keepNow_24 ?_
      refine fm_iadd (pc := 25) dX10_keepNow_25 ?_
      obtain ⟨v4, M5, ev4, h⟩ := fm_bdp h
      refine fm_callV (pc := 26) mX10_copies [_, _] _ rfl cvX10_copies ml_10_414 sh_76 rfl rfl (Nat.le_of_ble_eq_true rfl) (Nat.le_of_ble_eq_true rfl) dX10_keepNow_26 ?_
      refine sp_X10_copies ev4 ?_
      refine fm_ret0 ?_
      refine fl_iinc1 (pc := 29) rfl 1 (by decide) (by decide) dX10_keepNow_29 ?_
      refine fm_goto (pc := 32) 11 (by decide) dX10_keepNow_32 ?_
      refine fm_fgt [some (.ref 76), some (.int (l1 + 1))] (by simp [fm_sub]) ?_
      exact ih _ _ h
theorem jn_X10_keepNow_45_1 {d : Nat} {Q : Option Value → fm_M → Prop}  (l1 : Int32) {x : Unit × fm_M}  (hq : Q none x.2) (M : fm_M) (h : J_X10_keepNow_45_1 l1 M = some x) : fm_mw (d + 1) mX10_keepNow Q 45 [some (.ref 76), some (.int l1)] [] M := by
  rw [J_X10_keepNow_45_1] at h
  refine fl_aload0 (pc := 45) dX10_keepNow_45 ?_
  refine fm_iconstv (pc := 46) 3 (by decide) dX10_keepNow_46 ?_
  refine fl_aload0 (pc := 47) dX10_keepNow_47 ?_
  refine fm_geti (pc := 48) lk_10_290 sh_76 rfl dX10_keepNow_48 ?_
  refine fm_iadd (pc := 51) dX10_keepNow_51 ?_
  refine fm_iconstv (pc := 52) 0 (by decide) dX10_keepNow_52 ?_
  obtain ⟨v9, M10, ev9, h⟩ := fm_bdp h
  refine fm_callV (pc := 53) mX10_copies [_, _] _ rfl cvX10_copies ml_10_414 sh_76 rfl rfl (Nat.le_of_ble_eq_true rfl) (Nat.le_of_ble_eq_true rfl) dX10_keepNow_53 ?_
  refine sp_X10_copies ev9 ?_
  refine fm_ret0 ?_
  refine fl_aload0 (pc := 56) dX10_keepNow_56 ?_
  refine fm_dup (pc := 57) rfl dX10_keepNow_57 ?_
  refine fm_geti (pc := 58) lk_10_290 sh_76 rfl dX10_keepNow_58 ?_
  refine fm_iconstv (pc := 61) 1 (by decide) dX10_keepNow_61 ?_
  refine fm_iadd (pc := 62) dX10_keepNow_62 ?_
  refine fm_puti (pc := 63) lp_10_290 sh_76 rfl dX10_keepNow_63 ?_
  obtain ⟨M11, eM11, h⟩ := fm_ltp h
  refine fm_cgm eM11 ?_
  refine fm_vret (pc := 66) rfl ?_ dX10_keepNow_66
  cases h
  exact hq
theorem sp_X10_keepNow {d : Nat}  {M : fm_M} {x : Unit × fm_M} {Q : Option Value → fm_M → Prop} (h : F_X10_keepNow  M = some x) (hq : Q none x.2) : fm_ct (d + 1) mX10_keepNow [.ref 76] M Q := by
  rw [F_X10_keepNow] at h
  show fm_mw (d + 1) mX10_keepNow Q 0 [some (.ref 76), none] [] M
  refine fl_aload0 (pc := 0) dX10_keepNow_0 ?_
  refine fm_geti (pc := 1) lk_10_290 sh_76 rfl dX10_keepNow_1 ?_
  refine fm_bipushv (pc := 4) 20 (by decide) dX10_keepNow_4 ?_
  refine fm_icmp_ne (pc := 6) 45 (by decide) dX10_keepNow_6 (fun c6 => ?_) (fun c6 => ?_)
  · replace h := fm_itn c6 h
    exact jn_X10_keepNow_45   hq _ h
  · replace h := fm_itp c6 h
    refine fm_iconstv (pc := 9) 1 (by decide) dX10_keepNow_9 ?_
    refine fl_istore1 (pc := 10) rfl (by decide) dX10_keepNow_10 ?_
    obtain ⟨w6, M7, ew6, h⟩ := fm_bdp h
    refine lp_X10_keepNow_11  ?_ _ _ _ ew6
    intro w69 M79 q9
    cases q9
    refine fl_aload0 (pc := 35) dX10_keepNow_35 ?_
    refine fm_dup (pc := 36) rfl dX10_keepNow_36 ?_
    refine fm_geti (pc := 37) lk_10_290 sh_76 rfl dX10_keepNow_37 ?_
    refine fm_iconstv (pc := 40) 1 (by decide) dX10_keepNow_40 ?_
    refine fm_isub (pc := 41) dX10_keepNow_41 ?_
    refine fm_puti (pc := 42) lp_10_290 sh_76 rfl dX10_keepNow_42 ?_
    obtain ⟨M8, eM8, h⟩ := fm_ltp h
    refine fm_cgm eM8 ?_
    exact jn_X10_keepNow_45_1 _  hq _ h
/-! X10_touch -/
def J_X10_touch_32 (l1 : Int32) (l2 : Int32) (s0 : Int32) (M : fm_M) : Option (Int32 × fm_M) :=
    if s0 = l2 then (
      some (0, M)
    ) else (
      fm_bd (F_X10_keepNow M) (fun v5 M6 =>
      fm_gd (fm_inb 0 23) (
      fm_gd (fm_inb 0 23) (
      fm_lt (fm_up M6 97 (Int32.toNatClampNeg 0) ((M6.1 97 (Int32.toNatClampNeg 0)) ^^^ (1 <<< (l1 &&& 31)))) (fun M9 =>
      some (1, M9)))))
    )
def F_X10_touch (a1 : Int32) (a2 : Int32) (M : fm_M) : Option (Int32 × fm_M) :=
    fm_lt (fm_up M 76 0 0) (fun M1 =>
    fm_bd (F_X10_isFork a1 M1) (fun v2 M3 =>
    if v2 = 0 then (
      some (0, M3)
    ) else (
      fm_gd (fm_inb 0 23) (
      if (((M3.1 97 (Int32.toNatClampNeg 0)) >>> (a1 &&& 31)) &&& 1) = 1 then (
        J_X10_touch_32 a1 a2 1 M3
      ) else (
        J_X10_touch_32 a1 a2 0 M3
      ))
    )))
theorem jn_X10_touch_32 {d : Nat} {Q : Option Value → fm_M → Prop}  (l1 : Int32) (l2 : Int32) (s0 : Int32) {x : Int32 × fm_M}  (hq : Q (some (.int x.1)) x.2) (M : fm_M) (h : J_X10_touch_32 l1 l2 s0 M = some x) : fm_mw (d + 2) mX10_touch Q 32 [some (.ref 76), some (.int l1), some (.int l2)] [(.int s0)] M := by
  rw [J_X10_touch_32] at h
  refine fl_iload2 (pc := 32) dX10_touch_32 ?_
  refine fm_icmp_ne (pc := 33) 38 (by decide) dX10_touch_33 (fun c33 => ?_) (fun c33 => ?_)
  · replace h := fm_itn c33 h
    refine fl_aload0 (pc := 38) dX10_touch_38 ?_
    obtain ⟨v5, M6, ev5, h⟩ := fm_bdp h
    refine fm_callV (pc := 39) mX10_keepNow [] _ rfl cvX10_keepNow ml_10_417 sh_76 rfl rfl (Nat.le_of_ble_eq_true rfl) (Nat.le_of_ble_eq_true rfl) dX10_touch_39 ?_
    refine sp_X10_keepNow ev5 ?_
    refine fm_ret0 ?_
    refine fl_aload0 (pc := 42) dX10_touch_42 ?_
    refine fm_getr (pc := 43) lk_10_75 sh_76 rfl dX10_touch_43 ?_
    refine fm_iconstv (pc := 46) 0 (by decide) dX10_touch_46 ?_
    refine fm_dup2 (pc := 47) rfl rfl dX10_touch_47 ?_
    obtain ⟨g7, h⟩ := fm_gdp h
    refine fm_iald (pc := 48) sh_97 (fm_inb_ok g7) dX10_touch_48 ?_
    refine fm_iconstv (pc := 49) 1 (by decide) dX10_touch_49 ?_
    refine fl_iload1 (pc := 50) dX10_touch_50 ?_
    refine fm_ishl (pc := 51) dX10_touch_51 ?_
    refine fm_ixor (pc := 52) dX10_touch_52 ?_
    obtain ⟨g8, h⟩ := fm_gdp h
    refine fm_iast (pc := 53) sh_97 (fm_inb_ok g8) dX10_touch_53 ?_
    obtain ⟨M9, eM9, h⟩ := fm_ltp h
    refine fm_cgm eM9 ?_
    refine fm_iconstv (pc := 54) 1 (by decide) dX10_touch_54 ?_
    refine fm_zret (pc := 55) rfl (by decide) ?_ dX10_touch_55
    cases h
    exact hq
  · replace h := fm_itp c33 h
    refine fm_iconstv (pc := 36) 0 (by decide) dX10_touch_36 ?_
    refine fm_zret (pc := 37) rfl (by decide) ?_ dX10_touch_37
    cases h
    exact hq
theorem sp_X10_touch {d : Nat} {a1 : Int32} {a2 : Int32} {M : fm_M} {x : Int32 × fm_M} {Q : Option Value → fm_M → Prop} (h : F_X10_touch a1 a2 M = some x) (hq : Q (some (.int x.1)) x.2) : fm_ct (d + 2) mX10_touch [.ref 76, .int a1, .int a2] M Q := by
  rw [F_X10_touch] at h
  show fm_mw (d + 2) mX10_touch Q 0 [some (.ref 76), some (.int a1), some (.int a2)] [] M
  refine fl_aload0 (pc := 0) dX10_touch_0 ?_
  refine fm_iconstv (pc := 1) 0 (by decide) dX10_touch_1 ?_
  refine fm_puti (pc := 2) lp_10_130 sh_76 rfl dX10_touch_2 ?_
  obtain ⟨M1, eM1, h⟩ := fm_ltp h
  refine fm_cgm eM1 ?_
  refine fl_aload0 (pc := 5) dX10_touch_5 ?_
  refine fl_iload1 (pc := 6) dX10_touch_6 ?_
  obtain ⟨v2, M3, ev2, h⟩ := fm_bdp h
  refine fm_callV (pc := 7) mX10_isFork [_] _ rfl cvX10_isFork ml_10_404 sh_76 rfl rfl (Nat.le_of_ble_eq_true rfl) (Nat.le_of_ble_eq_true rfl) dX10_touch_7 ?_
  refine sp_X10_isFork ev2 ?_
  refine fm_ret1 ?_
  refine fm_if_eq (pc := 10) 36 (by decide) dX10_touch_10 (fun c10 => ?_) (fun c10 => ?_)
  · replace h := fm_itp c10 h
    refine fm_iconstv (pc := 36) 0 (by decide) dX10_touch_36 ?_
    refine fm_zret (pc := 37) rfl (by decide) ?_ dX10_touch_37
    cases h
    exact hq
  · replace h := fm_itn c10 h
    refine fl_aload0 (pc := 13) dX10_touch_13 ?_
    refine fm_getr (pc := 14) lk_10_75 sh_76 rfl dX10_touch_14 ?_
    refine fm_iconstv (pc := 17) 0 (by decide) dX10_touch_17 ?_
    obtain ⟨g4, h⟩ := fm_gdp h
    refine fm_iald (pc := 18) sh_97 (fm_inb_ok g4) dX10_touch_18 ?_
    refine fl_iload1 (pc := 19) dX10_touch_19 ?_
    refine fm_ishr (pc := 20) dX10_touch_20 ?_
    refine fm_iconstv (pc := 21) 1 (by decide) dX10_touch_21 ?_
    refine fm_iand (pc := 22) dX10_touch_22 ?_
    refine fm_iconstv (pc := 23) 1 (by decide) dX10_touch_23 ?_
    refine fm_icmp_ne (pc := 24) 31 (by decide) dX10_touch_24 (fun c24 => ?_) (fun c24 => ?_)
    · replace h := fm_itn c24 h
      refine fm_iconstv (pc := 31) 0 (by decide) dX10_touch_31 ?_
      exact jn_X10_touch_32 _ _ _  hq _ h
    · replace h := fm_itp c24 h
      refine fm_iconstv (pc := 27) 1 (by decide) dX10_touch_27 ?_
      refine fm_goto (pc := 28) 32 (by decide) dX10_touch_28 ?_
      exact jn_X10_touch_32 _ _ _  hq _ h
/-! X10_file -/
def F_X10_file (a1 : Int32) (a2 : Int32) (M : fm_M) : Option (Int32 × fm_M) :=
    fm_lt (fm_up M 76 0 0) (fun M1 =>
    fm_bd (F_X10_isFork a1 M1) (fun v2 M3 =>
    if v2 = 0 then (
      some ((-1), M3)
    ) else (
      if a2 < (-99) then (
        some ((-1), M3)
      ) else (
        if 99 < a2 then (
          some ((-1), M3)
        ) else (
          if a2 = 0 then (
            some ((-1), M3)
          ) else (
            fm_gd (fm_inb a1 184) (
            fm_bd (F_X10_isNote ((M3.1 98 (Int32.toNatClampNeg a1)) + a2) M3) (fun v5 M6 =>
            if v5 = 0 then (
              some ((-1), M6)
            ) else (
              fm_gd (fm_inb 5 20) (
              fm_lt (((M6.1 78 (Int32.toNatClampNeg 5)) * (i_abs a2))) (fun x8 =>
              fm_gd (fm_inb 0 23) (
              if x8 ≤ (M6.1 95 (Int32.toNatClampNeg 0)) then (
                fm_bd (F_X10_keepNow M6) (fun v10 M11 =>
                fm_gd (fm_inb 0 23) (
                fm_gd (fm_inb 0 23) (
                fm_lt (fm_up M11 95 (Int32.toNatClampNeg 0) ((M11.1 95 (Int32.toNatClampNeg 0)) - x8)) (fun M14 =>
                fm_gd (fm_inb 0 23) (
                fm_gd (fm_inb 0 23) (
                fm_lt (fm_up M14 96 (Int32.toNatClampNeg 0) ((M14.1 96 (Int32.toNatClampNeg 0)) + x8)) (fun M17 =>
                fm_gd (fm_inb a1 184) (
                fm_gd (fm_inb a1 184) (
                fm_lt (fm_up M17 98 (Int32.toNatClampNeg a1) ((M17.1 98 (Int32.toNatClampNeg a1)) + a2)) (fun M20 =>
                fm_gd (fm_inb a1 184) (
                some ((M20.1 98 (Int32.toNatClampNeg a1)), M20))))))))))))
              ) else (
                some ((-2), M6)
              ))))
            )))
          )
        )
      )
    )))
theorem sp_X10_file {d : Nat} {a1 : Int32} {a2 : Int32} {M : fm_M} {x : Int32 × fm_M} {Q : Option Value → fm_M → Prop} (h : F_X10_file a1 a2 M = some x) (hq : Q (some (.int x.1)) x.2) : fm_ct (d + 2) mX10_file [.ref 76, .int a1, .int a2] M Q := by
  rw [F_X10_file] at h
  show fm_mw (d + 2) mX10_file Q 0 [some (.ref 76), some (.int a1), some (.int a2), none] [] M
  refine fl_aload0 (pc := 0) dX10_file_0 ?_
  refine fm_iconstv (pc := 1) 0 (by decide) dX10_file_1 ?_
  refine fm_puti (pc := 2) lp_10_130 sh_76 rfl dX10_file_2 ?_
  obtain ⟨M1, eM1, h⟩ := fm_ltp h
  refine fm_cgm eM1 ?_
  refine fl_aload0 (pc := 5) dX10_file_5 ?_
  refine fl_iload1 (pc := 6) dX10_file_6 ?_
  obtain ⟨v2, M3, ev2, h⟩ := fm_bdp h
  refine fm_callV (pc := 7) mX10_isFork [_] _ rfl cvX10_isFork ml_10_404 sh_76 rfl rfl (Nat.le_of_ble_eq_true rfl) (Nat.le_of_ble_eq_true rfl) dX10_file_7 ?_
  refine sp_X10_isFork ev2 ?_
  refine fm_ret1 ?_
  refine fm_if_eq (pc := 10) 43 (by decide) dX10_file_10 (fun c10 => ?_) (fun c10 => ?_)
  · replace h := fm_itp c10 h
    refine fm_iconstv (pc := 43) (-1) (by decide) dX10_file_43 ?_
    refine fm_iret (pc := 44) rfl ?_ dX10_file_44
    cases h
    exact hq
  · replace h := fm_itn c10 h
    refine fl_iload2 (pc := 13) dX10_file_13 ?_
    refine fm_bipushv (pc := 14) (-99) (by decide) dX10_file_14 ?_
    refine fm_icmp_lt (pc := 16) 43 (by decide) dX10_file_16 (fun c16 => ?_) (fun c16 => ?_)
    · replace h := fm_itp c16 h
      refine fm_iconstv (pc := 43) (-1) (by decide) dX10_file_43 ?_
      refine fm_iret (pc := 44) rfl ?_ dX10_file_44
      cases h
      exact hq
    · replace h := fm_itn c16 h
      refine fl_iload2 (pc := 19) dX10_file_19 ?_
      refine fm_bipushv (pc := 20) 99 (by decide) dX10_file_20 ?_
      refine fm_icmp_gt (pc := 22) 43 (by decide) dX10_file_22 (fun c22 => ?_) (fun c22 => ?_)
      · replace h := fm_itp c22 h
        refine fm_iconstv (pc := 43) (-1) (by decide) dX10_file_43 ?_
        refine fm_iret (pc := 44) rfl ?_ dX10_file_44
        cases h
        exact hq
      · replace h := fm_itn c22 h
        refine fl_iload2 (pc := 25) dX10_file_25 ?_
        refine fm_if_eq (pc := 26) 43 (by decide) dX10_file_26 (fun c26 => ?_) (fun c26 => ?_)
        · replace h := fm_itp c26 h
          refine fm_iconstv (pc := 43) (-1) (by decide) dX10_file_43 ?_
          refine fm_iret (pc := 44) rfl ?_ dX10_file_44
          cases h
          exact hq
        · replace h := fm_itn c26 h
          refine fl_aload0 (pc := 29) dX10_file_29 ?_
          refine fm_getr (pc := 30) lk_10_78 sh_76 rfl dX10_file_30 ?_
          refine fl_iload1 (pc := 33) dX10_file_33 ?_
          obtain ⟨g4, h⟩ := fm_gdp h
          refine fm_iald (pc := 34) sh_98 (fm_inb_ok g4) dX10_file_34 ?_
          refine fl_iload2 (pc := 35) dX10_file_35 ?_
          refine fm_iadd (pc := 36) dX10_file_36 ?_
          obtain ⟨v5, M6, ev5, h⟩ := fm_bdp h
          refine fm_callS (pc := 37) mX10_isNote [_] _ rfl csX10_isNote ml_10_407 rfl (Nat.le_of_ble_eq_true rfl) (Nat.le_of_ble_eq_true rfl) dX10_file_37 ?_
          refine sp_X10_isNote ev5 ?_
          refine fm_ret1 ?_
          refine fm_if_ne (pc := 40) 45 (by decide) dX10_file_40 (fun c40 => ?_) (fun c40 => ?_)
          · replace h := fm_itn c40 h
            refine fl_aload0 (pc := 45) dX10_file_45 ?_
            refine fm_getr (pc := 46) lk_10_13 sh_76 rfl dX10_file_46 ?_
            refine fm_iconstv (pc := 49) 5 (by decide) dX10_file_49 ?_
            obtain ⟨g7, h⟩ := fm_gdp h
            refine fm_iald (pc := 50) sh_78 (fm_inb_ok g7) dX10_file_50 ?_
            refine fl_iload2 (pc := 51) dX10_file_51 ?_
            refine fq_mabs (pc := 52) ml_10_334 (Nat.le_of_ble_eq_true rfl) dX10_file_52 ?_
            refine fm_imul (pc := 55) dX10_file_55 ?_
            obtain ⟨x8, ex8, h⟩ := fm_ltp h
            refine fm_cgi ex8 ?_
            refine fl_istore3 (pc := 56) rfl (by decide) dX10_file_56 ?_
            refine fl_iload3 (pc := 57) dX10_file_57 ?_
            refine fl_aload0 (pc := 58) dX10_file_58 ?_
            refine fm_getr (pc := 59) lk_10_69 sh_76 rfl dX10_file_59 ?_
            refine fm_iconstv (pc := 62) 0 (by decide) dX10_file_62 ?_
            obtain ⟨g9, h⟩ := fm_gdp h
            refine fm_iald (pc := 63) sh_95 (fm_inb_ok g9) dX10_file_63 ?_
            refine fm_icmp_le (pc := 64) 70 (by decide) dX10_file_64 (fun c64 => ?_) (fun c64 => ?_)
            · replace h := fm_itp c64 h
              refine fl_aload0 (pc := 70) dX10_file_70 ?_
              obtain ⟨v10, M11, ev10, h⟩ := fm_bdp h
              refine fm_callV (pc := 71) mX10_keepNow [] _ rfl cvX10_keepNow ml_10_417 sh_76 rfl rfl (Nat.le_of_ble_eq_true rfl) (Nat.le_of_ble_eq_true rfl) dX10_file_71 ?_
              refine sp_X10_keepNow ev10 ?_
              refine fm_ret0 ?_
              refine fl_aload0 (pc := 74) dX10_file_74 ?_
              refine fm_getr (pc := 75) lk_10_69 sh_76 rfl dX10_file_75 ?_
              refine fm_iconstv (pc := 78) 0 (by decide) dX10_file_78 ?_
              refine fm_dup2 (pc := 79) rfl rfl dX10_file_79 ?_
              obtain ⟨g12, h⟩ := fm_gdp h
              refine fm_iald (pc := 80) sh_95 (fm_inb_ok g12) dX10_file_80 ?_
              refine fl_iload3 (pc := 81) dX10_file_81 ?_
              refine fm_isub (pc := 82) dX10_file_82 ?_
              obtain ⟨g13, h⟩ := fm_gdp h
              refine fm_iast (pc := 83) sh_95 (fm_inb_ok g13) dX10_file_83 ?_
              obtain ⟨M14, eM14, h⟩ := fm_ltp h
              refine fm_cgm eM14 ?_
              refine fl_aload0 (pc := 84) dX10_file_84 ?_
              refine fm_getr (pc := 85) lk_10_72 sh_76 rfl dX10_file_85 ?_
              refine fm_iconstv (pc := 88) 0 (by decide) dX10_file_88 ?_
              refine fm_dup2 (pc := 89) rfl rfl dX10_file_89 ?_
              obtain ⟨g15, h⟩ := fm_gdp h
              refine fm_iald (pc := 90) sh_96 (fm_inb_ok g15) dX10_file_90 ?_
              refine fl_iload3 (pc := 91) dX10_file_91 ?_
              refine fm_iadd (pc := 92) dX10_file_92 ?_
              obtain ⟨g16, h⟩ := fm_gdp h
              refine fm_iast (pc := 93) sh_96 (fm_inb_ok g16) dX10_file_93 ?_
              obtain ⟨M17, eM17, h⟩ := fm_ltp h
              refine fm_cgm eM17 ?_
              refine fl_aload0 (pc := 94) dX10_file_94 ?_
              refine fm_getr (pc := 95) lk_10_78 sh_76 rfl dX10_file_95 ?_
              refine fl_iload1 (pc := 98) dX10_file_98 ?_
              refine fm_dup2 (pc := 99) rfl rfl dX10_file_99 ?_
              obtain ⟨g18, h⟩ := fm_gdp h
              refine fm_iald (pc := 100) sh_98 (fm_inb_ok g18) dX10_file_100 ?_
              refine fl_iload2 (pc := 101) dX10_file_101 ?_
              refine fm_iadd (pc := 102) dX10_file_102 ?_
              obtain ⟨g19, h⟩ := fm_gdp h
              refine fm_iast (pc := 103) sh_98 (fm_inb_ok g19) dX10_file_103 ?_
              obtain ⟨M20, eM20, h⟩ := fm_ltp h
              refine fm_cgm eM20 ?_
              refine fl_aload0 (pc := 104) dX10_file_104 ?_
              refine fm_getr (pc := 105) lk_10_78 sh_76 rfl dX10_file_105 ?_
              refine fl_iload1 (pc := 108) dX10_file_108 ?_
              obtain ⟨g21, h⟩ := fm_gdp h
              refine fm_iald (pc := 109) sh_98 (fm_inb_ok g21) dX10_file_109 ?_
              refine fm_iret (pc := 110) rfl ?_ dX10_file_110
              cases h
              exact hq
            · replace h := fm_itn c64 h
              refine fm_bipushv (pc := 67) (-2) (by decide) dX10_file_67 ?_
              refine fm_iret (pc := 69) rfl ?_ dX10_file_69
              cases h
              exact hq
          · replace h := fm_itp c40 h
            refine fm_iconstv (pc := 43) (-1) (by decide) dX10_file_43 ?_
            refine fm_iret (pc := 44) rfl ?_ dX10_file_44
            cases h
            exact hq
/-! X10_put -/
def F_X10_put (a1 : Int32) (a2 : Int32) (M : fm_M) : Option (Int32 × fm_M) :=
    fm_lt (fm_up M 76 0 0) (fun M1 =>
    fm_bd (F_X10_isMotion a1 M1) (fun v2 M3 =>
    if v2 = 0 then (
      some (0, M3)
    ) else (
      fm_gd (fm_inb 0 23) (
      if a2 < (M3.1 94 (Int32.toNatClampNeg 0)) then (
        some (0, M3)
      ) else (
        if 9999 < a2 then (
          some (0, M3)
        ) else (
          fm_gd (fm_inb a1 230) (
          if (M3.1 100 (Int32.toNatClampNeg a1)) = (-1) then (
            fm_gd (fm_inb a1 230) (
            if (M3.1 99 (Int32.toNatClampNeg a1)) = a2 then (
              some (0, M3)
            ) else (
              fm_bd (F_X10_keepNow M3) (fun v7 M8 =>
              fm_gd (fm_inb a1 230) (
              fm_lt (fm_up M8 99 (Int32.toNatClampNeg a1) a2) (fun M10 =>
              some (1, M10))))
            ))
          ) else (
            some (0, M3)
          ))
        )
      ))
    )))
theorem sp_X10_put {d : Nat} {a1 : Int32} {a2 : Int32} {M : fm_M} {x : Int32 × fm_M} {Q : Option Value → fm_M → Prop} (h : F_X10_put a1 a2 M = some x) (hq : Q (some (.int x.1)) x.2) : fm_ct (d + 2) mX10_put [.ref 76, .int a1, .int a2] M Q := by
  rw [F_X10_put] at h
  show fm_mw (d + 2) mX10_put Q 0 [some (.ref 76), some (.int a1), some (.int a2)] [] M
  refine fl_aload0 (pc := 0) dX10_put_0 ?_
  refine fm_iconstv (pc := 1) 0 (by decide) dX10_put_1 ?_
  refine fm_puti (pc := 2) lp_10_130 sh_76 rfl dX10_put_2 ?_
  obtain ⟨M1, eM1, h⟩ := fm_ltp h
  refine fm_cgm eM1 ?_
  refine fl_aload0 (pc := 5) dX10_put_5 ?_
  refine fl_iload1 (pc := 6) dX10_put_6 ?_
  obtain ⟨v2, M3, ev2, h⟩ := fm_bdp h
  refine fm_callV (pc := 7) mX10_isMotion [_] _ rfl cvX10_isMotion ml_10_401 sh_76 rfl rfl (Nat.le_of_ble_eq_true rfl) (Nat.le_of_ble_eq_true rfl) dX10_put_7 ?_
  refine sp_X10_isMotion ev2 ?_
  refine fm_ret1 ?_
  refine fm_if_eq (pc := 10) 50 (by decide) dX10_put_10 (fun c10 => ?_) (fun c10 => ?_)
  · replace h := fm_itp c10 h
    refine fm_iconstv (pc := 50) 0 (by decide) dX10_put_50 ?_
    refine fm_zret (pc := 51) rfl (by decide) ?_ dX10_put_51
    cases h
    exact hq
  · replace h := fm_itn c10 h
    refine fl_iload2 (pc := 13) dX10_put_13 ?_
    refine fl_aload0 (pc := 14) dX10_put_14 ?_
    refine fm_getr (pc := 15) lk_10_66 sh_76 rfl dX10_put_15 ?_
    refine fm_iconstv (pc := 18) 0 (by decide) dX10_put_18 ?_
    obtain ⟨g4, h⟩ := fm_gdp h
    refine fm_iald (pc := 19) sh_94 (fm_inb_ok g4) dX10_put_19 ?_
    refine fm_icmp_lt (pc := 20) 50 (by decide) dX10_put_20 (fun c20 => ?_) (fun c20 => ?_)
    · replace h := fm_itp c20 h
      refine fm_iconstv (pc := 50) 0 (by decide) dX10_put_50 ?_
      refine fm_zret (pc := 51) rfl (by decide) ?_ dX10_put_51
      cases h
      exact hq
    · replace h := fm_itn c20 h
      refine fl_iload2 (pc := 23) dX10_put_23 ?_
      refine fm_sipushv (pc := 24) 9999 (by decide) dX10_put_24 ?_
      refine fm_icmp_gt (pc := 27) 50 (by decide) dX10_put_27 (fun c27 => ?_) (fun c27 => ?_)
      · replace h := fm_itp c27 h
        refine fm_iconstv (pc := 50) 0 (by decide) dX10_put_50 ?_
        refine fm_zret (pc := 51) rfl (by decide) ?_ dX10_put_51
        cases h
        exact hq
      · replace h := fm_itn c27 h
        refine fl_aload0 (pc := 30) dX10_put_30 ?_
        refine fm_getr (pc := 31) lk_10_84 sh_76 rfl dX10_put_31 ?_
        refine fl_iload1 (pc := 34) dX10_put_34 ?_
        obtain ⟨g5, h⟩ := fm_gdp h
        refine fm_iald (pc := 35) sh_100 (fm_inb_ok g5) dX10_put_35 ?_
        refine fm_iconstv (pc := 36) (-1) (by decide) dX10_put_36 ?_
        refine fm_icmp_ne (pc := 37) 50 (by decide) dX10_put_37 (fun c37 => ?_) (fun c37 => ?_)
        · replace h := fm_itn c37 h
          refine fm_iconstv (pc := 50) 0 (by decide) dX10_put_50 ?_
          refine fm_zret (pc := 51) rfl (by decide) ?_ dX10_put_51
          cases h
          exact hq
        · replace h := fm_itp c37 h
          refine fl_aload0 (pc := 40) dX10_put_40 ?_
          refine fm_getr (pc := 41) lk_10_81 sh_76 rfl dX10_put_41 ?_
          refine fl_iload1 (pc := 44) dX10_put_44 ?_
          obtain ⟨g6, h⟩ := fm_gdp h
          refine fm_iald (pc := 45) sh_99 (fm_inb_ok g6) dX10_put_45 ?_
          refine fl_iload2 (pc := 46) dX10_put_46 ?_
          refine fm_icmp_ne (pc := 47) 52 (by decide) dX10_put_47 (fun c47 => ?_) (fun c47 => ?_)
          · replace h := fm_itn c47 h
            refine fl_aload0 (pc := 52) dX10_put_52 ?_
            obtain ⟨v7, M8, ev7, h⟩ := fm_bdp h
            refine fm_callV (pc := 53) mX10_keepNow [] _ rfl cvX10_keepNow ml_10_417 sh_76 rfl rfl (Nat.le_of_ble_eq_true rfl) (Nat.le_of_ble_eq_true rfl) dX10_put_53 ?_
            refine sp_X10_keepNow ev7 ?_
            refine fm_ret0 ?_
            refine fl_aload0 (pc := 56) dX10_put_56 ?_
            refine fm_getr (pc := 57) lk_10_81 sh_76 rfl dX10_put_57 ?_
            refine fl_iload1 (pc := 60) dX10_put_60 ?_
            refine fl_iload2 (pc := 61) dX10_put_61 ?_
            obtain ⟨g9, h⟩ := fm_gdp h
            refine fm_iast (pc := 62) sh_99 (fm_inb_ok g9) dX10_put_62 ?_
            obtain ⟨M10, eM10, h⟩ := fm_ltp h
            refine fm_cgm eM10 ?_
            refine fm_iconstv (pc := 63) 1 (by decide) dX10_put_63 ?_
            refine fm_zret (pc := 64) rfl (by decide) ?_ dX10_put_64
            cases h
            exact hq
          · replace h := fm_itp c47 h
            refine fm_iconstv (pc := 50) 0 (by decide) dX10_put_50 ?_
            refine fm_zret (pc := 51) rfl (by decide) ?_ dX10_put_51
            cases h
            exact hq
/-! X10_earn -/
def F_X10_earn (a1 : Int32) (M : fm_M) : Option (Int32 × fm_M) :=
    fm_lt (fm_up M 76 0 0) (fun M1 =>
    if a1 < 1 then (
      some ((-1), M1)
    ) else (
      if 99 < a1 then (
        some ((-1), M1)
      ) else (
        fm_gd (fm_inb 0 23) (
        if ((M1.1 95 (Int32.toNatClampNeg 0)) + a1) ≤ 9999 then (
          fm_bd (F_X10_keepNow M1) (fun v3 M4 =>
          fm_gd (fm_inb 0 23) (
          fm_gd (fm_inb 0 23) (
          fm_lt (fm_up M4 95 (Int32.toNatClampNeg 0) ((M4.1 95 (Int32.toNatClampNeg 0)) + a1)) (fun M7 =>
          fm_gd (fm_inb 0 23) (
          some ((M7.1 95 (Int32.toNatClampNeg 0)), M7))))))
        ) else (
          some ((-1), M1)
        ))
      )
    ))
theorem sp_X10_earn {d : Nat} {a1 : Int32} {M : fm_M} {x : Int32 × fm_M} {Q : Option Value → fm_M → Prop} (h : F_X10_earn a1 M = some x) (hq : Q (some (.int x.1)) x.2) : fm_ct (d + 2) mX10_earn [.ref 76, .int a1] M Q := by
  rw [F_X10_earn] at h
  show fm_mw (d + 2) mX10_earn Q 0 [some (.ref 76), some (.int a1)] [] M
  refine fl_aload0 (pc := 0) dX10_earn_0 ?_
  refine fm_iconstv (pc := 1) 0 (by decide) dX10_earn_1 ?_
  refine fm_puti (pc := 2) lp_10_130 sh_76 rfl dX10_earn_2 ?_
  obtain ⟨M1, eM1, h⟩ := fm_ltp h
  refine fm_cgm eM1 ?_
  refine fl_iload1 (pc := 5) dX10_earn_5 ?_
  refine fm_iconstv (pc := 6) 1 (by decide) dX10_earn_6 ?_
  refine fm_icmp_lt (pc := 7) 30 (by decide) dX10_earn_7 (fun c7 => ?_) (fun c7 => ?_)
  · replace h := fm_itp c7 h
    refine fm_iconstv (pc := 30) (-1) (by decide) dX10_earn_30 ?_
    refine fm_iret (pc := 31) rfl ?_ dX10_earn_31
    cases h
    exact hq
  · replace h := fm_itn c7 h
    refine fl_iload1 (pc := 10) dX10_earn_10 ?_
    refine fm_bipushv (pc := 11) 99 (by decide) dX10_earn_11 ?_
    refine fm_icmp_gt (pc := 13) 30 (by decide) dX10_earn_13 (fun c13 => ?_) (fun c13 => ?_)
    · replace h := fm_itp c13 h
      refine fm_iconstv (pc := 30) (-1) (by decide) dX10_earn_30 ?_
      refine fm_iret (pc := 31) rfl ?_ dX10_earn_31
      cases h
      exact hq
    · replace h := fm_itn c13 h
      refine fl_aload0 (pc := 16) dX10_earn_16 ?_
      refine fm_getr (pc := 17) lk_10_69 sh_76 rfl dX10_earn_17 ?_
      refine fm_iconstv (pc := 20) 0 (by decide) dX10_earn_20 ?_
      obtain ⟨g2, h⟩ := fm_gdp h
      refine fm_iald (pc := 21) sh_95 (fm_inb_ok g2) dX10_earn_21 ?_
      refine fl_iload1 (pc := 22) dX10_earn_22 ?_
      refine fm_iadd (pc := 23) dX10_earn_23 ?_
      refine fm_sipushv (pc := 24) 9999 (by decide) dX10_earn_24 ?_
      refine fm_icmp_le (pc := 27) 32 (by decide) dX10_earn_27 (fun c27 => ?_) (fun c27 => ?_)
      · replace h := fm_itp c27 h
        refine fl_aload0 (pc := 32) dX10_earn_32 ?_
        obtain ⟨v3, M4, ev3, h⟩ := fm_bdp h
        refine fm_callV (pc := 33) mX10_keepNow [] _ rfl cvX10_keepNow ml_10_417 sh_76 rfl rfl (Nat.le_of_ble_eq_true rfl) (Nat.le_of_ble_eq_true rfl) dX10_earn_33 ?_
        refine sp_X10_keepNow ev3 ?_
        refine fm_ret0 ?_
        refine fl_aload0 (pc := 36) dX10_earn_36 ?_
        refine fm_getr (pc := 37) lk_10_69 sh_76 rfl dX10_earn_37 ?_
        refine fm_iconstv (pc := 40) 0 (by decide) dX10_earn_40 ?_
        refine fm_dup2 (pc := 41) rfl rfl dX10_earn_41 ?_
        obtain ⟨g5, h⟩ := fm_gdp h
        refine fm_iald (pc := 42) sh_95 (fm_inb_ok g5) dX10_earn_42 ?_
        refine fl_iload1 (pc := 43) dX10_earn_43 ?_
        refine fm_iadd (pc := 44) dX10_earn_44 ?_
        obtain ⟨g6, h⟩ := fm_gdp h
        refine fm_iast (pc := 45) sh_95 (fm_inb_ok g6) dX10_earn_45 ?_
        obtain ⟨M7, eM7, h⟩ := fm_ltp h
        refine fm_cgm eM7 ?_
        refine fl_aload0 (pc := 46) dX10_earn_46 ?_
        refine fm_getr (pc := 47) lk_10_69 sh_76 rfl dX10_earn_47 ?_
        refine fm_iconstv (pc := 50) 0 (by decide) dX10_earn_50 ?_
        obtain ⟨g8, h⟩ := fm_gdp h
        refine fm_iald (pc := 51) sh_95 (fm_inb_ok g8) dX10_earn_51 ?_
        refine fm_iret (pc := 52) rfl ?_ dX10_earn_52
        cases h
        exact hq
      · replace h := fm_itn c27 h
        refine fm_iconstv (pc := 30) (-1) (by decide) dX10_earn_30 ?_
        refine fm_iret (pc := 31) rfl ?_ dX10_earn_31
        cases h
        exact hq
