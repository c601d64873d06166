/-! X9_rests -/
def F_X9_rests (a1 : Int32) (a2 : Int32) (a3 : Int32) (M : fm_M) : Option (Int32 × fm_M) :=
    fm_bd (F_X9_arePair a1 a2 M) (fun v1 M2 =>
    if v1 = 0 then (
      some ((-1), M2)
    ) else (
      fm_bd (F_X9_isNote a3 M2) (fun v3 M4 =>
      if v3 = 0 then (
        some ((-1), M4)
      ) else (
        fm_bd (F_X7_copyFrom 45 38 M4) (fun v5 M6 =>
        fm_lt (Int32.toNatClampNeg (M6.1 0 1)) (fun t7 =>
        fm_gd (fm_isTd t7) (
        fm_bd (F_X2_settle t7 45 a1 a2 a3 M6) (fun v9 M10 =>
        some ((M10.1 70 2), M10)))))
      ))
    ))
theorem sp_X9_rests {d : Nat} {a1 : Int32} {a2 : Int32} {a3 : Int32} {M : fm_M} {x : Int32 × fm_M} {Q : Option Value → fm_M → Prop} (h : F_X9_rests a1 a2 a3 M = some x) (hq : Q (some (.int x.1)) x.2) : fm_ct (d + 7) mX9_rests [.ref 0, .int a1, .int a2, .int a3] M Q := by
  rw [F_X9_rests] at h
  show fm_mw (d + 7) mX9_rests Q 0 [some (.ref 0), some (.int a1), some (.int a2), some (.int a3)] [] M
  refine fl_aload0 (pc := 0) dX9_rests_0 ?_
  refine fl_iload1 (pc := 1) dX9_rests_1 ?_
  refine fl_iload2 (pc := 2) dX9_rests_2 ?_
  obtain ⟨v1, M2, ev1, h⟩ := fm_bdp h
  refine fm_callV (pc := 3) mX9_arePair [_, _] _ rfl cvX9_arePair ml_9_283 sh_0 rfl rfl (Nat.le_of_ble_eq_true rfl) (Nat.le_of_ble_eq_true rfl) dX9_rests_3 ?_
  refine sp_X9_arePair ev1 ?_
  refine fm_ret1 ?_
  refine fm_if_eq (pc := 6) 16 (by decide) dX9_rests_6 (fun c6 => ?_) (fun c6 => ?_)
  · replace h := fm_itp c6 h
    refine fm_iconstv (pc := 16) (-1) (by decide) dX9_rests_16 ?_
    refine fm_iret (pc := 17) rfl ?_ dX9_rests_17
    cases h
    exact hq
  · replace h := fm_itn c6 h
    refine fl_iload3 (pc := 9) dX9_rests_9 ?_
    obtain ⟨v3, M4, ev3, h⟩ := fm_bdp h
    refine fm_callS (pc := 10) mX9_isNote [_] _ rfl csX9_isNote ml_9_178 rfl (Nat.le_of_ble_eq_true rfl) (Nat.le_of_ble_eq_true rfl) dX9_rests_10 ?_
    refine sp_X9_isNote ev3 ?_
    refine fm_ret1 ?_
    refine fm_if_ne (pc := 13) 18 (by decide) dX9_rests_13 (fun c13 => ?_) (fun c13 => ?_)
    · replace h := fm_itn c13 h
      refine fl_aload0 (pc := 18) dX9_rests_18 ?_
      refine fm_getr (pc := 19) lk_9_32 sh_0 rfl dX9_rests_19 ?_
      refine fl_aload0 (pc := 22) dX9_rests_22 ?_
      refine fm_getr (pc := 23) lk_9_28 sh_0 rfl dX9_rests_23 ?_
      obtain ⟨v5, M6, ev5, h⟩ := fm_bdp h
      refine fm_callV (pc := 26) mX7_copyFrom [_] _ rfl cvX7_copyFrom ml_9_240 sh_45 rfl rfl (Nat.le_of_ble_eq_true rfl) (Nat.le_of_ble_eq_true rfl) dX9_rests_26 ?_
      refine sp_X7_copyFrom ev5 ?_
      refine fm_ret0 ?_
      refine fl_aload0 (pc := 29) dX9_rests_29 ?_
      refine fm_getr (pc := 30) lk_9_62 sh_0 rfl dX9_rests_30 ?_
      refine fl_aload0 (pc := 33) dX9_rests_33 ?_
      obtain ⟨t7, et7, h⟩ := fm_ltp h
      obtain ⟨g8, h⟩ := fm_gdp h
      refine fm_getm (pc := 34) (fm_nn et7 g8) lk_9_21 sh_0 rfl dX9_rests_34 ?_
      refine fm_cgr et7 ?_
      refine fl_aload0 (pc := 37) dX9_rests_37 ?_
      refine fm_getr (pc := 38) lk_9_32 sh_0 rfl dX9_rests_38 ?_
      refine fl_iload1 (pc := 41) dX9_rests_41 ?_
      refine fl_iload2 (pc := 42) dX9_rests_42 ?_
      refine fl_iload3 (pc := 43) dX9_rests_43 ?_
      obtain ⟨v9, M10, ev9, h⟩ := fm_bdp h
      refine fm_callV (pc := 44) mX2_settle [_, _, _, _, _] _ rfl cvX2_settle ml_9_287 sh_70 rfl rfl (Nat.le_of_ble_eq_true rfl) (Nat.le_of_ble_eq_true rfl) dX9_rests_44 ?_
      refine sp_X2_settle ev9 ?_
      refine fm_ret0 ?_
      refine fl_aload0 (pc := 47) dX9_rests_47 ?_
      refine fm_getr (pc := 48) lk_9_62 sh_0 rfl dX9_rests_48 ?_
      refine fm_geti (pc := 51) lk_9_291 sh_70 rfl dX9_rests_51 ?_
      refine fm_iret (pc := 54) rfl ?_ dX9_rests_54
      cases h
      exact hq
    · replace h := fm_itp c13 h
      refine fm_iconstv (pc := 16) (-1) (by decide) dX9_rests_16 ?_
      refine fm_iret (pc := 17) rfl ?_ dX9_rests_17
      cases h
      exact hq
/-! X9_rest -/
def F_X9_rest (a1 : Int32) (a2 : Int32) (a3 : Int32) (a4 : Int32) (M : fm_M) : Option (Int32 × fm_M) :=
    fm_bd (F_X9_arePair a1 a2 M) (fun v1 M2 =>
    if v1 = 0 then (
      some ((-1), M2)
    ) else (
      fm_bd (F_X9_isNote a3 M2) (fun v3 M4 =>
      if v3 = 0 then (
        some ((-1), M4)
      ) else (
        if 0 ≤ a4 then (
          fm_bd (F_X7_copyFrom 45 38 M4) (fun v5 M6 =>
          fm_lt (Int32.toNatClampNeg (M6.1 0 1)) (fun t7 =>
          fm_gd (fm_isTd t7) (
          fm_bd (F_X2_settle t7 45 a1 a2 a3 M6) (fun v9 M10 =>
          if (M10.1 70 2) ≤ a4 then (
            some ((-2), M10)
          ) else (
            fm_gd (fm_inb a4 25) (
            some ((M10.1 72 (Int32.toNatClampNeg a4)), M10))
          )))))
        ) else (
          some ((-1), M4)
        )
      ))
    ))
theorem sp_X9_rest {d : Nat} {a1 : Int32} {a2 : Int32} {a3 : Int32} {a4 : Int32} {M : fm_M} {x : Int32 × fm_M} {Q : Option Value → fm_M → Prop} (h : F_X9_rest a1 a2 a3 a4 M = some x) (hq : Q (some (.int x.1)) x.2) : fm_ct (d + 7) mX9_rest [.ref 0, .int a1, .int a2, .int a3, .int a4] M Q := by
  rw [F_X9_rest] at h
  show fm_mw (d + 7) mX9_rest Q 0 [some (.ref 0), some (.int a1), some (.int a2), some (.int a3), some (.int a4)] [] M
  refine fl_aload0 (pc := 0) dX9_rest_0 ?_
  refine fl_iload1 (pc := 1) dX9_rest_1 ?_
  refine fl_iload2 (pc := 2) dX9_rest_2 ?_
  obtain ⟨v1, M2, ev1, h⟩ := fm_bdp h
  refine fm_callV (pc := 3) mX9_arePair [_, _] _ rfl cvX9_arePair ml_9_283 sh_0 rfl rfl (Nat.le_of_ble_eq_true rfl) (Nat.le_of_ble_eq_true rfl) dX9_rest_3 ?_
  refine sp_X9_arePair ev1 ?_
  refine fm_ret1 ?_
  refine fm_if_eq (pc := 6) 21 (by decide) dX9_rest_6 (fun c6 => ?_) (fun c6 => ?_)
  · replace h := fm_itp c6 h
    refine fm_iconstv (pc := 21) (-1) (by decide) dX9_rest_21 ?_
    refine fm_iret (pc := 22) rfl ?_ dX9_rest_22
    cases h
    exact hq
  · replace h := fm_itn c6 h
    refine fl_iload3 (pc := 9) dX9_rest_9 ?_
    obtain ⟨v3, M4, ev3, h⟩ := fm_bdp h
    refine fm_callS (pc := 10) mX9_isNote [_] _ rfl csX9_isNote ml_9_178 rfl (Nat.le_of_ble_eq_true rfl) (Nat.le_of_ble_eq_true rfl) dX9_rest_10 ?_
    refine sp_X9_isNote ev3 ?_
    refine fm_ret1 ?_
    refine fm_if_eq (pc := 13) 21 (by decide) dX9_rest_13 (fun c13 => ?_) (fun c13 => ?_)
    · replace h := fm_itp c13 h
      refine fm_iconstv (pc := 21) (-1) (by decide) dX9_rest_21 ?_
      refine fm_iret (pc := 22) rfl ?_ dX9_rest_22
      cases h
      exact hq
    · replace h := fm_itn c13 h
      refine fl_iload4 (pc := 16) dX9_rest_16 ?_
      refine fm_if_ge (pc := 18) 23 (by decide) dX9_rest_18 (fun c18 => ?_) (fun c18 => ?_)
      · replace h := fm_itp c18 h
        refine fl_aload0 (pc := 23) dX9_rest_23 ?_
        refine fm_getr (pc := 24) lk_9_32 sh_0 rfl dX9_rest_24 ?_
        refine fl_aload0 (pc := 27) dX9_rest_27 ?_
        refine fm_getr (pc := 28) lk_9_28 sh_0 rfl dX9_rest_28 ?_
        obtain ⟨v5, M6, ev5, h⟩ := fm_bdp h
        refine fm_callV (pc := 31) mX7_copyFrom [_] _ rfl cvX7_copyFrom ml_9_240 sh_45 rfl rfl (Nat.le_of_ble_eq_true rfl) (Nat.le_of_ble_eq_true rfl) dX9_rest_31 ?_
        refine sp_X7_copyFrom ev5 ?_
        refine fm_ret0 ?_
        refine fl_aload0 (pc := 34) dX9_rest_34 ?_
        refine fm_getr (pc := 35) lk_9_62 sh_0 rfl dX9_rest_35 ?_
        refine fl_aload0 (pc := 38) dX9_rest_38 ?_
        obtain ⟨t7, et7, h⟩ := fm_ltp h
        obtain ⟨g8, h⟩ := fm_gdp h
        refine fm_getm (pc := 39) (fm_nn et7 g8) lk_9_21 sh_0 rfl dX9_rest_39 ?_
        refine fm_cgr et7 ?_
        refine fl_aload0 (pc := 42) dX9_rest_42 ?_
        refine fm_getr (pc := 43) lk_9_32 sh_0 rfl dX9_rest_43 ?_
        refine fl_iload1 (pc := 46) dX9_rest_46 ?_
        refine fl_iload2 (pc := 47) dX9_rest_47 ?_
        refine fl_iload3 (pc := 48) dX9_rest_48 ?_
        obtain ⟨v9, M10, ev9, h⟩ := fm_bdp h
        refine fm_callV (pc := 49) mX2_settle [_, _, _, _, _] _ rfl cvX2_settle ml_9_287 sh_70 rfl rfl (Nat.le_of_ble_eq_true rfl) (Nat.le_of_ble_eq_true rfl) dX9_rest_49 ?_
        refine sp_X2_settle ev9 ?_
        refine fm_ret0 ?_
        refine fl_iload4 (pc := 52) dX9_rest_52 ?_
        refine fl_aload0 (pc := 54) dX9_rest_54 ?_
        refine fm_getr (pc := 55) lk_9_62 sh_0 rfl dX9_rest_55 ?_
        refine fm_geti (pc := 58) lk_9_291 sh_70 rfl dX9_rest_58 ?_
        refine fm_icmp_ge (pc := 61) 77 (by decide) dX9_rest_61 (fun c61 => ?_) (fun c61 => ?_)
        · replace h := fm_itp c61 h
          refine fm_bipushv (pc := 77) (-2) (by decide) dX9_rest_77 ?_
          refine fm_iret (pc := 79) rfl ?_ dX9_rest_79
          cases h
          exact hq
        · replace h := fm_itn c61 h
          refine fl_aload0 (pc := 64) dX9_rest_64 ?_
          refine fm_getr (pc := 65) lk_9_62 sh_0 rfl dX9_rest_65 ?_
          refine fm_getr (pc := 68) lk_9_292 sh_70 rfl dX9_rest_68 ?_
          refine fl_iload4 (pc := 71) dX9_rest_71 ?_
          obtain ⟨g11, h⟩ := fm_gdp h
          refine fm_iald (pc := 73) sh_72 (fm_inb_ok g11) dX9_rest_73 ?_
          refine fm_goto (pc := 74) 79 (by decide) dX9_rest_74 ?_
          refine fm_iret (pc := 79) rfl ?_ dX9_rest_79
          cases h
          exact hq
      · replace h := fm_itn c18 h
        refine fm_iconstv (pc := 21) (-1) (by decide) dX9_rest_21 ?_
        refine fm_iret (pc := 22) rfl ?_ dX9_rest_22
        cases h
        exact hq
/-! X9_likely -/
def G_X9_likely_35 : Nat → Int32 → Int32 → Int32 → Int32 → fm_M → Option ((Int32 × Int32) × fm_M)
  | 0, _, _, _, _, _ => none
  | n + 1, l1, l2, l3, l4, M =>
    if 9 < l4 then (
      some ((l3, l4), M)
    ) else (
      fm_lt (fm_up M 45 1 l4) (fun M5 =>
      fm_lt (Int32.toNatClampNeg (M5.1 0 1)) (fun t6 =>
      fm_gd (fm_isTd t6) (
      fm_lt (Int32.toNatClampNeg (M5.1 0 1)) (fun t8 =>
      fm_gd (fm_isTd t8) (
      fm_gd (fm_inb l1 10) (
      fm_bd (F_X7_carries 45 t6 (M5.1 (t8 + 7) (Int32.toNatClampNeg l1)) M5) (fun v11 M12 =>
      if v11 = 0 then (
        G_X9_likely_35 n l1 l2 l3 (l4 + 1) M12
      ) else (
        G_X9_likely_35 n l1 l2 (l3 + 1) (l4 + 1) M12
      ))))))))
    )
def J_X9_likely_121 (l1 : Int32) (l2 : Int32) (l3 : Int32) (l4 : Int32) (M : fm_M) : Option (Int32 × fm_M) :=
    if l2 = 0 then (
      fm_gd (fm_nz l4) (
      some ((l3 / l4), M))
    ) else (
      fm_gd (fm_nz l4) (
      some ((10 / l4), M))
    )
def J_X9_likely_19 (l1 : Int32) (l2 : Int32) (M : fm_M) : Option (Int32 × fm_M) :=
    fm_bd (F_X7_copyFrom 45 38 M) (fun v3 M4 =>
    fm_bd (G_X9_likely_35 fm_fuel l1 l2 0 0 M4) (fun w13 M14 =>
      if (i_rem w13.1 10) = 0 then (
        J_X9_likely_121 l1 l2 w13.1 10 M14
      ) else (
        if (i_rem w13.1 5) = 0 then (
          J_X9_likely_121 l1 l2 w13.1 5 M14
        ) else (
          if (i_rem w13.1 2) = 0 then (
            J_X9_likely_121 l1 l2 w13.1 2 M14
          ) else (
            J_X9_likely_121 l1 l2 w13.1 1 M14
          )
        )
      )))
def F_X9_likely (a1 : Int32) (a2 : Int32) (M : fm_M) : Option (Int32 × fm_M) :=
    fm_bd (F_X9_isMotion a1 M) (fun v1 M2 =>
    if v1 = 0 then (
      some ((-1), M2)
    ) else (
      if a2 = 0 then (
        J_X9_likely_19 a1 a2 M2
      ) else (
        if a2 = 1 then (
          J_X9_likely_19 a1 a2 M2
        ) else (
          some ((-1), M2)
        )
      )
    ))
theorem lp_X9_likely_35 {d : Nat} {Q : Option Value → fm_M → Prop} {l1 : Int32} {l2 : Int32}   {x : (Int32 × Int32) × fm_M} (k1 : ∀ (v : Int32 × Int32) (M2 : fm_M), x = (v, M2) → fm_mw (d + 6) mX9_likely Q 83 [some (.ref 0), some (.int l1), some (.int l2), some (.int v.1), some (.int v.2)] [] M2) : ∀ (n : Nat) (l3 : Int32) (l4 : Int32) (M : fm_M), G_X9_likely_35 n l1 l2 l3 l4 M = some x → fm_mw (d + 6) mX9_likely Q 35 [some (.ref 0), some (.int l1), some (.int l2), some (.int l3), some (.int l4)] [] M := by
  intro n
  induction n with
  | zero => intro l3 l4 M h; simp [G_X9_likely_35] at h
  | succ n ih =>
    intro l3 l4 M h
    rw [G_X9_likely_35] at h
    refine fl_iload4 (pc := 35) dX9_likely_35 ?_
    refine fm_bipushv (pc := 37) 9 (by decide) dX9_likely_37 ?_
    refine fm_icmp_gt (pc := 39) 83 (by decide) dX9_likely_39 (fun c39 => ?_) (fun c39 => ?_)
    · replace h := fm_itp c39 h
      refine fm_fgt [some (.ref 0), some (.int l1), some (.int l2), some (.int l3), some (.int l4)] (by simp [fm_sub]) ?_
      cases h
      exact k1 _ _ rfl
    · replace h := fm_itn c39 h
      refine fl_aload0 (pc := 42) dX9_likely_42 ?_
      refine fm_getr (pc := 43) lk_9_32 sh_0 rfl dX9_likely_43 ?_
      refine fl_iload4 (pc := 46) dX9_likely_46 ?_
      refine fm_puti (pc := 48) lp_9_295 sh_45 rfl dX9_likely_48 ?_
      obtain ⟨M5, eM5, h⟩ := fm_ltp h
      refine fm_cgm eM5 ?_
      refine fl_aload0 (pc := 51) dX9_likely_51 ?_
      refine fm_getr (pc := 52) lk_9_32 sh_0 rfl dX9_likely_52 ?_
      refine fl_aload0 (pc := 55) dX9_likely_55 ?_
      obtain ⟨t6, et6, h⟩ := fm_ltp h
      obtain ⟨g7, h⟩ := fm_gdp h
      refine fm_getm (pc := 56) (fm_nn et6 g7) lk_9_21 sh_0 rfl dX9_likely_56 ?_
      refine fm_cgr et6 ?_
      refine fl_aload0 (pc := 59) dX9_likely_59 ?_
      obtain ⟨t8, et8, h⟩ := fm_ltp h
      obtain ⟨g9, h⟩ := fm_gdp h
      refine fm_getm (pc := 60) (fm_nn et8 g9) lk_9_21 sh_0 rfl dX9_likely_60 ?_
      refine fm_cgr et8 ?_
      refine fm_getr (pc := 63) lk_9_132 (shTd0 g9) rfl dX9_likely_63 ?_
      refine fl_iload1 (pc := 66) dX9_likely_66 ?_
      obtain ⟨g10, h⟩ := fm_gdp h
      refine fm_iald (pc := 67) (shTd7 g9) (fm_inb_ok g10) dX9_likely_67 ?_
      obtain ⟨v11, M12, ev11, h⟩ := fm_bdp h
      refine fm_callV (pc := 68) mX7_carries [_, _] _ rfl cvX7_carries ml_9_192 sh_45 rfl rfl (Nat.le_of_ble_eq_true rfl) (Nat.le_of_ble_eq_true rfl) dX9_likely_68 ?_
      refine sp_X7_carries ev11 ?_
      refine fm_ret1 ?_
      refine fm_if_eq (pc := 71) 77 (by decide) dX9_likely_71 (fun c71 => ?_) (fun c71 => ?_)
      · replace h := fm_itp c71 h
        refine fl_iinc4 (pc := 77) rfl 1 (by decide) (by decide) dX9_likely_77 ?_
        refine fm_goto (pc := 80) 35 (by decide) dX9_likely_80 ?_
        refine fm_fgt [some (.ref 0), some (.int l1), some (.int l2), some (.int l3), some (.int (l4 + 1))] (by simp [fm_sub]) ?_
        exact ih _ _ _ h
      · replace h := fm_itn c71 h
        refine fl_iinc3 (pc := 74) rfl 1 (by decide) (by decide) dX9_likely_74 ?_
        refine fl_iinc4 (pc := 77) rfl 1 (by decide) (by decide) dX9_likely_77 ?_
        refine fm_goto (pc := 80) 35 (by decide) dX9_likely_80 ?_
        refine fm_fgt [some (.ref 0), some (.int l1), some (.int l2), some (.int (l3 + 1)), some (.int (l4 + 1))] (by simp [fm_sub]) ?_
        exact ih _ _ _ h
theorem jn_X9_likely_121 {d : Nat} {Q : Option Value → fm_M → Prop}  (l1 : Int32) (l2 : Int32) (l3 : Int32) (l4 : Int32) {x : Int32 × fm_M}  (hq : Q (some (.int x.1)) x.2) (M : fm_M) (h : J_X9_likely_121 l1 l2 l3 l4 M = some x) : fm_mw (d + 6) mX9_likely Q 121 [some (.ref 0), some (.int l1), some (.int l2), some (.int l3), some (.int l4)] [] M := by
  rw [J_X9_likely_121] at h
  refine fl_iload2 (pc := 121) dX9_likely_121 ?_
  refine fm_if_ne (pc := 122) 129 (by decide) dX9_likely_122 (fun c122 => ?_) (fun c122 => ?_)
  · replace h := fm_itn c122 h
    refine fm_bipushv (pc := 129) 10 (by decide) dX9_likely_129 ?_
    refine fl_iload4 (pc := 131) dX9_likely_131 ?_
    obtain ⟨g15, h⟩ := fm_gdp h
    refine fm_idiv (pc := 133) (fm_nz_ok g15) dX9_likely_133 ?_
    refine fm_iret (pc := 134) rfl ?_ dX9_likely_134
    cases h
    exact hq
  · replace h := fm_itp c122 h
    refine fl_iload3 (pc := 125) dX9_likely_125 ?_
    refine fm_goto (pc := 126) 131 (by decide) dX9_likely_126 ?_
    refine fl_iload4 (pc := 131) dX9_likely_131 ?_
    obtain ⟨g16, h⟩ := fm_gdp h
    refine fm_idiv (pc := 133) (fm_nz_ok g16) dX9_likely_133 ?_
    refine fm_iret (pc := 134) rfl ?_ dX9_likely_134
    cases h
    exact hq
theorem jn_X9_likely_19 {d : Nat} {Q : Option Value → fm_M → Prop}  (l1 : Int32) (l2 : Int32) {x : Int32 × fm_M}  (hq : Q (some (.int x.1)) x.2) (M : fm_M) (h : J_X9_likely_19 l1 l2 M = some x) : fm_mw (d + 6) mX9_likely Q 19 [some (.ref 0), some (.int l1), some (.int l2), none, none] [] M := by
  rw [J_X9_likely_19] at h
  refine fl_aload0 (pc := 19) dX9_likely_19 ?_
  refine fm_getr (pc := 20) lk_9_32 sh_0 rfl dX9_likely_20 ?_
  refine fl_aload0 (pc := 23) dX9_likely_23 ?_
  refine fm_getr (pc := 24) lk_9_28 sh_0 rfl dX9_likely_24 ?_
  obtain ⟨v3, M4, ev3, h⟩ := fm_bdp h
  refine fm_callV (pc := 27) mX7_copyFrom [_] _ rfl cvX7_copyFrom ml_9_240 sh_45 rfl rfl (Nat.le_of_ble_eq_true rfl) (Nat.le_of_ble_eq_true rfl) dX9_likely_27 ?_
  refine sp_X7_copyFrom ev3 ?_
  refine fm_ret0 ?_
  refine fm_iconstv (pc := 30) 0 (by decide) dX9_likely_30 ?_
  refine fl_istore3 (pc := 31) rfl (by decide) dX9_likely_31 ?_
  refine fm_iconstv (pc := 32) 0 (by decide) dX9_likely_32 ?_
  refine fl_istore4 (pc := 33) rfl (by decide) dX9_likely_33 ?_
  obtain ⟨w13, M14, ew13, h⟩ := fm_bdp h
  refine lp_X9_likely_35  ?_ _ _ _ _ ew13
  intro w139 M149 q9
  cases q9
  refine fm_iconstv (pc := 83) 1 (by decide) dX9_likely_83 ?_
  refine fl_istore4 (pc := 84) rfl (by decide) dX9_likely_84 ?_
  refine fl_iload3 (pc := 86) dX9_likely_86 ?_
  refine fm_bipushv (pc := 87) 10 (by decide) dX9_likely_87 ?_
  refine fq_irem (pc := 89) (by decide) dX9_likely_89 ?_
  refine fm_if_ne (pc := 90) 100 (by decide) dX9_likely_90 (fun c90 => ?_) (fun c90 => ?_)
  · replace h := fm_itn c90 h
    refine fl_iload3 (pc := 100) dX9_likely_100 ?_
    refine fm_iconstv (pc := 101) 5 (by decide) dX9_likely_101 ?_
    refine fq_irem (pc := 102) (by decide) dX9_likely_102 ?_
    refine fm_if_ne (pc := 103) 112 (by decide) dX9_likely_103 (fun c103 => ?_) (fun c103 => ?_)
    · replace h := fm_itn c103 h
      refine fl_iload3 (pc := 112) dX9_likely_112 ?_
      refine fm_iconstv (pc := 113) 2 (by decide) dX9_likely_113 ?_
      refine fq_irem (pc := 114) (by decide) dX9_likely_114 ?_
      refine fm_if_ne (pc := 115) 121 (by decide) dX9_likely_115 (fun c115 => ?_) (fun c115 => ?_)
      · replace h := fm_itn c115 h
        exact jn_X9_likely_121 _ _ _ _  hq _ h
      · replace h := fm_itp c115 h
        refine fm_iconstv (pc := 118) 2 (by decide) dX9_likely_118 ?_
        refine fl_istore4 (pc := 119) rfl (by decide) dX9_likely_119 ?_
        exact jn_X9_likely_121 _ _ _ _  hq _ h
    · replace h := fm_itp c103 h
      refine fm_iconstv (pc := 106) 5 (by decide) dX9_likely_106 ?_
      refine fl_istore4 (pc := 107) rfl (by decide) dX9_likely_107 ?_
      refine fm_goto (pc := 109) 121 (by decide) dX9_likely_109 ?_
      exact jn_X9_likely_121 _ _ _ _  hq _ h
  · replace h := fm_itp c90 h
    refine fm_bipushv (pc := 93) 10 (by decide) dX9_likely_93 ?_
    refine fl_istore4 (pc := 95) rfl (by decide) dX9_likely_95 ?_
    refine fm_goto (pc := 97) 121 (by decide) dX9_likely_97 ?_
    exact jn_X9_likely_121 _ _ _ _  hq _ h
theorem sp_X9_likely {d : Nat} {a1 : Int32} {a2 : Int32} {M : fm_M} {x : Int32 × fm_M} {Q : Option Value → fm_M → Prop} (h : F_X9_likely a1 a2 M = some x) (hq : Q (some (.int x.1)) x.2) : fm_ct (d + 6) mX9_likely [.ref 0, .int a1, .int a2] M Q := by
  rw [F_X9_likely] at h
  show fm_mw (d + 6) mX9_likely Q 0 [some (.ref 0), some (.int a1), some (.int a2), none, none] [] M
  refine fl_aload0 (pc := 0) dX9_likely_0 ?_
  refine fl_iload1 (pc := 1) dX9_likely_1 ?_
  obtain ⟨v1, M2, ev1, h⟩ := fm_bdp h
  refine fm_callV (pc := 2) mX9_isMotion [_] _ rfl cvX9_isMotion ml_9_121 sh_0 rfl rfl (Nat.le_of_ble_eq_true rfl) (Nat.le_of_ble_eq_true rfl) dX9_likely_2 ?_
  refine sp_X9_isMotion ev1 ?_
  refine fm_ret1 ?_
  refine fm_if_eq (pc := 5) 17 (by decide) dX9_likely_5 (fun c5 => ?_) (fun c5 => ?_)
  · replace h := fm_itp c5 h
    refine fm_iconstv (pc := 17) (-1) (by decide) dX9_likely_17 ?_
    refine fm_iret (pc := 18) rfl ?_ dX9_likely_18
    cases h
    exact hq
  · replace h := fm_itn c5 h
    refine fl_iload2 (pc := 8) dX9_likely_8 ?_
    refine fm_if_eq (pc := 9) 19 (by decide) dX9_likely_9 (fun c9 => ?_) (fun c9 => ?_)
    · replace h := fm_itp c9 h
      exact jn_X9_likely_19 _ _  hq _ h
    · replace h := fm_itn c9 h
      refine fl_iload2 (pc := 12) dX9_likely_12 ?_
      refine fm_iconstv (pc := 13) 1 (by decide) dX9_likely_13 ?_
      refine fm_icmp_eq (pc := 14) 19 (by decide) dX9_likely_14 (fun c14 => ?_) (fun c14 => ?_)
      · replace h := fm_itp c14 h
        exact jn_X9_likely_19 _ _  hq _ h
      · replace h := fm_itn c14 h
        refine fm_iconstv (pc := 17) (-1) (by decide) dX9_likely_17 ?_
        refine fm_iret (pc := 18) rfl ?_ dX9_likely_18
        cases h
        exact hq
/-! X9_order -/
def F_X9_order (a1 : Int32) (a2 : Int32) (M : fm_M) : Option (Int32 × fm_M) :=
    if a1 < 1 then (
      some ((-1), M)
    ) else (
      if 4 < a1 then (
        some ((-1), M)
      ) else (
        if a2 < 0 then (
          some ((-1), M)
        ) else (
          if a2 ≤ 4 then (
            fm_bd (F_X7_copyFrom 45 38 M) (fun v1 M2 =>
            fm_lt (Int32.toNatClampNeg (M2.1 0 1)) (fun t3 =>
            fm_gd (fm_isTd t3) (
            fm_bd (F_X5_seek t3 45 a1 M2) (fun v5 M6 =>
            if a2 = 4 then (
              fm_lt (Int32.toNatClampNeg (M6.1 0 1)) (fun t9 =>
              fm_gd (fm_isTd t9) (
              fm_bd (F_X7_verdicts 45 t9 1 M6) (fun v11 M12 =>
              fm_lt (Int32.toNatClampNeg (M12.1 0 1)) (fun t13 =>
              fm_gd (fm_isTd t13) (
              fm_bd (F_X7_verdicts 38 t13 1 M12) (fun v15 M16 =>
              some ((((M6.1 73 3) + v11) - v15), M16)))))))
            ) else (
              if (M6.1 73 2) ≤ a2 then (
                some ((-2), M6)
              ) else (
                fm_bd (F_X5_dayOf a2 M6) (fun v7 M8 =>
                some (v7, M8))
              )
            )))))
          ) else (
            some ((-1), M)
          )
        )
      )
    )
theorem sp_X9_order {d : Nat} {a1 : Int32} {a2 : Int32} {M : fm_M} {x : Int32 × fm_M} {Q : Option Value → fm_M → Prop} (h : F_X9_order a1 a2 M = some x) (hq : Q (some (.int x.1)) x.2) : fm_ct (d + 7) mX9_order [.ref 0, .int a1, .int a2] M Q := by
  rw [F_X9_order] at h
  show fm_mw (d + 7) mX9_order Q 0 [some (.ref 0), some (.int a1), some (.int a2)] [] M
  refine fl_iload1 (pc := 0) dX9_order_0 ?_
  refine fm_iconstv (pc := 1) 1 (by decide) dX9_order_1 ?_
  refine fm_icmp_lt (pc := 2) 19 (by decide) dX9_order_2 (fun c2 => ?_) (fun c2 => ?_)
  · replace h := fm_itp c2 h
    refine fm_iconstv (pc := 19) (-1) (by decide) dX9_order_19 ?_
    refine fm_iret (pc := 20) rfl ?_ dX9_order_20
    cases h
    exact hq
  · replace h := fm_itn c2 h
    refine fl_iload1 (pc := 5) dX9_order_5 ?_
    refine fm_iconstv (pc := 6) 4 (by decide) dX9_order_6 ?_
    refine fm_icmp_gt (pc := 7) 19 (by decide) dX9_order_7 (fun c7 => ?_) (fun c7 => ?_)
    · replace h := fm_itp c7 h
      refine fm_iconstv (pc := 19) (-1) (by decide) dX9_order_19 ?_
      refine fm_iret (pc := 20) rfl ?_ dX9_order_20
      cases h
      exact hq
    · replace h := fm_itn c7 h
      refine fl_iload2 (pc := 10) dX9_order_10 ?_
      refine fm_if_lt (pc := 11) 19 (by decide) dX9_order_11 (fun c11 => ?_) (fun c11 => ?_)
      · replace h := fm_itp c11 h
        refine fm_iconstv (pc := 19) (-1) (by decide) dX9_order_19 ?_
        refine fm_iret (pc := 20) rfl ?_ dX9_order_20
        cases h
        exact hq
      · replace h := fm_itn c11 h
        refine fl_iload2 (pc := 14) dX9_order_14 ?_
        refine fm_iconstv (pc := 15) 4 (by decide) dX9_order_15 ?_
        refine fm_icmp_le (pc := 16) 21 (by decide) dX9_order_16 (fun c16 => ?_) (fun c16 => ?_)
        · replace h := fm_itp c16 h
          refine fl_aload0 (pc := 21) dX9_order_21 ?_
          refine fm_getr (pc := 22) lk_9_32 sh_0 rfl dX9_order_22 ?_
          refine fl_aload0 (pc := 25) dX9_order_25 ?_
          refine fm_getr (pc := 26) lk_9_28 sh_0 rfl dX9_order_26 ?_
          obtain ⟨v1, M2, ev1, h⟩ := fm_bdp h
          refine fm_callV (pc := 29) mX7_copyFrom [_] _ rfl cvX7_copyFrom ml_9_240 sh_45 rfl rfl (Nat.le_of_ble_eq_true rfl) (Nat.le_of_ble_eq_true rfl) dX9_order_29 ?_
          refine sp_X7_copyFrom ev1 ?_
          refine fm_ret0 ?_
          refine fl_aload0 (pc := 32) dX9_order_32 ?_
          refine fm_getr (pc := 33) lk_9_69 sh_0 rfl dX9_order_33 ?_
          refine fl_aload0 (pc := 36) dX9_order_36 ?_
          obtain ⟨t3, et3, h⟩ := fm_ltp h
          obtain ⟨g4, h⟩ := fm_gdp h
          refine fm_getm (pc := 37) (fm_nn et3 g4) lk_9_21 sh_0 rfl dX9_order_37 ?_
          refine fm_cgr et3 ?_
          refine fl_aload0 (pc := 40) dX9_order_40 ?_
          refine fm_getr (pc := 41) lk_9_32 sh_0 rfl dX9_order_41 ?_
          refine fl_iload1 (pc := 44) dX9_order_44 ?_
          obtain ⟨v5, M6, ev5, h⟩ := fm_bdp h
          refine fm_callV (pc := 45) mX5_seek [_, _, _] _ rfl cvX5_seek ml_9_298 sh_73 rfl rfl (Nat.le_of_ble_eq_true rfl) (Nat.le_of_ble_eq_true rfl) dX9_order_45 ?_
          refine sp_X5_seek ev5 ?_
          refine fm_ret0 ?_
          refine fl_iload2 (pc := 48) dX9_order_48 ?_
          refine fm_iconstv (pc := 49) 4 (by decide) dX9_order_49 ?_
          refine fm_icmp_ne (pc := 50) 87 (by decide) dX9_order_50 (fun c50 => ?_) (fun c50 => ?_)
          · replace h := fm_itn c50 h
            refine fl_iload2 (pc := 87) dX9_order_87 ?_
            refine fl_aload0 (pc := 88) dX9_order_88 ?_
            refine fm_getr (pc := 89) lk_9_69 sh_0 rfl dX9_order_89 ?_
            refine fm_geti (pc := 92) lk_9_302 sh_73 rfl dX9_order_92 ?_
            refine fm_icmp_ge (pc := 95) 109 (by decide) dX9_order_95 (fun c95 => ?_) (fun c95 => ?_)
            · replace h := fm_itp c95 h
              refine fm_bipushv (pc := 109) (-2) (by decide) dX9_order_109 ?_
              refine fm_iret (pc := 111) rfl ?_ dX9_order_111
              cases h
              exact hq
            · replace h := fm_itn c95 h
              refine fl_aload0 (pc := 98) dX9_order_98 ?_
              refine fm_getr (pc := 99) lk_9_69 sh_0 rfl dX9_order_99 ?_
              refine fl_iload2 (pc := 102) dX9_order_102 ?_
              obtain ⟨v7, M8, ev7, h⟩ := fm_bdp h
              refine fm_callV (pc := 103) mX5_dayOf [_] _ rfl cvX5_dayOf ml_9_303 sh_73 rfl rfl (Nat.le_of_ble_eq_true rfl) (Nat.le_of_ble_eq_true rfl) dX9_order_103 ?_
              refine sp_X5_dayOf ev7 ?_
              refine fm_ret1 ?_
              refine fm_goto (pc := 106) 111 (by decide) dX9_order_106 ?_
              refine fm_iret (pc := 111) rfl ?_ dX9_order_111
              cases h
              exact hq
          · replace h := fm_itp c50 h
            refine fl_aload0 (pc := 53) dX9_order_53 ?_
            refine fm_getr (pc := 54) lk_9_69 sh_0 rfl dX9_order_54 ?_
            refine fm_geti (pc := 57) lk_9_299 sh_73 rfl dX9_order_57 ?_
            refine fl_aload0 (pc := 60) dX9_order_60 ?_
            refine fm_getr (pc := 61) lk_9_32 sh_0 rfl dX9_order_61 ?_
            refine fl_aload0 (pc := 64) dX9_order_64 ?_
            obtain ⟨t9, et9, h⟩ := fm_ltp h
            obtain ⟨g10, h⟩ := fm_gdp h
            refine fm_getm (pc := 65) (fm_nn et9 g10) lk_9_21 sh_0 rfl dX9_order_65 ?_
            refine fm_cgr et9 ?_
            refine fm_iconstv (pc := 68) 1 (by decide) dX9_order_68 ?_
            obtain ⟨v11, M12, ev11, h⟩ := fm_bdp h
            refine fm_callV (pc := 69) mX7_verdicts [_, _] _ rfl cvX7_verdicts ml_9_248 sh_45 rfl rfl (Nat.le_of_ble_eq_true rfl) (Nat.le_of_ble_eq_true rfl) dX9_order_69 ?_
            refine sp_X7_verdicts ev11 ?_
            refine fm_ret1 ?_
            refine fm_iadd (pc := 72) dX9_order_72 ?_
            refine fl_aload0 (pc := 73) dX9_order_73 ?_
            refine fm_getr (pc := 74) lk_9_28 sh_0 rfl dX9_order_74 ?_
            refine fl_aload0 (pc := 77) dX9_order_77 ?_
            obtain ⟨t13, et13, h⟩ := fm_ltp h
            obtain ⟨g14, h⟩ := fm_gdp h
            refine fm_getm (pc := 78) (fm_nn et13 g14) lk_9_21 sh_0 rfl dX9_order_78 ?_
            refine fm_cgr et13 ?_
            refine fm_iconstv (pc := 81) 1 (by decide) dX9_order_81 ?_
            obtain ⟨v15, M16, ev15, h⟩ := fm_bdp h
            refine fm_callV (pc := 82) mX7_verdicts [_, _] _ rfl cvX7_verdicts ml_9_248 sh_38 rfl rfl (Nat.le_of_ble_eq_true rfl) (Nat.le_of_ble_eq_true rfl) dX9_order_82 ?_
            refine sp_X7_verdicts ev15 ?_
            refine fm_ret1 ?_
            refine fm_isub (pc := 85) dX9_order_85 ?_
            refine fm_iret (pc := 86) rfl ?_ dX9_order_86
            cases h
            exact hq
        · replace h := fm_itn c16 h
          refine fm_iconstv (pc := 19) (-1) (by decide) dX9_order_19 ?_
          refine fm_iret (pc := 20) rfl ?_ dX9_order_20
          cases h
          exact hq
/-! X9_room -/
def G_X9_room_19 : Nat → Int32 → Int32 → Int32 → fm_M → Option (((Int32) ⊕ Int32) × fm_M)
  | 0, _, _, _, _ => none
  | n + 1, l1, l2, l3, M =>
    if 899 < l3 then (
      some (.inl l3, M)
    ) else (
      fm_bd (F_X7_wouldBeat 38 l1 l3 l2 M) (fun v5 M6 =>
      if v5 = 0 then (
        fm_bd (F_X7_wouldBeat 38 l1 (-l3) l2 M6) (fun v7 M8 =>
        if v7 = 0 then (
          G_X9_room_19 n l1 l2 (l3 + 1) M8
        ) else (
          some (.inr l3, M8)
        ))
      ) else (
        some (.inr l3, M6)
      ))
    )
def F_X9_room (a1 : Int32) (a2 : Int32) (M : fm_M) : Option (Int32 × fm_M) :=
    fm_bd (F_X9_isFork a1 M) (fun v1 M2 =>
    if v1 = 0 then (
      some ((-1), M2)
    ) else (
      fm_bd (F_X9_isNote a2 M2) (fun v3 M4 =>
      if v3 = 0 then (
        some ((-1), M4)
      ) else (
        fm_bs (G_X9_room_19 fm_fuel a1 a2 0 M4) (fun w9 M10 =>
          some ((-2), M10)) (fun r11 M => some (r11, M))
      ))
    ))
theorem lp_X9_room_19 {d : Nat} {Q : Option Value → fm_M → Prop} {l1 : Int32} {l2 : Int32}   {x : ((Int32) ⊕ Int32) × fm_M} (k1 : ∀ (v : Int32) (M2 : fm_M), x = (.inl v, M2) → fm_mw (d + 3) mX9_room Q 61 [some (.ref 0), some (.int l1), some (.int l2), some (.int v)] [] M2) (k2 : ∀ (r : Int32) (M2 : fm_M), x = (.inr r, M2) → Q (some (.int r)) M2) : ∀ (n : Nat) (l3 : Int32) (M : fm_M), G_X9_room_19 n l1 l2 l3 M = some x → fm_mw (d + 3) mX9_room Q 19 [some (.ref 0), some (.int l1), some (.int l2), some (.int l3)] [] M := by
  intro n
  induction n with
  | zero => intro l3 M h; simp [G_X9_room_19] at h
  | succ n ih =>
    intro l3 M h
    rw [G_X9_room_19] at h
    refine fl_iload3 (pc := 19) dX9_room_19 ?_
    refine fm_sipushv (pc := 20) 899 (by decide) dX9_room_20 ?_
    refine fm_icmp_gt (pc := 23) 61 (by decide) dX9_room_23 (fun c23 => ?_) (fun c23 => ?_)
    · replace h := fm_itp c23 h
      refine fm_fgt [some (.ref 0), some (.int l1), some (.int l2), some (.int l3)] (by simp [fm_sub]) ?_
      cases h
      exact k1 _ _ rfl
    · replace h := fm_itn c23 h
      refine fl_aload0 (pc := 26) dX9_room_26 ?_
      refine fm_getr (pc := 27) lk_9_28 sh_0 rfl dX9_room_27 ?_
      refine fl_iload1 (pc := 30) dX9_room_30 ?_
      refine fl_iload3 (pc := 31) dX9_room_31 ?_
      refine fl_iload2 (pc := 32) dX9_room_32 ?_
      obtain ⟨v5, M6, ev5, h⟩ := fm_bdp h
      refine fm_callV (pc := 33) mX7_wouldBeat [_, _, _] _ rfl cvX7_wouldBeat ml_9_306 sh_38 rfl rfl (Nat.le_of_ble_eq_true rfl) (Nat.le_of_ble_eq_true rfl) dX9_room_33 ?_
      refine sp_X7_wouldBeat ev5 ?_
      refine fm_ret1 ?_
      refine fm_if_ne (pc := 36) 53 (by decide) dX9_room_36 (fun c36 => ?_) (fun c36 => ?_)
      · replace h := fm_itn c36 h
        refine fl_iload3 (pc := 53) dX9_room_53 ?_
        refine fm_iret (pc := 54) rfl ?_ dX9_room_54
        cases h
        exact k2 _ _ rfl
      · replace h := fm_itp c36 h
        refine fl_aload0 (pc := 39) dX9_room_39 ?_
        refine fm_getr (pc := 40) lk_9_28 sh_0 rfl dX9_room_40 ?_
        refine fl_iload1 (pc := 43) dX9_room_43 ?_
        refine fl_iload3 (pc := 44) dX9_room_44 ?_
        refine fm_ineg (pc := 45) dX9_room_45 ?_
        refine fl_iload2 (pc := 46) dX9_room_46 ?_
        obtain ⟨v7, M8, ev7, h⟩ := fm_bdp h
        refine fm_callV (pc := 47) mX7_wouldBeat [_, _, _] _ rfl cvX7_wouldBeat ml_9_306 sh_38 rfl rfl (Nat.le_of_ble_eq_true rfl) (Nat.le_of_ble_eq_true rfl) dX9_room_47 ?_
        refine sp_X7_wouldBeat ev7 ?_
        refine fm_ret1 ?_
        refine fm_if_eq (pc := 50) 55 (by decide) dX9_room_50 (fun c50 => ?_) (fun c50 => ?_)
        · replace h := fm_itp c50 h
          refine fl_iinc3 (pc := 55) rfl 1 (by decide) (by decide) dX9_room_55 ?_
          refine fm_goto (pc := 58) 19 (by decide) dX9_room_58 ?_
          refine fm_fgt [some (.ref 0), some (.int l1), some (.int l2), some (.int (l3 + 1))] (by simp [fm_sub]) ?_
          exact ih _ _ h
        · replace h := fm_itn c50 h
          refine fl_iload3 (pc := 53) dX9_room_53 ?_
          refine fm_iret (pc := 54) rfl ?_ dX9_room_54
          cases h
          exact k2 _ _ rfl
theorem sp_X9_room {d : Nat} {a1 : Int32} {a2 : Int32} {M : fm_M} {x : Int32 × fm_M} {Q : Option Value → fm_M → Prop} (h : F_X9_room a1 a2 M = some x) (hq : Q (some (.int x.1)) x.2) : fm_ct (d + 3) mX9_room [.ref 0, .int a1, .int a2] M Q := by
  rw [F_X9_room] at h
  show fm_mw (d + 3) mX9_room Q 0 [some (.ref 0), some (.int a1), some (.int a2), none] [] M
  refine fl_aload0 (pc := 0) dX9_room_0 ?_
  refine fl_iload1 (pc := 1) dX9_room_1 ?_
  obtain ⟨v1, M2, ev1, h⟩ := fm_bdp h
  refine fm_callV (pc := 2) mX9_isFork [_] _ rfl cvX9_isFork ml_9_150 sh_0 rfl rfl (Nat.le_of_ble_eq_true rfl) (Nat.le_of_ble_eq_true rfl) dX9_room_2 ?_
  refine sp_X9_isFork ev1 ?_
  refine fm_ret1 ?_
  refine fm_if_eq (pc := 5) 15 (by decide) dX9_room_5 (fun c5 => ?_) (fun c5 => ?_)
  · replace h := fm_itp c5 h
    refine fm_iconstv (pc := 15) (-1) (by decide) dX9_room_15 ?_
    refine fm_iret (pc := 16) rfl ?_ dX9_room_16
    cases h
    exact hq
  · replace h := fm_itn c5 h
    refine fl_iload2 (pc := 8) dX9_room_8 ?_
    obtain ⟨v3, M4, ev3, h⟩ := fm_bdp h
    refine fm_callS (pc := 9) mX9_isNote [_] _ rfl csX9_isNote ml_9_178 rfl (Nat.le_of_ble_eq_true rfl) (Nat.le_of_ble_eq_true rfl) dX9_room_9 ?_
    refine sp_X9_isNote ev3 ?_
    refine fm_ret1 ?_
    refine fm_if_ne (pc := 12) 17 (by decide) dX9_room_12 (fun c12 => ?_) (fun c12 => ?_)
    · replace h := fm_itn c12 h
      refine fm_iconstv (pc := 17) 0 (by decide) dX9_room_17 ?_
      refine fl_istore3 (pc := 18) rfl (by decide) dX9_room_18 ?_
      obtain ⟨w9, M10, ew9, hl9, hr9⟩ := fm_bsp h
      refine lp_X9_room_19  ?_ ?_ _ _ _ ew9
      · intro w9 M9 q9
        cases q9
        replace h := hl9 _ rfl
        refine fm_bipushv (pc := 61) (-2) (by decide) dX9_room_61 ?_
        refine fm_iret (pc := 63) rfl ?_ dX9_room_63
        cases h
        exact hq
      · intro r9 M9 q9
        cases q9
        replace h := hr9 _ rfl
        cases h
        exact hq
    · replace h := fm_itp c12 h
      refine fm_iconstv (pc := 15) (-1) (by decide) dX9_room_15 ?_
      refine fm_iret (pc := 16) rfl ?_ dX9_room_16
      cases h
      exact hq
/-! X9_minute -/
def F_X9_minute (a1 : Int32) (a2 : Int32) (M : fm_M) : Option (Int32 × fm_M) :=
    fm_bd (F_X9_isMotion a1 M) (fun v1 M2 =>
    if v1 = 0 then (
      some ((-1), M2)
    ) else (
      if a2 = 0 then (
        fm_bd (F_X4_add 0 a1 M2) (fun v3 M4 =>
        some (v3, M4))
      ) else (
        fm_bd (F_X4_add 1 a1 M2) (fun v5 M6 =>
        some (v5, M6))
      )
    ))
theorem sp_X9_minute {d : Nat} {a1 : Int32} {a2 : Int32} {M : fm_M} {x : Int32 × fm_M} {Q : Option Value → fm_M → Prop} (h : F_X9_minute a1 a2 M = some x) (hq : Q (some (.int x.1)) x.2) : fm_ct (d + 1) mX9_minute [.ref 0, .int a1, .int a2] M Q := by
  rw [F_X9_minute] at h
  show fm_mw (d + 1) mX9_minute Q 0 [some (.ref 0), some (.int a1), some (.int a2)] [] M
  refine fl_aload0 (pc := 0) dX9_minute_0 ?_
  refine fl_iload1 (pc := 1) dX9_minute_1 ?_
  obtain ⟨v1, M2, ev1, h⟩ := fm_bdp h
  refine fm_callV (pc := 2) mX9_isMotion [_] _ rfl cvX9_isMotion ml_9_121 sh_0 rfl rfl (Nat.le_of_ble_eq_true rfl) (Nat.le_of_ble_eq_true rfl) dX9_minute_2 ?_
  refine sp_X9_isMotion ev1 ?_
  refine fm_ret1 ?_
  refine fm_if_eq (pc := 5) 28 (by decide) dX9_minute_5 (fun c5 => ?_) (fun c5 => ?_)
  · replace h := fm_itp c5 h
    refine fm_iconstv (pc := 28) (-1) (by decide) dX9_minute_28 ?_
    refine fm_iret (pc := 29) rfl ?_ dX9_minute_29
    cases h
    exact hq
  · replace h := fm_itn c5 h
    refine fl_aload0 (pc := 8) dX9_minute_8 ?_
    refine fm_getr (pc := 9) lk_9_48 sh_0 rfl dX9_minute_9 ?_
    refine fl_iload2 (pc := 12) dX9_minute_12 ?_
    refine fm_if_eq (pc := 13) 20 (by decide) dX9_minute_13 (fun c13 => ?_) (fun c13 => ?_)
    · replace h := fm_itp c13 h
      refine fm_iconstv (pc := 20) 0 (by decide) dX9_minute_20 ?_
      refine fl_iload1 (pc := 21) dX9_minute_21 ?_
      obtain ⟨v3, M4, ev3, h⟩ := fm_bdp h
      refine fm_callV (pc := 22) mX4_add [_, _] _ rfl cvX4_add ml_9_310 sh_63 rfl rfl (Nat.le_of_ble_eq_true rfl) (Nat.le_of_ble_eq_true rfl) dX9_minute_22 ?_
      refine sp_X4_add ev3 ?_
      refine fm_ret1 ?_
      refine fm_goto (pc := 25) 29 (by decide) dX9_minute_25 ?_
      refine fm_iret (pc := 29) rfl ?_ dX9_minute_29
      cases h
      exact hq
    · replace h := fm_itn c13 h
      refine fm_iconstv (pc := 16) 1 (by decide) dX9_minute_16 ?_
      refine fm_goto (pc := 17) 21 (by decide) dX9_minute_17 ?_
      refine fl_iload1 (pc := 21) dX9_minute_21 ?_
      obtain ⟨v5, M6, ev5, h⟩ := fm_bdp h
      refine fm_callV (pc := 22) mX4_add [_, _] _ rfl cvX4_add ml_9_310 sh_63 rfl rfl (Nat.le_of_ble_eq_true rfl) (Nat.le_of_ble_eq_true rfl) dX9_minute_22 ?_
      refine sp_X4_add ev5 ?_
      refine fm_ret1 ?_
      refine fm_goto (pc := 25) 29 (by decide) dX9_minute_25 ?_
      refine fm_iret (pc := 29) rfl ?_ dX9_minute_29
      cases h
      exact hq
/-! X9_out -/
def F_X9_out (a1 : Int32) (M : fm_M) : Option (Int32 × fm_M) :=
    if a1 < 0 then (
      some ((-1), M)
    ) else (
      if (M.1 63 2) ≤ a1 then (
        some ((-1), M)
      ) else (
        fm_bd (F_X4_add 2 a1 M) (fun v1 M2 =>
        some (v1, M2))
      )
    )
theorem sp_X9_out {d : Nat} {a1 : Int32} {M : fm_M} {x : Int32 × fm_M} {Q : Option Value → fm_M → Prop} (h : F_X9_out a1 M = some x) (hq : Q (some (.int x.1)) x.2) : fm_ct (d + 1) mX9_out [.ref 0, .int a1] M Q := by
  rw [F_X9_out] at h
  show fm_mw (d + 1) mX9_out Q 0 [some (.ref 0), some (.int a1)] [] M
  refine fl_iload1 (pc := 0) dX9_out_0 ?_
  refine fm_if_lt (pc := 1) 27 (by decide) dX9_out_1 (fun c1 => ?_) (fun c1 => ?_)
  · replace h := fm_itp c1 h
    refine fm_iconstv (pc := 27) (-1) (by decide) dX9_out_27 ?_
    refine fm_iret (pc := 28) rfl ?_ dX9_out_28
    cases h
    exact hq
  · replace h := fm_itn c1 h
    refine fl_iload1 (pc := 4) dX9_out_4 ?_
    refine fl_aload0 (pc := 5) dX9_out_5 ?_
    refine fm_getr (pc := 6) lk_9_48 sh_0 rfl dX9_out_6 ?_
    refine fm_geti (pc := 9) lk_9_312 sh_63 rfl dX9_out_9 ?_
    refine fm_icmp_ge (pc := 12) 27 (by decide) dX9_out_12 (fun c12 => ?_) (fun c12 => ?_)
    · replace h := fm_itp c12 h
      refine fm_iconstv (pc := 27) (-1) (by decide) dX9_out_27 ?_
      refine fm_iret (pc := 28) rfl ?_ dX9_out_28
      cases h
      exact hq
    · replace h := fm_itn c12 h
      refine fl_aload0 (pc := 15) dX9_out_15 ?_
      refine fm_getr (pc := 16) lk_9_48 sh_0 rfl dX9_out_16 ?_
      refine fm_iconstv (pc := 19) 2 (by decide) dX9_out_19 ?_
      refine fl_iload1 (pc := 20) dX9_out_20 ?_
      obtain ⟨v1, M2, ev1, h⟩ := fm_bdp h
      refine fm_callV (pc := 21) mX4_add [_, _] _ rfl cvX4_add ml_9_310 sh_63 rfl rfl (Nat.le_of_ble_eq_true rfl) (Nat.le_of_ble_eq_true rfl) dX9_out_21 ?_
      refine sp_X4_add ev1 ?_
      refine fm_ret1 ?_
      refine fm_goto (pc := 24) 28 (by decide) dX9_out_24 ?_
      refine fm_iret (pc := 28) rfl ?_ dX9_out_28
      cases h
      exact hq
/-! X9_known -/
def F_X9_known (a1 : Int32) (M : fm_M) : Option (Int32 × fm_M) :=
    if a1 < (-1) then (
      some (0, M)
    ) else (
      if a1 ≤ (M.1 63 2) then (
        fm_lt (fm_up M 63 3 a1) (fun M1 =>
        some (1, M1))
      ) else (
        some (0, M)
      )
    )
theorem sp_X9_known {d : Nat} {a1 : Int32} {M : fm_M} {x : Int32 × fm_M} {Q : Option Value → fm_M → Prop} (h : F_X9_known a1 M = some x) (hq : Q (some (.int x.1)) x.2) : fm_ct d mX9_known [.ref 0, .int a1] M Q := by
  rw [F_X9_known] at h
  show fm_mw d mX9_known Q 0 [some (.ref 0), some (.int a1)] [] M
  refine fl_iload1 (pc := 0) dX9_known_0 ?_
  refine fm_iconstv (pc := 1) (-1) (by decide) dX9_known_1 ?_
  refine fm_icmp_lt (pc := 2) 16 (by decide) dX9_known_2 (fun c2 => ?_) (fun c2 => ?_)
  · replace h := fm_itp c2 h
    refine fm_iconstv (pc := 16) 0 (by decide) dX9_known_16 ?_
    refine fm_zret (pc := 17) rfl (by decide) ?_ dX9_known_17
    cases h
    exact hq
  · replace h := fm_itn c2 h
    refine fl_iload1 (pc := 5) dX9_known_5 ?_
    refine fl_aload0 (pc := 6) dX9_known_6 ?_
    refine fm_getr (pc := 7) lk_9_48 sh_0 rfl dX9_known_7 ?_
    refine fm_geti (pc := 10) lk_9_312 sh_63 rfl dX9_known_10 ?_
    refine fm_icmp_le (pc := 13) 18 (by decide) dX9_known_13 (fun c13 => ?_) (fun c13 => ?_)
    · replace h := fm_itp c13 h
      refine fl_aload0 (pc := 18) dX9_known_18 ?_
      refine fm_getr (pc := 19) lk_9_48 sh_0 rfl dX9_known_19 ?_
      refine fl_iload1 (pc := 22) dX9_known_22 ?_
      refine fm_puti (pc := 23) lp_9_313 sh_63 rfl dX9_known_23 ?_
      obtain ⟨M1, eM1, h⟩ := fm_ltp h
      refine fm_cgm eM1 ?_
      refine fm_iconstv (pc := 26) 1 (by decide) dX9_known_26 ?_
      refine fm_zret (pc := 27) rfl (by decide) ?_ dX9_known_27
      cases h
      exact hq
    · replace h := fm_itn c13 h
      refine fm_iconstv (pc := 16) 0 (by decide) dX9_known_16 ?_
      refine fm_zret (pc := 17) rfl (by decide) ?_ dX9_known_17
      cases h
      exact hq
/-! X9_widths -/
def G_X9_widths_34 : Nat → Int32 → Int32 → Int32 → Int32 → fm_M → Option ((Int32 × Int32) × fm_M)
  | 0, _, _, _, _, _ => none
  | n + 1, l1, l2, l3, l4, M =>
    if 10 ≤ l4 then (
      some ((l3, l4), M)
    ) else (
      fm_lt (Int32.toNatClampNeg (M.1 0 1)) (fun t9 =>
      fm_gd (fm_isTd t9) (
      fm_bd (F_X7_begin 45 t9 M) (fun v11 M12 =>
      fm_gd (fm_inb l1 8) (
      fm_lt (fm_up M12 47 (Int32.toNatClampNeg l1) (10 * l4)) (fun M14 =>
      fm_lt (Int32.toNatClampNeg (M14.1 0 1)) (fun t15 =>
      fm_gd (fm_isTd t15) (
      fm_bd (F_X7_passDays 45 t15 l2 M14) (fun v17 M18 =>
      fm_bd (F_X4_agreeWith 45 M18) (fun v19 M20 =>
      if v19 = 0 then (
        G_X9_widths_34 n l1 l2 l3 (l4 + 1) M20
      ) else (
        fm_lt ((l3 ||| (1 <<< (l4 &&& 31)))) (fun x21 =>
        G_X9_widths_34 n l1 l2 x21 (l4 + 1) M20)
      ))))))))))
    )
def F_X9_widths (a1 : Int32) (M : fm_M) : Option (Int32 × fm_M) :=
    fm_bd (F_X9_isFork a1 M) (fun v1 M2 =>
    if v1 = 0 then (
      some ((-1), M2)
    ) else (
      fm_bd (F_X4_sift M2) (fun v3 M4 =>
      fm_lt (Int32.toNatClampNeg (M4.1 0 1)) (fun t5 =>
      fm_gd (fm_isTd t5) (
      fm_bd (F_X4_daysToHear t5 M4) (fun v7 M8 =>
      fm_bd (G_X9_widths_34 fm_fuel a1 v7 0 0 M8) (fun w22 M23 =>
        some (w22.1, M23))))))
    ))
theorem lp_X9_widths_34 {d : Nat} {Q : Option Value → fm_M → Prop} {l1 : Int32} {l2 : Int32}   {x : (Int32 × Int32) × fm_M} (k1 : ∀ (v : Int32 × Int32) (M2 : fm_M), x = (v, M2) → fm_mw (d + 7) mX9_widths Q 105 [some (.ref 0), some (.int l1), some (.int l2), some (.int v.1), some (.int v.2)] [] M2) : ∀ (n : Nat) (l3 : Int32) (l4 : Int32) (M : fm_M), G_X9_widths_34 n l1 l2 l3 l4 M = some x → fm_mw (d + 7) mX9_widths Q 34 [some (.ref 0), some (.int l1), some (.int l2), some (.int l3), some (.int l4)] [] M := by
  intro n
  induction n with
  | zero => intro l3 l4 M h; simp [G_X9_widths_34] at h
  | succ n ih =>
    intro l3 l4 M h
    rw [G_X9_widths_34] at h
    refine fl_iload4 (pc := 34) dX9_widths_34 ?_
    refine fm_bipushv (pc := 36) 10 (by decide) dX9_widths_36 ?_
    refine fm_icmp_ge (pc := 38) 105 (by decide) dX9_widths_38 (fun c38 => ?_) (fun c38 => ?_)
    · replace h := fm_itp c38 h
      refine fm_fgt [some (.ref 0), some (.int l1), some (.int l2), some (.int l3), some (.int l4)] (by simp [fm_sub]) ?_
      cases h
      exact k1 _ _ rfl
    · replace h := fm_itn c38 h
      refine fl_aload0 (pc := 41) dX9_widths_41 ?_
      refine fm_getr (pc := 42) lk_9_32 sh_0 rfl dX9_widths_42 ?_
      refine fl_aload0 (pc := 45) dX9_widths_45 ?_
      obtain ⟨t9, et9, h⟩ := fm_ltp h
      obtain ⟨g10, h⟩ := fm_gdp h
      refine fm_getm (pc := 46) (fm_nn et9 g10) lk_9_21 sh_0 rfl dX9_widths_46 ?_
      refine fm_cgr et9 ?_
      obtain ⟨v11, M12, ev11, h⟩ := fm_bdp h
      refine fm_callV (pc := 49) mX7_begin [_] _ rfl cvX7_begin ml_9_98 sh_45 rfl rfl (Nat.le_of_ble_eq_true rfl) (Nat.le_of_ble_eq_true rfl) dX9_widths_49 ?_
      refine sp_X7_begin ev11 ?_
      refine fm_ret0 ?_
      refine fl_aload0 (pc := 52) dX9_widths_52 ?_
      refine fm_getr (pc := 53) lk_9_32 sh_0 rfl dX9_widths_53 ?_
      refine fm_getr (pc := 56) lk_9_322 sh_45 rfl dX9_widths_56 ?_
      refine fl_iload1 (pc := 59) dX9_widths_59 ?_
      refine fm_bipushv (pc := 60) 10 (by decide) dX9_widths_60 ?_
      refine fl_iload4 (pc := 62) dX9_widths_62 ?_
      refine fm_imul (pc := 64) dX9_widths_64 ?_
      obtain ⟨g13, h⟩ := fm_gdp h
      refine fm_iast (pc := 65) sh_47 (fm_inb_ok g13) dX9_widths_65 ?_
      obtain ⟨M14, eM14, h⟩ := fm_ltp h
      refine fm_cgm eM14 ?_
      refine fl_aload0 (pc := 66) dX9_widths_66 ?_
      refine fm_getr (pc := 67) lk_9_32 sh_0 rfl dX9_widths_67 ?_
      refine fl_aload0 (pc := 70) dX9_widths_70 ?_
      obtain ⟨t15, et15, h⟩ := fm_ltp h
      obtain ⟨g16, h⟩ := fm_gdp h
      refine fm_getm (pc := 71) (fm_nn et15 g16) lk_9_21 sh_0 rfl dX9_widths_71 ?_
      refine fm_cgr et15 ?_
      refine fl_iload2 (pc := 74) dX9_widths_74 ?_
      obtain ⟨v17, M18, ev17, h⟩ := fm_bdp h
      refine fm_callV (pc := 75) mX7_passDays [_, _] _ rfl cvX7_passDays ml_9_236 sh_45 rfl rfl (Nat.le_of_ble_eq_true rfl) (Nat.le_of_ble_eq_true rfl) dX9_widths_75 ?_
      refine sp_X7_passDays ev17 ?_
      refine fm_ret0 ?_
      refine fl_aload0 (pc := 78) dX9_widths_78 ?_
      refine fm_getr (pc := 79) lk_9_48 sh_0 rfl dX9_widths_79 ?_
      refine fl_aload0 (pc := 82) dX9_widths_82 ?_
      refine fm_getr (pc := 83) lk_9_32 sh_0 rfl dX9_widths_83 ?_
      obtain ⟨v19, M20, ev19, h⟩ := fm_bdp h
      refine fm_callV (pc := 86) mX4_agreeWith [_] _ rfl cvX4_agreeWith ml_9_323 sh_63 rfl rfl (Nat.le_of_ble_eq_true rfl) (Nat.le_of_ble_eq_true rfl) dX9_widths_86 ?_
      refine sp_X4_agreeWith ev19 ?_
      refine fm_ret1 ?_
      refine fm_if_eq (pc := 89) 99 (by decide) dX9_widths_89 (fun c89 => ?_) (fun c89 => ?_)
      · replace h := fm_itp c89 h
        refine fl_iinc4 (pc := 99) rfl 1 (by decide) (by decide) dX9_widths_99 ?_
        refine fm_goto (pc := 102) 34 (by decide) dX9_widths_102 ?_
        refine fm_fgt [some (.ref 0), some (.int l1), some (.int l2), some (.int l3), some (.int (l4 + 1))] (by simp [fm_sub]) ?_
        exact ih _ _ _ h
      · replace h := fm_itn c89 h
        refine fl_iload3 (pc := 92) dX9_widths_92 ?_
        refine fm_iconstv (pc := 93) 1 (by decide) dX9_widths_93 ?_
        refine fl_iload4 (pc := 94) dX9_widths_94 ?_
        refine fm_ishl (pc := 96) dX9_widths_96 ?_
        refine fm_ior (pc := 97) dX9_widths_97 ?_
        obtain ⟨x21, ex21, h⟩ := fm_ltp h
        refine fm_cgi ex21 ?_
        refine fl_istore3 (pc := 98) rfl (by decide) dX9_widths_98 ?_
        refine fl_iinc4 (pc := 99) rfl 1 (by decide) (by decide) dX9_widths_99 ?_
        refine fm_goto (pc := 102) 34 (by decide) dX9_widths_102 ?_
        refine fm_fgt [some (.ref 0), some (.int l1), some (.int l2), some (.int x21), some (.int (l4 + 1))] (by simp [fm_sub]) ?_
        exact ih _ _ _ h
theorem sp_X9_widths {d : Nat} {a1 : Int32} {M : fm_M} {x : Int32 × fm_M} {Q : Option Value → fm_M → Prop} (h : F_X9_widths a1 M = some x) (hq : Q (some (.int x.1)) x.2) : fm_ct (d + 7) mX9_widths [.ref 0, .int a1] M Q := by
  rw [F_X9_widths] at h
  show fm_mw (d + 7) mX9_widths Q 0 [some (.ref 0), some (.int a1), none, none, none] [] M
  refine fl_aload0 (pc := 0) dX9_widths_0 ?_
  refine fl_iload1 (pc := 1) dX9_widths_1 ?_
  obtain ⟨v1, M2, ev1, h⟩ := fm_bdp h
  refine fm_callV (pc := 2) mX9_isFork [_] _ rfl cvX9_isFork ml_9_150 sh_0 rfl rfl (Nat.le_of_ble_eq_true rfl) (Nat.le_of_ble_eq_true rfl) dX9_widths_2 ?_
  refine sp_X9_isFork ev1 ?_
  refine fm_ret1 ?_
  refine fm_if_ne (pc := 5) 10 (by decide) dX9_widths_5 (fun c5 => ?_) (fun c5 => ?_)
  · replace h := fm_itn c5 h
    refine fl_aload0 (pc := 10) dX9_widths_10 ?_
    refine fm_getr (pc := 11) lk_9_48 sh_0 rfl dX9_widths_11 ?_
    obtain ⟨v3, M4, ev3, h⟩ := fm_bdp h
    refine fm_callV (pc := 14) mX4_sift [] _ rfl cvX4_sift ml_9_316 sh_63 rfl rfl (Nat.le_of_ble_eq_true rfl) (Nat.le_of_ble_eq_true rfl) dX9_widths_14 ?_
    refine sp_X4_sift ev3 ?_
    refine fm_ret0 ?_
    refine fl_aload0 (pc := 17) dX9_widths_17 ?_
    refine fm_getr (pc := 18) lk_9_48 sh_0 rfl dX9_widths_18 ?_
    refine fl_aload0 (pc := 21) dX9_widths_21 ?_
    obtain ⟨t5, et5, h⟩ := fm_ltp h
    obtain ⟨g6, h⟩ := fm_gdp h
    refine fm_getm (pc := 22) (fm_nn et5 g6) lk_9_21 sh_0 rfl dX9_widths_22 ?_
    refine fm_cgr et5 ?_
    obtain ⟨v7, M8, ev7, h⟩ := fm_bdp h
    refine fm_callV (pc := 25) mX4_daysToHear [_] _ rfl cvX4_daysToHear ml_9_319 sh_63 rfl rfl (Nat.le_of_ble_eq_true rfl) (Nat.le_of_ble_eq_true rfl) dX9_widths_25 ?_
    refine sp_X4_daysToHear ev7 ?_
    refine fm_ret1 ?_
    refine fl_istore2 (pc := 28) rfl (by decide) dX9_widths_28 ?_
    refine fm_iconstv (pc := 29) 0 (by decide) dX9_widths_29 ?_
    refine fl_istore3 (pc := 30) rfl (by decide) dX9_widths_30 ?_
    refine fm_iconstv (pc := 31) 0 (by decide) dX9_widths_31 ?_
    refine fl_istore4 (pc := 32) rfl (by decide) dX9_widths_32 ?_
    obtain ⟨w22, M23, ew22, h⟩ := fm_bdp h
    refine lp_X9_widths_34  ?_ _ _ _ _ ew22
    intro w229 M239 q9
    cases q9
    refine fl_iload3 (pc := 105) dX9_widths_105 ?_
    refine fm_iret (pc := 106) rfl ?_ dX9_widths_106
    cases h
    exact hq
  · replace h := fm_itp c5 h
    refine fm_iconstv (pc := 8) (-1) (by decide) dX9_widths_8 ?_
    refine fm_iret (pc := 9) rfl ?_ dX9_widths_9
    cases h
    exact hq
/-! X9_chance -/
def G_X9_chance_50 : Nat → Int32 → Int32 → Int32 → Int32 → Int32 → Int32 → Int32 → fm_M → Option ((Int32 × Int32 × Int32) × fm_M)
  | 0, _, _, _, _, _, _, _, _ => none
  | n + 1, l1, l2, l3, l4, l5, l6, l7, M =>
    if 10 ≤ l7 then (
      some ((l5, l6, l7), M)
    ) else (
      fm_bd (F_X7_copyFrom 45 38 M) (fun v5 M6 =>
      fm_lt (Int32.toNatClampNeg (M6.1 0 1)) (fun t7 =>
      fm_gd (fm_isTd t7) (
      fm_bd (F_X7_passDaysByChance 45 t7 l2 l6 M6) (fun v9 M10 =>
      fm_lt (Int32.toNatClampNeg (M10.1 0 1)) (fun t11 =>
      fm_gd (fm_isTd t11) (
      fm_bd (F_X7_verdicts 45 t11 1 M10) (fun v13 M14 =>
      if (v13 - l4) < l3 then (
        G_X9_chance_50 n l1 l2 l3 l4 l5 v9 (l7 + 1) M14
      ) else (
        G_X9_chance_50 n l1 l2 l3 l4 (l5 + 1) v9 (l7 + 1) M14
      ))))))))
    )
def F_X9_chance (a1 : Int32) (a2 : Int32) (a3 : Int32) (M : fm_M) : Option (Int32 × fm_M) :=
    if a1 < 0 then (
      some ((-1), M)
    ) else (
      if a2 < 1 then (
        some ((-1), M)
      ) else (
        if 99 < a2 then (
          some ((-1), M)
        ) else (
          if a3 < 0 then (
            some ((-1), M)
          ) else (
            if a3 ≤ 10 then (
              fm_lt (Int32.toNatClampNeg (M.1 0 1)) (fun t1 =>
              fm_gd (fm_isTd t1) (
              fm_bd (F_X7_verdicts 38 t1 1 M) (fun v3 M4 =>
              fm_bd (G_X9_chance_50 fm_fuel a1 a2 a3 v3 0 a1 0 M4) (fun w15 M16 =>
                some (w15.1, M16)))))
            ) else (
              some ((-1), M)
            )
          )
        )
      )
    )
theorem lp_X9_chance_50 {d : Nat} {Q : Option Value → fm_M → Prop} {l1 : Int32} {l2 : Int32} {l3 : Int32} {l4 : Int32}   {x : (Int32 × Int32 × Int32) × fm_M} (k1 : ∀ (v : Int32 × Int32 × Int32) (M2 : fm_M), x = (v, M2) → fm_mw (d + 7) mX9_chance Q 112 [some (.ref 0), some (.int l1), some (.int l2), some (.int l3), some (.int l4), some (.int v.1), some (.int v.2.1), some (.int v.2.2)] [] M2) : ∀ (n : Nat) (l5 : Int32) (l6 : Int32) (l7 : Int32) (M : fm_M), G_X9_chance_50 n l1 l2 l3 l4 l5 l6 l7 M = some x → fm_mw (d + 7) mX9_chance Q 50 [some (.ref 0), some (.int l1), some (.int l2), some (.int l3), some (.int l4), some (.int l5), some (.int l6), some (.int l7)] [] M := by
  intro n
  induction n with
  | zero => intro l5 l6 l7 M h; simp [G_X9_chance_50] at h
  | succ n ih =>
    intro l5 l6 l7 M h
    rw [G_X9_chance_50] at h
    refine fl_iload7 (pc := 50) dX9_chance_50 ?_
    refine fm_bipushv (pc := 52) 10 (by decide) dX9_chance_52 ?_
    refine fm_icmp_ge (pc := 54) 112 (by decide) dX9_chance_54 (fun c54 => ?_) (fun c54 => ?_)
    · replace h := fm_itp c54 h
      refine fm_fgt [some (.ref 0), some (.int l1), some (.int l2), some (.int l3), some (.int l4), some (.int l5), some (.int l6), some (.int l7)] (by simp [fm_sub]) ?_
      cases h
      exact k1 _ _ rfl
    · replace h := fm_itn c54 h
      refine fl_aload0 (pc := 57) dX9_chance_57 ?_
      refine fm_getr (pc := 58) lk_9_32 sh_0 rfl dX9_chance_58 ?_
      refine fl_aload0 (pc := 61) dX9_chance_61 ?_
      refine fm_getr (pc := 62) lk_9_28 sh_0 rfl dX9_chance_62 ?_
      obtain ⟨v5, M6, ev5, h⟩ := fm_bdp h
      refine fm_callV (pc := 65) mX7_copyFrom [_] _ rfl cvX7_copyFrom ml_9_240 sh_45 rfl rfl (Nat.le_of_ble_eq_true rfl) (Nat.le_of_ble_eq_true rfl) dX9_chance_65 ?_
      refine sp_X7_copyFrom ev5 ?_
      refine fm_ret0 ?_
      refine fl_aload0 (pc := 68) dX9_chance_68 ?_
      refine fm_getr (pc := 69) lk_9_32 sh_0 rfl dX9_chance_69 ?_
      refine fl_aload0 (pc := 72) dX9_chance_72 ?_
      obtain ⟨t7, et7, h⟩ := fm_ltp h
      obtain ⟨g8, h⟩ := fm_gdp h
      refine fm_getm (pc := 73) (fm_nn et7 g8) lk_9_21 sh_0 rfl dX9_chance_73 ?_
      refine fm_cgr et7 ?_
      refine fl_iload2 (pc := 76) dX9_chance_76 ?_
      refine fl_iload6 (pc := 77) dX9_chance_77 ?_
      obtain ⟨v9, M10, ev9, h⟩ := fm_bdp h
      refine fm_callV (pc := 79) mX7_passDaysByChance [_, _, _] _ rfl cvX7_passDaysByChance ml_9_327 sh_45 rfl rfl (Nat.le_of_ble_eq_true rfl) (Nat.le_of_ble_eq_true rfl) dX9_chance_79 ?_
      refine sp_X7_passDaysByChance ev9 ?_
      refine fm_ret1 ?_
      refine fl_istore6 (pc := 82) rfl (by decide) dX9_chance_82 ?_
      refine fl_aload0 (pc := 84) dX9_chance_84 ?_
      refine fm_getr (pc := 85) lk_9_32 sh_0 rfl dX9_chance_85 ?_
      refine fl_aload0 (pc := 88) dX9_chance_88 ?_
      obtain ⟨t11, et11, h⟩ := fm_ltp h
      obtain ⟨g12, h⟩ := fm_gdp h
      refine fm_getm (pc := 89) (fm_nn et11 g12) lk_9_21 sh_0 rfl dX9_chance_89 ?_
      refine fm_cgr et11 ?_
      refine fm_iconstv (pc := 92) 1 (by decide) dX9_chance_92 ?_
      obtain ⟨v13, M14, ev13, h⟩ := fm_bdp h
      refine fm_callV (pc := 93) mX7_verdicts [_, _] _ rfl cvX7_verdicts ml_9_248 sh_45 rfl rfl (Nat.le_of_ble_eq_true rfl) (Nat.le_of_ble_eq_true rfl) dX9_chance_93 ?_
      refine sp_X7_verdicts ev13 ?_
      refine fm_ret1 ?_
      refine fl_iload4 (pc := 96) dX9_chance_96 ?_
      refine fm_isub (pc := 98) dX9_chance_98 ?_
      refine fl_iload3 (pc := 99) dX9_chance_99 ?_
      refine fm_icmp_lt (pc := 100) 106 (by decide) dX9_chance_100 (fun c100 => ?_) (fun c100 => ?_)
      · replace h := fm_itp c100 h
        refine fl_iinc7 (pc := 106) rfl 1 (by decide) (by decide) dX9_chance_106 ?_
        refine fm_goto (pc := 109) 50 (by decide) dX9_chance_109 ?_
        refine fm_fgt [some (.ref 0), some (.int l1), some (.int l2), some (.int l3), some (.int l4), some (.int l5), some (.int v9), some (.int (l7 + 1))] (by simp [fm_sub]) ?_
        exact ih _ _ _ _ h
      · replace h := fm_itn c100 h
        refine fl_iinc5 (pc := 103) rfl 1 (by decide) (by decide) dX9_chance_103 ?_
        refine fl_iinc7 (pc := 106) rfl 1 (by decide) (by decide) dX9_chance_106 ?_
        refine fm_goto (pc := 109) 50 (by decide) dX9_chance_109 ?_
        refine fm_fgt [some (.ref 0), some (.int l1), some (.int l2), some (.int l3), some (.int l4), some (.int (l5 + 1)), some (.int v9), some (.int (l7 + 1))] (by simp [fm_sub]) ?_
        exact ih _ _ _ _ h
theorem sp_X9_chance {d : Nat} {a1 : Int32} {a2 : Int32} {a3 : Int32} {M : fm_M} {x : Int32 × fm_M} {Q : Option Value → fm_M → Prop} (h : F_X9_chance a1 a2 a3 M = some x) (hq : Q (some (.int x.1)) x.2) : fm_ct (d + 7) mX9_chance [.ref 0, .int a1, .int a2, .int a3] M Q := by
  rw [F_X9_chance] at h
  show fm_mw (d + 7) mX9_chance Q 0 [some (.ref 0), some (.int a1), some (.int a2), some (.int a3), none, none, none, none] [] M
  refine fl_iload1 (pc := 0) dX9_chance_0 ?_
  refine fm_if_lt (pc := 1) 25 (by decide) dX9_chance_1 (fun c1 => ?_) (fun c1 => ?_)
  · replace h := fm_itp c1 h
    refine fm_iconstv (pc := 25) (-1) (by decide) dX9_chance_25 ?_
    refine fm_iret (pc := 26) rfl ?_ dX9_chance_26
    cases h
    exact hq
  · replace h := fm_itn c1 h
    refine fl_iload2 (pc := 4) dX9_chance_4 ?_
    refine fm_iconstv (pc := 5) 1 (by decide) dX9_chance_5 ?_
    refine fm_icmp_lt (pc := 6) 25 (by decide) dX9_chance_6 (fun c6 => ?_) (fun c6 => ?_)
    · replace h := fm_itp c6 h
      refine fm_iconstv (pc := 25) (-1) (by decide) dX9_chance_25 ?_
      refine fm_iret (pc := 26) rfl ?_ dX9_chance_26
      cases h
      exact hq
    · replace h := fm_itn c6 h
      refine fl_iload2 (pc := 9) dX9_chance_9 ?_
      refine fm_bipushv (pc := 10) 99 (by decide) dX9_chance_10 ?_
      refine fm_icmp_gt (pc := 12) 25 (by decide) dX9_chance_12 (fun c12 => ?_) (fun c12 => ?_)
      · replace h := fm_itp c12 h
        refine fm_iconstv (pc := 25) (-1) (by decide) dX9_chance_25 ?_
        refine fm_iret (pc := 26) rfl ?_ dX9_chance_26
        cases h
        exact hq
      · replace h := fm_itn c12 h
        refine fl_iload3 (pc := 15) dX9_chance_15 ?_
        refine fm_if_lt (pc := 16) 25 (by decide) dX9_chance_16 (fun c16 => ?_) (fun c16 => ?_)
        · replace h := fm_itp c16 h
          refine fm_iconstv (pc := 25) (-1) (by decide) dX9_chance_25 ?_
          refine fm_iret (pc := 26) rfl ?_ dX9_chance_26
          cases h
          exact hq
        · replace h := fm_itn c16 h
          refine fl_iload3 (pc := 19) dX9_chance_19 ?_
          refine fm_bipushv (pc := 20) 10 (by decide) dX9_chance_20 ?_
          refine fm_icmp_le (pc := 22) 27 (by decide) dX9_chance_22 (fun c22 => ?_) (fun c22 => ?_)
          · replace h := fm_itp c22 h
            refine fl_aload0 (pc := 27) dX9_chance_27 ?_
            refine fm_getr (pc := 28) lk_9_28 sh_0 rfl dX9_chance_28 ?_
            refine fl_aload0 (pc := 31) dX9_chance_31 ?_
            obtain ⟨t1, et1, h⟩ := fm_ltp h
            obtain ⟨g2, h⟩ := fm_gdp h
            refine fm_getm (pc := 32) (fm_nn et1 g2) lk_9_21 sh_0 rfl dX9_chance_32 ?_
            refine fm_cgr et1 ?_
            refine fm_iconstv (pc := 35) 1 (by decide) dX9_chance_35 ?_
            obtain ⟨v3, M4, ev3, h⟩ := fm_bdp h
            refine fm_callV (pc := 36) mX7_verdicts [_, _] _ rfl cvX7_verdicts ml_9_248 sh_38 rfl rfl (Nat.le_of_ble_eq_true rfl) (Nat.le_of_ble_eq_true rfl) dX9_chance_36 ?_
            refine sp_X7_verdicts ev3 ?_
            refine fm_ret1 ?_
            refine fl_istore4 (pc := 39) rfl (by decide) dX9_chance_39 ?_
            refine fm_iconstv (pc := 41) 0 (by decide) dX9_chance_41 ?_
            refine fl_istore5 (pc := 42) rfl (by decide) dX9_chance_42 ?_
            refine fl_iload1 (pc := 44) dX9_chance_44 ?_
            refine fl_istore6 (pc := 45) rfl (by decide) dX9_chance_45 ?_
            refine fm_iconstv (pc := 47) 0 (by decide) dX9_chance_47 ?_
            refine fl_istore7 (pc := 48) rfl (by decide) dX9_chance_48 ?_
            obtain ⟨w15, M16, ew15, h⟩ := fm_bdp h
            refine lp_X9_chance_50  ?_ _ _ _ _ _ ew15
            intro w159 M169 q9
            cases q9
            refine fl_iload5 (pc := 112) dX9_chance_112 ?_
            refine fm_iret (pc := 114) rfl ?_ dX9_chance_114
            cases h
            exact hq
          · replace h := fm_itn c22 h
            refine fm_iconstv (pc := 25) (-1) (by decide) dX9_chance_25 ?_
            refine fm_iret (pc := 26) rfl ?_ dX9_chance_26
            cases h
            exact hq
/-! X9_tried -/
def J_X9_tried_156 (l1 : Int32) (l2 : Int32) (l3 : Int32) (M : fm_M) : Option (Int32 × fm_M) :=
    fm_lt (Int32.toNatClampNeg (M.1 0 1)) (fun t10 =>
    fm_gd (fm_isTd t10) (
    fm_bd (F_X7_verdicts 45 t10 1 M) (fun v12 M13 =>
    fm_lt (Int32.toNatClampNeg (M13.1 0 1)) (fun t14 =>
    fm_gd (fm_isTd t14) (
    fm_bd (F_X7_verdicts 38 t14 1 M13) (fun v16 M17 =>
    some ((v12 - v16), M17)))))))
def J_X9_tried_124 (l1 : Int32) (l2 : Int32) (l3 : Int32) (M : fm_M) : Option (Int32 × fm_M) :=
    if l1 = 1 then (
      fm_lt (Int32.toNatClampNeg (M.1 0 1)) (fun t18 =>
      fm_gd (fm_isTd t18) (
      fm_bd (F_X7_passDryDays 45 t18 l3 M) (fun v20 M21 =>
      J_X9_tried_156 l1 l2 l3 M21)))
    ) else (
      fm_lt (Int32.toNatClampNeg (M.1 0 1)) (fun t6 =>
      fm_gd (fm_isTd t6) (
      fm_bd (F_X7_passDays 45 t6 l3 M) (fun v8 M9 =>
      J_X9_tried_156 l1 l2 l3 M9)))
    )
def J_X9_tried_38 (l1 : Int32) (l2 : Int32) (l3 : Int32) (M : fm_M) : Option (Int32 × fm_M) :=
    fm_bd (F_X7_copyFrom 45 38 M) (fun v3 M4 =>
    if l1 = 2 then (
      fm_lt (fm_up M4 45 6 l2) (fun M5 =>
      J_X9_tried_124 l1 l2 l3 M5)
    ) else (
    if l1 = 3 then (
      fm_lt (fm_up M4 45 7 0) (fun M22 =>
      J_X9_tried_124 l1 l2 l3 M22)
    ) else (
    if l1 = 4 then (
      fm_lt (fm_up M4 45 5 0) (fun M23 =>
      J_X9_tried_124 l1 l2 l3 M23)
    ) else (
    if l1 = 5 then (
      fm_lt (fm_up M4 45 4 0) (fun M24 =>
      J_X9_tried_124 l1 l2 l3 M24)
    ) else (
    J_X9_tried_124 l1 l2 l3 M4)))))
def F_X9_tried (a1 : Int32) (a2 : Int32) (a3 : Int32) (M : fm_M) : Option (Int32 × fm_M) :=
    if a1 < 0 then (
      some ((-1), M)
    ) else (
      if 5 < a1 then (
        some ((-1), M)
      ) else (
        fm_bd (F_X9_isSpan a3 M) (fun v1 M2 =>
        if v1 = 0 then (
          some ((-1), M2)
        ) else (
          if a1 = 2 then (
            fm_bd (F_X9_isFork a2 M2) (fun v25 M26 =>
            if v25 = 0 then (
              some ((-1), M26)
            ) else (
              J_X9_tried_38 a1 a2 a3 M26
            ))
          ) else (
            if a2 = 0 then (
              J_X9_tried_38 a1 a2 a3 M2
            ) else (
              some ((-1), M2)
            )
          )
        ))
      )
    )
theorem jn_X9_tried_156 {d : Nat} {Q : Option Value → fm_M → Prop}  (l1 : Int32) (l2 : Int32) (l3 : Int32) {x : Int32 × fm_M}  (hq : Q (some (.int x.1)) x.2) (M : fm_M) (h : J_X9_tried_156 l1 l2 l3 M = some x) : fm_mw (d + 7) mX9_tried Q 156 [some (.ref 0), some (.int l1), some (.int l2), some (.int l3)] [] M := by
  rw [J_X9_tried_156] at h
  refine fl_aload0 (pc := 156) dX9_tried_156 ?_
  refine fm_getr (pc := 157) lk_9_32 sh_0 rfl dX9_tried_157 ?_
  refine fl_aload0 (pc := 160) dX9_tried_160 ?_
  obtain ⟨t10, et10, h⟩ := fm_ltp h
  obtain ⟨g11, h⟩ := fm_gdp h
  refine fm_getm (pc := 161) (fm_nn et10 g11) lk_9_21 sh_0 rfl dX9_tried_161 ?_
  refine fm_cgr et10 ?_
  refine fm_iconstv (pc := 164) 1 (by decide) dX9_tried_164 ?_
  obtain ⟨v12, M13, ev12, h⟩ := fm_bdp h
  refine fm_callV (pc := 165) mX7_verdicts [_, _] _ rfl cvX7_verdicts ml_9_248 sh_45 rfl rfl (Nat.le_of_ble_eq_true rfl) (Nat.le_of_ble_eq_true rfl) dX9_tried_165 ?_
  refine sp_X7_verdicts ev12 ?_
  refine fm_ret1 ?_
  refine fl_aload0 (pc := 168) dX9_tried_168 ?_
  refine fm_getr (pc := 169) lk_9_28 sh_0 rfl dX9_tried_169 ?_
  refine fl_aload0 (pc := 172) dX9_tried_172 ?_
  obtain ⟨t14, et14, h⟩ := fm_ltp h
  obtain ⟨g15, h⟩ := fm_gdp h
  refine fm_getm (pc := 173) (fm_nn et14 g15) lk_9_21 sh_0 rfl dX9_tried_173 ?_
  refine fm_cgr et14 ?_
  refine fm_iconstv (pc := 176) 1 (by decide) dX9_tried_176 ?_
  obtain ⟨v16, M17, ev16, h⟩ := fm_bdp h
  refine fm_callV (pc := 177) mX7_verdicts [_, _] _ rfl cvX7_verdicts ml_9_248 sh_38 rfl rfl (Nat.le_of_ble_eq_true rfl) (Nat.le_of_ble_eq_true rfl) dX9_tried_177 ?_
  refine sp_X7_verdicts ev16 ?_
  refine fm_ret1 ?_
  refine fm_isub (pc := 180) dX9_tried_180 ?_
  refine fm_iret (pc := 181) rfl ?_ dX9_tried_181
  cases h
  exact hq
theorem jn_X9_tried_124 {d : Nat} {Q : Option Value → fm_M → Prop}  (l1 : Int32) (l2 : Int32) (l3 : Int32) {x : Int32 × fm_M}  (hq : Q (some (.int x.1)) x.2) (M : fm_M) (h : J_X9_tried_124 l1 l2 l3 M = some x) : fm_mw (d + 7) mX9_tried Q 124 [some (.ref 0), some (.int l1), some (.int l2), some (.int l3)] [] M := by
  rw [J_X9_tried_124] at h
  refine fl_iload1 (pc := 124) dX9_tried_124 ?_
  refine fm_iconstv (pc := 125) 1 (by decide) dX9_tried_125 ?_
  refine fm_icmp_ne (pc := 126) 144 (by decide) dX9_tried_126 (fun c126 => ?_) (fun c126 => ?_)
  · replace h := fm_itn c126 h
    refine fl_aload0 (pc := 144) dX9_tried_144 ?_
    refine fm_getr (pc := 145) lk_9_32 sh_0 rfl dX9_tried_145 ?_
    refine fl_aload0 (pc := 148) dX9_tried_148 ?_
    obtain ⟨t6, et6, h⟩ := fm_ltp h
    obtain ⟨g7, h⟩ := fm_gdp h
    refine fm_getm (pc := 149) (fm_nn et6 g7) lk_9_21 sh_0 rfl dX9_tried_149 ?_
    refine fm_cgr et6 ?_
    refine fl_iload3 (pc := 152) dX9_tried_152 ?_
    obtain ⟨v8, M9, ev8, h⟩ := fm_bdp h
    refine fm_callV (pc := 153) mX7_passDays [_, _] _ rfl cvX7_passDays ml_9_236 sh_45 rfl rfl (Nat.le_of_ble_eq_true rfl) (Nat.le_of_ble_eq_true rfl) dX9_tried_153 ?_
    refine sp_X7_passDays ev8 ?_
    refine fm_ret0 ?_
    exact jn_X9_tried_156 _ _ _  hq _ h
  · replace h := fm_itp c126 h
    refine fl_aload0 (pc := 129) dX9_tried_129 ?_
    refine fm_getr (pc := 130) lk_9_32 sh_0 rfl dX9_tried_130 ?_
    refine fl_aload0 (pc := 133) dX9_tried_133 ?_
    obtain ⟨t18, et18, h⟩ := fm_ltp h
    obtain ⟨g19, h⟩ := fm_gdp h
    refine fm_getm (pc := 134) (fm_nn et18 g19) lk_9_21 sh_0 rfl dX9_tried_134 ?_
    refine fm_cgr et18 ?_
    refine fl_iload3 (pc := 137) dX9_tried_137 ?_
    obtain ⟨v20, M21, ev20, h⟩ := fm_bdp h
    refine fm_callV (pc := 138) mX7_passDryDays [_, _] _ rfl cvX7_passDryDays ml_9_337 sh_45 rfl rfl (Nat.le_of_ble_eq_true rfl) (Nat.le_of_ble_eq_true rfl) dX9_tried_138 ?_
    refine sp_X7_passDryDays ev20 ?_
    refine fm_ret0 ?_
    refine fm_goto (pc := 141) 156 (by decide) dX9_tried_141 ?_
    exact jn_X9_tried_156 _ _ _  hq _ h
theorem jn_X9_tried_38 {d : Nat} {Q : Option Value → fm_M → Prop}  (l1 : Int32) (l2 : Int32) (l3 : Int32) {x : Int32 × fm_M}  (hq : Q (some (.int x.1)) x.2) (M : fm_M) (h : J_X9_tried_38 l1 l2 l3 M = some x) : fm_mw (d + 7) mX9_tried Q 38 [some (.ref 0), some (.int l1), some (.int l2), some (.int l3)] [] M := by
  rw [J_X9_tried_38] at h
  refine fl_aload0 (pc := 38) dX9_tried_38 ?_
  refine fm_getr (pc := 39) lk_9_32 sh_0 rfl dX9_tried_39 ?_
  refine fl_aload0 (pc := 42) dX9_tried_42 ?_
  refine fm_getr (pc := 43) lk_9_28 sh_0 rfl dX9_tried_43 ?_
  obtain ⟨v3, M4, ev3, h⟩ := fm_bdp h
  refine fm_callV (pc := 46) mX7_copyFrom [_] _ rfl cvX7_copyFrom ml_9_240 sh_45 rfl rfl (Nat.le_of_ble_eq_true rfl) (Nat.le_of_ble_eq_true rfl) dX9_tried_46 ?_
  refine sp_X7_copyFrom ev3 ?_
  refine fm_ret0 ?_
  refine fl_iload1 (pc := 49) dX9_tried_49 ?_
  by_cases s50_0 : l1 = 2
  · replace h := fm_itp s50_0 h
    refine fm_tswIn (pc := 50) 80 2 (30) (by rw [s50_0]; rfl) (by decide) (by decide) (by decide) (by decide) dX9_tried_50 ?_
    refine fl_aload0 (pc := 80) dX9_tried_80 ?_
    refine fm_getr (pc := 81) lk_9_32 sh_0 rfl dX9_tried_81 ?_
    refine fl_iload2 (pc := 84) dX9_tried_84 ?_
    refine fm_puti (pc := 85) lp_9_330 sh_45 rfl dX9_tried_85 ?_
    obtain ⟨M5, eM5, h⟩ := fm_ltp h
    refine fm_cgm eM5 ?_
    refine fm_goto (pc := 88) 124 (by decide) dX9_tried_88 ?_
    exact jn_X9_tried_124 _ _ _  hq _ h
  · replace h := fm_itn s50_0 h
    by_cases s50_1 : l1 = 3
    · replace h := fm_itp s50_1 h
      refine fm_tswIn (pc := 50) 91 3 (41) (by rw [s50_1]; rfl) (by decide) (by decide) (by decide) (by decide) dX9_tried_50 ?_
      refine fl_aload0 (pc := 91) dX9_tried_91 ?_
      refine fm_getr (pc := 92) lk_9_32 sh_0 rfl dX9_tried_92 ?_
      refine fm_iconstv (pc := 95) 0 (by decide) dX9_tried_95 ?_
      refine fm_putz (pc := 96) (by decide) lp_9_333 sh_45 rfl dX9_tried_96 ?_
      obtain ⟨M22, eM22, h⟩ := fm_ltp h
      refine fm_cgm eM22 ?_
      refine fm_goto (pc := 99) 124 (by decide) dX9_tried_99 ?_
      exact jn_X9_tried_124 _ _ _  hq _ h
    · replace h := fm_itn s50_1 h
      by_cases s50_2 : l1 = 4
      · replace h := fm_itp s50_2 h
        refine fm_tswIn (pc := 50) 102 4 (52) (by rw [s50_2]; rfl) (by decide) (by decide) (by decide) (by decide) dX9_tried_50 ?_
        refine fl_aload0 (pc := 102) dX9_tried_102 ?_
        refine fm_getr (pc := 103) lk_9_32 sh_0 rfl dX9_tried_103 ?_
        refine fm_iconstv (pc := 106) 0 (by decide) dX9_tried_106 ?_
        refine fm_puti (pc := 107) lp_9_336 sh_45 rfl dX9_tried_107 ?_
        obtain ⟨M23, eM23, h⟩ := fm_ltp h
        refine fm_cgm eM23 ?_
        refine fm_goto (pc := 110) 124 (by decide) dX9_tried_110 ?_
        exact jn_X9_tried_124 _ _ _  hq _ h
      · replace h := fm_itn s50_2 h
        by_cases s50_3 : l1 = 5
        · replace h := fm_itp s50_3 h
          refine fm_tswIn (pc := 50) 113 5 (63) (by rw [s50_3]; rfl) (by decide) (by decide) (by decide) (by decide) dX9_tried_50 ?_
          refine fl_aload0 (pc := 113) dX9_tried_113 ?_
          refine fm_getr (pc := 114) lk_9_32 sh_0 rfl dX9_tried_114 ?_
          refine fm_iconstv (pc := 117) 0 (by decide) dX9_tried_117 ?_
          refine fm_puti (pc := 118) lp_9_172 sh_45 rfl dX9_tried_118 ?_
          obtain ⟨M24, eM24, h⟩ := fm_ltp h
          refine fm_cgm eM24 ?_
          refine fm_goto (pc := 121) 124 (by decide) dX9_tried_121 ?_
          exact jn_X9_tried_124 _ _ _  hq _ h
        · replace h := fm_itn s50_3 h
          have q0 : ¬ Int32.toInt l1 = 2 := fun q => s50_0 (Int32.toInt_inj.mp (by rw [q]; rfl))
          have q1 : ¬ Int32.toInt l1 = 3 := fun q => s50_1 (Int32.toInt_inj.mp (by rw [q]; rfl))
          have q2 : ¬ Int32.toInt l1 = 4 := fun q => s50_2 (Int32.toInt_inj.mp (by rw [q]; rfl))
          have q3 : ¬ Int32.toInt l1 = 5 := fun q => s50_3 (Int32.toInt_inj.mp (by rw [q]; rfl))
          refine fm_tswOut (pc := 50) 124 (by omega) (by decide) dX9_tried_50 ?_
          exact jn_X9_tried_124 _ _ _  hq _ h
theorem sp_X9_tried {d : Nat} {a1 : Int32} {a2 : Int32} {a3 : Int32} {M : fm_M} {x : Int32 × fm_M} {Q : Option Value → fm_M → Prop} (h : F_X9_tried a1 a2 a3 M = some x) (hq : Q (some (.int x.1)) x.2) : fm_ct (d + 7) mX9_tried [.ref 0, .int a1, .int a2, .int a3] M Q := by
  rw [F_X9_tried] at h
  show fm_mw (d + 7) mX9_tried Q 0 [some (.ref 0), some (.int a1), some (.int a2), some (.int a3)] [] M
  refine fl_iload1 (pc := 0) dX9_tried_0 ?_
  refine fm_if_lt (pc := 1) 36 (by decide) dX9_tried_1 (fun c1 => ?_) (fun c1 => ?_)
  · replace h := fm_itp c1 h
    refine fm_iconstv (pc := 36) (-1) (by decide) dX9_tried_36 ?_
    refine fm_iret (pc := 37) rfl ?_ dX9_tried_37
    cases h
    exact hq
  · replace h := fm_itn c1 h
    refine fl_iload1 (pc := 4) dX9_tried_4 ?_
    refine fm_iconstv (pc := 5) 5 (by decide) dX9_tried_5 ?_
    refine fm_icmp_gt (pc := 6) 36 (by decide) dX9_tried_6 (fun c6 => ?_) (fun c6 => ?_)
    · replace h := fm_itp c6 h
      refine fm_iconstv (pc := 36) (-1) (by decide) dX9_tried_36 ?_
      refine fm_iret (pc := 37) rfl ?_ dX9_tried_37
      cases h
      exact hq
    · replace h := fm_itn c6 h
      refine fl_iload3 (pc := 9) dX9_tried_9 ?_
      obtain ⟨v1, M2, ev1, h⟩ := fm_bdp h
      refine fm_callS (pc := 10) mX9_isSpan [_] _ rfl csX9_isSpan ml_9_233 rfl (Nat.le_of_ble_eq_true rfl) (Nat.le_of_ble_eq_true rfl) dX9_tried_10 ?_
      refine sp_X9_isSpan ev1 ?_
      refine fm_ret1 ?_
      refine fm_if_eq (pc := 13) 36 (by decide) dX9_tried_13 (fun c13 => ?_) (fun c13 => ?_)
      · replace h := fm_itp c13 h
        refine fm_iconstv (pc := 36) (-1) (by decide) dX9_tried_36 ?_
        refine fm_iret (pc := 37) rfl ?_ dX9_tried_37
        cases h
        exact hq
      · replace h := fm_itn c13 h
        refine fl_iload1 (pc := 16) dX9_tried_16 ?_
        refine fm_iconstv (pc := 17) 2 (by decide) dX9_tried_17 ?_
        refine fm_icmp_ne (pc := 18) 32 (by decide) dX9_tried_18 (fun c18 => ?_) (fun c18 => ?_)
        · replace h := fm_itn c18 h
          refine fl_iload2 (pc := 32) dX9_tried_32 ?_
          refine fm_if_eq (pc := 33) 38 (by decide) dX9_tried_33 (fun c33 => ?_) (fun c33 => ?_)
          · replace h := fm_itp c33 h
            exact jn_X9_tried_38 _ _ _  hq _ h
          · replace h := fm_itn c33 h
            refine fm_iconstv (pc := 36) (-1) (by decide) dX9_tried_36 ?_
            refine fm_iret (pc := 37) rfl ?_ dX9_tried_37
            cases h
            exact hq
        · replace h := fm_itp c18 h
          refine fl_aload0 (pc := 21) dX9_tried_21 ?_
          refine fl_iload2 (pc := 22) dX9_tried_22 ?_
          obtain ⟨v25, M26, ev25, h⟩ := fm_bdp h
          refine fm_callV (pc := 23) mX9_isFork [_] _ rfl cvX9_isFork ml_9_150 sh_0 rfl rfl (Nat.le_of_ble_eq_true rfl) (Nat.le_of_ble_eq_true rfl) dX9_tried_23 ?_
          refine sp_X9_isFork ev25 ?_
          refine fm_ret1 ?_
          refine fm_if_ne (pc := 26) 38 (by decide) dX9_tried_26 (fun c26 => ?_) (fun c26 => ?_)
          · replace h := fm_itn c26 h
            exact jn_X9_tried_38 _ _ _  hq _ h
          · replace h := fm_itp c26 h
            refine fm_goto (pc := 29) 36 (by decide) dX9_tried_29 ?_
            refine fm_iconstv (pc := 36) (-1) (by decide) dX9_tried_36 ?_
            refine fm_iret (pc := 37) rfl ?_ dX9_tried_37
            cases h
            exact hq
/-! X9_undo -/
def F_X9_undo  (M : fm_M) : Option (Int32 × fm_M) :=
    if (M.1 59 3) < 1 then (
      some ((-1), M)
    ) else (
      if (M.1 59 3) ≤ 20 then (
        fm_lt (fm_up M 59 3 ((M.1 59 3) - 1)) (fun M1 =>
        fm_gd (fm_inb (M1.1 59 3) 20) (
        fm_lt ((M1.1 61 (Int32.toNatClampNeg (M1.1 59 3)))) (fun x3 =>
        fm_gd (fm_inb (M1.1 59 3) 20) (
        fm_lt ((M1.1 62 (Int32.toNatClampNeg (M1.1 59 3)))) (fun x5 =>
        fm_gd (fm_inb (M1.1 59 3) 20) (
        fm_lt ((M1.1 60 (Int32.toNatClampNeg (M1.1 59 3)))) (fun x7 =>
        if x7 = 0 then (
          fm_lt (fm_up M1 38 4 ((M1.1 38 4) ^^^ (1 <<< (x3 &&& 31)))) (fun M8 =>
          some ((M8.1 59 3), M8))
        ) else (
        if x7 = 1 then (
          fm_lt (Int32.toNatClampNeg (M1.1 0 1)) (fun t9 =>
          fm_gd (fm_isTd t9) (
          fm_bd (F_X7_filed 38 x3 (-x5) ((-(M1.1 t9 15)) * (i_abs x5)) M1) (fun v11 M12 =>
          some ((M12.1 59 3), M12))))
        ) else (
        if x7 = 2 then (
          fm_gd (fm_inb x3 10) (
          fm_lt (fm_up M1 41 (Int32.toNatClampNeg x3) x5) (fun M14 =>
          some ((M14.1 59 3), M14)))
        ) else (
        fm_lt (fm_up M1 38 2 ((M1.1 38 2) - x5)) (fun M15 =>
        some ((M15.1 59 3), M15))))))))))))
      ) else (
        some ((-1), M)
      )
    )
theorem sp_X9_undo {d : Nat}  {M : fm_M} {x : Int32 × fm_M} {Q : Option Value → fm_M → Prop} (h : F_X9_undo  M = some x) (hq : Q (some (.int x.1)) x.2) : fm_ct (d + 1) mX9_undo [.ref 0] M Q := by
  rw [F_X9_undo] at h
  show fm_mw (d + 1) mX9_undo Q 0 [some (.ref 0), none, none] [] M
  refine fl_aload0 (pc := 0) dX9_undo_0 ?_
  refine fm_getr (pc := 1) lk_9_41 sh_0 rfl dX9_undo_1 ?_
  refine fm_geti (pc := 4) lk_9_101 sh_59 rfl dX9_undo_4 ?_
  refine fm_iconstv (pc := 7) 1 (by decide) dX9_undo_7 ?_
  refine fm_icmp_lt (pc := 8) 23 (by decide) dX9_undo_8 (fun c8 => ?_) (fun c8 => ?_)
  · replace h := fm_itp c8 h
    refine fm_iconstv (pc := 23) (-1) (by decide) dX9_undo_23 ?_
    refine fm_iret (pc := 24) rfl ?_ dX9_undo_24
    cases h
    exact hq
  · replace h := fm_itn c8 h
    refine fl_aload0 (pc := 11) dX9_undo_11 ?_
    refine fm_getr (pc := 12) lk_9_41 sh_0 rfl dX9_undo_12 ?_
    refine fm_geti (pc := 15) lk_9_101 sh_59 rfl dX9_undo_15 ?_
    refine fm_bipushv (pc := 18) 20 (by decide) dX9_undo_18 ?_
    refine fm_icmp_le (pc := 20) 25 (by decide) dX9_undo_20 (fun c20 => ?_) (fun c20 => ?_)
    · replace h := fm_itp c20 h
      refine fl_aload0 (pc := 25) dX9_undo_25 ?_
      refine fm_getr (pc := 26) lk_9_41 sh_0 rfl dX9_undo_26 ?_
      refine fm_dup (pc := 29) rfl dX9_undo_29 ?_
      refine fm_geti (pc := 30) lk_9_101 sh_59 rfl dX9_undo_30 ?_
      refine fm_iconstv (pc := 33) 1 (by decide) dX9_undo_33 ?_
      refine fm_isub (pc := 34) dX9_undo_34 ?_
      refine fm_puti (pc := 35) lp_9_101 sh_59 rfl dX9_undo_35 ?_
      obtain ⟨M1, eM1, h⟩ := fm_ltp h
      refine fm_cgm eM1 ?_
      refine fl_aload0 (pc := 38) dX9_undo_38 ?_
      refine fm_getr (pc := 39) lk_9_41 sh_0 rfl dX9_undo_39 ?_
      refine fm_getr (pc := 42) lk_9_340 sh_59 rfl dX9_undo_42 ?_
      refine fl_aload0 (pc := 45) dX9_undo_45 ?_
      refine fm_getr (pc := 46) lk_9_41 sh_0 rfl dX9_undo_46 ?_
      refine fm_geti (pc := 49) lk_9_101 sh_59 rfl dX9_undo_49 ?_
      obtain ⟨g2, h⟩ := fm_gdp h
      refine fm_iald (pc := 52) sh_61 (fm_inb_ok g2) dX9_undo_52 ?_
      obtain ⟨x3, ex3, h⟩ := fm_ltp h
      refine fm_cgi ex3 ?_
      refine fl_istore1 (pc := 53) rfl (by decide) dX9_undo_53 ?_
      refine fl_aload0 (pc := 54) dX9_undo_54 ?_
      refine fm_getr (pc := 55) lk_9_41 sh_0 rfl dX9_undo_55 ?_
      refine fm_getr (pc := 58) lk_9_343 sh_59 rfl dX9_undo_58 ?_
      refine fl_aload0 (pc := 61) dX9_undo_61 ?_
      refine fm_getr (pc := 62) lk_9_41 sh_0 rfl dX9_undo_62 ?_
      refine fm_geti (pc := 65) lk_9_101 sh_59 rfl dX9_undo_65 ?_
      obtain ⟨g4, h⟩ := fm_gdp h
      refine fm_iald (pc := 68) sh_62 (fm_inb_ok g4) dX9_undo_68 ?_
      obtain ⟨x5, ex5, h⟩ := fm_ltp h
      refine fm_cgi ex5 ?_
      refine fl_istore2 (pc := 69) rfl (by decide) dX9_undo_69 ?_
      refine fl_aload0 (pc := 70) dX9_undo_70 ?_
      refine fm_getr (pc := 71) lk_9_41 sh_0 rfl dX9_undo_71 ?_
      refine fm_getr (pc := 74) lk_9_346 sh_59 rfl dX9_undo_74 ?_
      refine fl_aload0 (pc := 77) dX9_undo_77 ?_
      refine fm_getr (pc := 78) lk_9_41 sh_0 rfl dX9_undo_78 ?_
      refine fm_geti (pc := 81) lk_9_101 sh_59 rfl dX9_undo_81 ?_
      obtain ⟨g6, h⟩ := fm_gdp h
      refine fm_iald (pc := 84) sh_60 (fm_inb_ok g6) dX9_undo_84 ?_
      obtain ⟨x7, ex7, h⟩ := fm_ltp h
      refine fm_cgi ex7 ?_
      by_cases s85_0 : x7 = 0
      · replace h := fm_itp s85_0 h
        refine fm_tswIn (pc := 85) 112 0 (27) (by rw [s85_0]; rfl) (by decide) (by decide) (by decide) (by decide) dX9_undo_85 ?_
        refine fl_aload0 (pc := 112) dX9_undo_112 ?_
        refine fm_getr (pc := 113) lk_9_28 sh_0 rfl dX9_undo_113 ?_
        refine fm_dup (pc := 116) rfl dX9_undo_116 ?_
        refine fm_geti (pc := 117) lk_9_172 sh_38 rfl dX9_undo_117 ?_
        refine fm_iconstv (pc := 120) 1 (by decide) dX9_undo_120 ?_
        refine fl_iload1 (pc := 121) dX9_undo_121 ?_
        refine fm_ishl (pc := 122) dX9_undo_122 ?_
        refine fm_ixor (pc := 123) dX9_undo_123 ?_
        refine fm_puti (pc := 124) lp_9_172 sh_38 rfl dX9_undo_124 ?_
        obtain ⟨M8, eM8, h⟩ := fm_ltp h
        refine fm_cgm eM8 ?_
        refine fm_goto (pc := 127) 182 (by decide) dX9_undo_127 ?_
        refine fl_aload0 (pc := 182) dX9_undo_182 ?_
        refine fm_getr (pc := 183) lk_9_41 sh_0 rfl dX9_undo_183 ?_
        refine fm_geti (pc := 186) lk_9_101 sh_59 rfl dX9_undo_186 ?_
        refine fm_iret (pc := 189) rfl ?_ dX9_undo_189
        cases h
        exact hq
      · replace h := fm_itn s85_0 h
        by_cases s85_1 : x7 = 1
        · replace h := fm_itp s85_1 h
          refine fm_tswIn (pc := 85) 130 1 (45) (by rw [s85_1]; rfl) (by decide) (by decide) (by decide) (by decide) dX9_undo_85 ?_
          refine fl_aload0 (pc := 130) dX9_undo_130 ?_
          refine fm_getr (pc := 131) lk_9_28 sh_0 rfl dX9_undo_131 ?_
          refine fl_iload1 (pc := 134) dX9_undo_134 ?_
          refine fl_iload2 (pc := 135) dX9_undo_135 ?_
          refine fm_ineg (pc := 136) dX9_undo_136 ?_
          refine fl_aload0 (pc := 137) dX9_undo_137 ?_
          obtain ⟨t9, et9, h⟩ := fm_ltp h
          obtain ⟨g10, h⟩ := fm_gdp h
          refine fm_getm (pc := 138) (fm_nn et9 g10) lk_9_21 sh_0 rfl dX9_undo_138 ?_
          refine fm_cgr et9 ?_
          refine fm_geti (pc := 141) lk_9_216 (shTd0 g10) rfl dX9_undo_141 ?_
          refine fm_ineg (pc := 144) dX9_undo_144 ?_
          refine fl_iload2 (pc := 145) dX9_undo_145 ?_
          refine fq_mabs (pc := 146) ml_9_219 (Nat.le_of_ble_eq_true rfl) dX9_undo_146 ?_
          refine fm_imul (pc := 149) dX9_undo_149 ?_
          obtain ⟨v11, M12, ev11, h⟩ := fm_bdp h
          refine fm_callV (pc := 150) mX7_filed [_, _, _] _ rfl cvX7_filed ml_9_227 sh_38 rfl rfl (Nat.le_of_ble_eq_true rfl) (Nat.le_of_ble_eq_true rfl) dX9_undo_150 ?_
          refine sp_X7_filed ev11 ?_
          refine fm_ret0 ?_
          refine fm_goto (pc := 153) 182 (by decide) dX9_undo_153 ?_
          refine fl_aload0 (pc := 182) dX9_undo_182 ?_
          refine fm_getr (pc := 183) lk_9_41 sh_0 rfl dX9_undo_183 ?_
          refine fm_geti (pc := 186) lk_9_101 sh_59 rfl dX9_undo_186 ?_
          refine fm_iret (pc := 189) rfl ?_ dX9_undo_189
          cases h
          exact hq
        · replace h := fm_itn s85_1 h
          by_cases s85_2 : x7 = 2
          · replace h := fm_itp s85_2 h
            refine fm_tswIn (pc := 85) 156 2 (71) (by rw [s85_2]; rfl) (by decide) (by decide) (by decide) (by decide) dX9_undo_85 ?_
            refine fl_aload0 (pc := 156) dX9_undo_156 ?_
            refine fm_getr (pc := 157) lk_9_28 sh_0 rfl dX9_undo_157 ?_
            refine fm_getr (pc := 160) lk_9_136 sh_38 rfl dX9_undo_160 ?_
            refine fl_iload1 (pc := 163) dX9_undo_163 ?_
            refine fl_iload2 (pc := 164) dX9_undo_164 ?_
            obtain ⟨g13, h⟩ := fm_gdp h
            refine fm_iast (pc := 165) sh_41 (fm_inb_ok g13) dX9_undo_165 ?_
            obtain ⟨M14, eM14, h⟩ := fm_ltp h
            refine fm_cgm eM14 ?_
            refine fm_goto (pc := 166) 182 (by decide) dX9_undo_166 ?_
            refine fl_aload0 (pc := 182) dX9_undo_182 ?_
            refine fm_getr (pc := 183) lk_9_41 sh_0 rfl dX9_undo_183 ?_
            refine fm_geti (pc := 186) lk_9_101 sh_59 rfl dX9_undo_186 ?_
            refine fm_iret (pc := 189) rfl ?_ dX9_undo_189
            cases h
            exact hq
          · replace h := fm_itn s85_2 h
            have q0 : ¬ Int32.toInt x7 = 0 := fun q => s85_0 (Int32.toInt_inj.mp (by rw [q]; rfl))
            have q1 : ¬ Int32.toInt x7 = 1 := fun q => s85_1 (Int32.toInt_inj.mp (by rw [q]; rfl))
            have q2 : ¬ Int32.toInt x7 = 2 := fun q => s85_2 (Int32.toInt_inj.mp (by rw [q]; rfl))
            refine fm_tswOut (pc := 85) 169 (by omega) (by decide) dX9_undo_85 ?_
            refine fl_aload0 (pc := 169) dX9_undo_169 ?_
            refine fm_getr (pc := 170) lk_9_28 sh_0 rfl dX9_undo_170 ?_
            refine fm_dup (pc := 173) rfl dX9_undo_173 ?_
            refine fm_geti (pc := 174) lk_9_224 sh_38 rfl dX9_undo_174 ?_
            refine fl_iload2 (pc := 177) dX9_undo_177 ?_
            refine fm_isub (pc := 178) dX9_undo_178 ?_
            refine fm_puti (pc := 179) lp_9_224 sh_38 rfl dX9_undo_179 ?_
            obtain ⟨M15, eM15, h⟩ := fm_ltp h
            refine fm_cgm eM15 ?_
            refine fl_aload0 (pc := 182) dX9_undo_182 ?_
            refine fm_getr (pc := 183) lk_9_41 sh_0 rfl dX9_undo_183 ?_
            refine fm_geti (pc := 186) lk_9_101 sh_59 rfl dX9_undo_186 ?_
            refine fm_iret (pc := 189) rfl ?_ dX9_undo_189
            cases h
            exact hq
    · replace h := fm_itn c20 h
      refine fm_iconstv (pc := 23) (-1) (by decide) dX9_undo_23 ?_
      refine fm_iret (pc := 24) rfl ?_ dX9_undo_24
      cases h
      exact hq
/-! X9_keep -/
def F_X9_keep  (M : fm_M) : Option (Int32 × fm_M) :=
    fm_bd (F_X7_copyFrom 52 38 M) (fun v1 M2 =>
    fm_lt (fm_up M2 0 5 1) (fun M3 =>
    some ((M3.1 38 0), M3)))
theorem sp_X9_keep {d : Nat}  {M : fm_M} {x : Int32 × fm_M} {Q : Option Value → fm_M → Prop} (h : F_X9_keep  M = some x) (hq : Q (some (.int x.1)) x.2) : fm_ct (d + 2) mX9_keep [.ref 0] M Q := by
  rw [F_X9_keep] at h
  show fm_mw (d + 2) mX9_keep Q 0 [some (.ref 0)] [] M
  refine fl_aload0 (pc := 0) dX9_keep_0 ?_
  refine fm_getr (pc := 1) lk_9_35 sh_0 rfl dX9_keep_1 ?_
  refine fl_aload0 (pc := 4) dX9_keep_4 ?_
  refine fm_getr (pc := 5) lk_9_28 sh_0 rfl dX9_keep_5 ?_
  obtain ⟨v1, M2, ev1, h⟩ := fm_bdp h
  refine fm_callV (pc := 8) mX7_copyFrom [_] _ rfl cvX7_copyFrom ml_9_240 sh_52 rfl rfl (Nat.le_of_ble_eq_true rfl) (Nat.le_of_ble_eq_true rfl) dX9_keep_8 ?_
  refine sp_X7_copyFrom ev1 ?_
  refine fm_ret0 ?_
  refine fl_aload0 (pc := 11) dX9_keep_11 ?_
  refine fm_iconstv (pc := 12) 1 (by decide) dX9_keep_12 ?_
  refine fm_putz (pc := 13) (by decide) lp_9_107 sh_0 rfl dX9_keep_13 ?_
  obtain ⟨M3, eM3, h⟩ := fm_ltp h
  refine fm_cgm eM3 ?_
  refine fl_aload0 (pc := 16) dX9_keep_16 ?_
  refine fm_getr (pc := 17) lk_9_28 sh_0 rfl dX9_keep_17 ?_
  refine fm_geti (pc := 20) lk_9_230 sh_38 rfl dX9_keep_20 ?_
  refine fm_iret (pc := 23) rfl ?_ dX9_keep_23
  cases h
  exact hq
/-! X9_back -/
def F_X9_back  (M : fm_M) : Option (Int32 × fm_M) :=
    if (M.1 0 5) = 0 then (
      some ((-1), M)
    ) else (
      fm_bd (F_X7_copyFrom 38 52 M) (fun v1 M2 =>
      fm_lt (fm_up M2 59 3 0) (fun M3 =>
      some ((M3.1 38 0), M3)))
    )
theorem sp_X9_back {d : Nat}  {M : fm_M} {x : Int32 × fm_M} {Q : Option Value → fm_M → Prop} (h : F_X9_back  M = some x) (hq : Q (some (.int x.1)) x.2) : fm_ct (d + 2) mX9_back [.ref 0] M Q := by
  rw [F_X9_back] at h
  show fm_mw (d + 2) mX9_back Q 0 [some (.ref 0)] [] M
  refine fl_aload0 (pc := 0) dX9_back_0 ?_
  refine fm_geti (pc := 1) lk_9_107 sh_0 rfl dX9_back_1 ?_
  refine fm_if_ne (pc := 4) 9 (by decide) dX9_back_4 (fun c4 => ?_) (fun c4 => ?_)
  · replace h := fm_itn c4 h
    refine fl_aload0 (pc := 9) dX9_back_9 ?_
    refine fm_getr (pc := 10) lk_9_28 sh_0 rfl dX9_back_10 ?_
    refine fl_aload0 (pc := 13) dX9_back_13 ?_
    refine fm_getr (pc := 14) lk_9_35 sh_0 rfl dX9_back_14 ?_
    obtain ⟨v1, M2, ev1, h⟩ := fm_bdp h
    refine fm_callV (pc := 17) mX7_copyFrom [_] _ rfl cvX7_copyFrom ml_9_240 sh_38 rfl rfl (Nat.le_of_ble_eq_true rfl) (Nat.le_of_ble_eq_true rfl) dX9_back_17 ?_
    refine sp_X7_copyFrom ev1 ?_
    refine fm_ret0 ?_
    refine fl_aload0 (pc := 20) dX9_back_20 ?_
    refine fm_getr (pc := 21) lk_9_41 sh_0 rfl dX9_back_21 ?_
    refine fm_iconstv (pc := 24) 0 (by decide) dX9_back_24 ?_
    refine fm_puti (pc := 25) lp_9_101 sh_59 rfl dX9_back_25 ?_
    obtain ⟨M3, eM3, h⟩ := fm_ltp h
    refine fm_cgm eM3 ?_
    refine fl_aload0 (pc := 28) dX9_back_28 ?_
    refine fm_getr (pc := 29) lk_9_28 sh_0 rfl dX9_back_29 ?_
    refine fm_geti (pc := 32) lk_9_230 sh_38 rfl dX9_back_32 ?_
    refine fm_iret (pc := 35) rfl ?_ dX9_back_35
    cases h
    exact hq
  · replace h := fm_itp c4 h
    refine fm_iconstv (pc := 7) (-1) (by decide) dX9_back_7 ?_
    refine fm_iret (pc := 8) rfl ?_ dX9_back_8
    cases h
    exact hq
/-! X9_count -/
def F_X9_count (a1 : Int32) (M : fm_M) : Option (Int32 × fm_M) :=
    if a1 = 0 then (
      fm_lt (Int32.toNatClampNeg (M.1 0 1)) (fun t1 =>
      fm_gd (fm_isTd t1) (
      some ((M.1 t1 0), M)))
    ) else (
    if a1 = 1 then (
      fm_lt (Int32.toNatClampNeg (M.1 0 1)) (fun t3 =>
      fm_gd (fm_isTd t3) (
      some ((M.1 t3 7), M)))
    ) else (
    if a1 = 2 then (
      fm_lt (Int32.toNatClampNeg (M.1 0 1)) (fun t5 =>
      fm_gd (fm_isTd t5) (
      fm_bd (F_J6_bitCount_0f7a4 (M.1 t5 6) M) (fun v7 M8 =>
      some (v7, M8))))
    ) else (
    if a1 = 3 then (
      fm_lt (Int32.toNatClampNeg (M.1 0 1)) (fun t9 =>
      fm_gd (fm_isTd t9) (
      some ((M.1 t9 11), M)))
    ) else (
    if a1 = 4 then (
      fm_lt (Int32.toNatClampNeg (M.1 0 1)) (fun t11 =>
      fm_gd (fm_isTd t11) (
      some ((M.1 (t11 + 10) 5), M)))
    ) else (
    if a1 = 5 then (
      some ((M.1 38 0), M)
    ) else (
    if a1 = 6 then (
      some ((M.1 38 2), M)
    ) else (
    if a1 = 7 then (
      some ((M.1 38 3), M)
    ) else (
    if a1 = 8 then (
      fm_lt (Int32.toNatClampNeg (M.1 0 1)) (fun t13 =>
      fm_gd (fm_isTd t13) (
      fm_bd (F_X7_verdicts 38 t13 1 M) (fun v15 M16 =>
      some (v15, M16))))
    ) else (
    if a1 = 9 then (
      fm_lt (Int32.toNatClampNeg (M.1 0 1)) (fun t17 =>
      fm_gd (fm_isTd t17) (
      fm_bd (F_X7_verdicts 38 t17 0 M) (fun v19 M20 =>
      some (v19, M20))))
    ) else (
    if a1 = 10 then (
      fm_lt (Int32.toNatClampNeg (M.1 0 1)) (fun t21 =>
      fm_gd (fm_isTd t21) (
      fm_bd (F_X7_heardInSum 38 t21 M) (fun v23 M24 =>
      some (v23, M24))))
    ) else (
    if a1 = 11 then (
      fm_bd (F_J6_bitCount_0f7a4 (M.1 38 4) M) (fun v25 M26 =>
      some (v25, M26))
    ) else (
    if a1 = 12 then (
      some ((M.1 63 2), M)
    ) else (
    if a1 = 13 then (
      fm_bd (F_X4_reach M) (fun v27 M28 =>
      some (v27, M28))
    ) else (
    if a1 = 14 then (
      some ((M.1 59 3), M)
    ) else (
    some ((-1), M))))))))))))))))
theorem sp_X9_count {d : Nat} {a1 : Int32} {M : fm_M} {x : Int32 × fm_M} {Q : Option Value → fm_M → Prop} (h : F_X9_count a1 M = some x) (hq : Q (some (.int x.1)) x.2) : fm_ct (d + 1) mX9_count [.ref 0, .int a1] M Q := by
  rw [F_X9_count] at h
  show fm_mw (d + 1) mX9_count Q 0 [some (.ref 0), some (.int a1)] [] M
  refine fl_iload1 (pc := 0) dX9_count_0 ?_
  by_cases s1_0 : a1 = 0
  · replace h := fm_itp s1_0 h
    refine fm_tswIn (pc := 1) 76 0 (75) (by rw [s1_0]; rfl) (by decide) (by decide) (by decide) (by decide) dX9_count_1 ?_
    refine fl_aload0 (pc := 76) dX9_count_76 ?_
    obtain ⟨t1, et1, h⟩ := fm_ltp h
    obtain ⟨g2, h⟩ := fm_gdp h
    refine fm_getm (pc := 77) (fm_nn et1 g2) lk_9_21 sh_0 rfl dX9_count_77 ?_
    refine fm_cgr et1 ?_
    refine fm_geti (pc := 80) lk_9_254 (shTd0 g2) rfl dX9_count_80 ?_
    refine fm_iret (pc := 83) rfl ?_ dX9_count_83
    cases h
    exact hq
  · replace h := fm_itn s1_0 h
    by_cases s1_1 : a1 = 1
    · replace h := fm_itp s1_1 h
      refine fm_tswIn (pc := 1) 84 1 (83) (by rw [s1_1]; rfl) (by decide) (by decide) (by decide) (by decide) dX9_count_1 ?_
      refine fl_aload0 (pc := 84) dX9_count_84 ?_
      obtain ⟨t3, et3, h⟩ := fm_ltp h
      obtain ⟨g4, h⟩ := fm_gdp h
      refine fm_getm (pc := 85) (fm_nn et3 g4) lk_9_21 sh_0 rfl dX9_count_85 ?_
      refine fm_cgr et3 ?_
      refine fm_geti (pc := 88) lk_9_349 (shTd0 g4) rfl dX9_count_88 ?_
      refine fm_iret (pc := 91) rfl ?_ dX9_count_91
      cases h
      exact hq
    · replace h := fm_itn s1_1 h
      by_cases s1_2 : a1 = 2
      · replace h := fm_itp s1_2 h
        refine fm_tswIn (pc := 1) 92 2 (91) (by rw [s1_2]; rfl) (by decide) (by decide) (by decide) (by decide) dX9_count_1 ?_
        refine fl_aload0 (pc := 92) dX9_count_92 ?_
        obtain ⟨t5, et5, h⟩ := fm_ltp h
        obtain ⟨g6, h⟩ := fm_gdp h
        refine fm_getm (pc := 93) (fm_nn et5 g6) lk_9_21 sh_0 rfl dX9_count_93 ?_
        refine fm_cgr et5 ?_
        refine fm_geti (pc := 96) lk_9_165 (shTd0 g6) rfl dX9_count_96 ?_
        obtain ⟨v7, M8, ev7, h⟩ := fm_bdp h
        refine fm_callS (pc := 99) mJ6_bitCount_0f7a4 [_] _ rfl csJ6_bitCount_0f7a4 ml_9_276 rfl (Nat.le_of_ble_eq_true rfl) (Nat.le_of_ble_eq_true rfl) dX9_count_99 ?_
        refine sp_J6_bitCount_0f7a4 ev7 ?_
        refine fm_ret1 ?_
        refine fm_iret (pc := 102) rfl ?_ dX9_count_102
        cases h
        exact hq
      · replace h := fm_itn s1_2 h
        by_cases s1_3 : a1 = 3
        · replace h := fm_itp s1_3 h
          refine fm_tswIn (pc := 1) 103 3 (102) (by rw [s1_3]; rfl) (by decide) (by decide) (by decide) (by decide) dX9_count_1 ?_
          refine fl_aload0 (pc := 103) dX9_count_103 ?_
          obtain ⟨t9, et9, h⟩ := fm_ltp h
          obtain ⟨g10, h⟩ := fm_gdp h
          refine fm_getm (pc := 104) (fm_nn et9 g10) lk_9_21 sh_0 rfl dX9_count_104 ?_
          refine fm_cgr et9 ?_
          refine fm_geti (pc := 107) lk_9_352 (shTd0 g10) rfl dX9_count_107 ?_
          refine fm_iret (pc := 110) rfl ?_ dX9_count_110
          cases h
          exact hq
        · replace h := fm_itn s1_3 h
          by_cases s1_4 : a1 = 4
          · replace h := fm_itp s1_4 h
            refine fm_tswIn (pc := 1) 111 4 (110) (by rw [s1_4]; rfl) (by decide) (by decide) (by decide) (by decide) dX9_count_1 ?_
            refine fl_aload0 (pc := 111) dX9_count_111 ?_
            obtain ⟨t11, et11, h⟩ := fm_ltp h
            obtain ⟨g12, h⟩ := fm_gdp h
            refine fm_getm (pc := 112) (fm_nn et11 g12) lk_9_21 sh_0 rfl dX9_count_112 ?_
            refine fm_cgr et11 ?_
            refine fm_getr (pc := 115) lk_9_355 (shTd0 g12) rfl dX9_count_115 ?_
            refine fm_geti (pc := 118) lk_9_359 (shTd10 g12) rfl dX9_count_118 ?_
            refine fm_iret (pc := 121) rfl ?_ dX9_count_121
            cases h
            exact hq
          · replace h := fm_itn s1_4 h
            by_cases s1_5 : a1 = 5
            · replace h := fm_itp s1_5 h
              refine fm_tswIn (pc := 1) 122 5 (121) (by rw [s1_5]; rfl) (by decide) (by decide) (by decide) (by decide) dX9_count_1 ?_
              refine fl_aload0 (pc := 122) dX9_count_122 ?_
              refine fm_getr (pc := 123) lk_9_28 sh_0 rfl dX9_count_123 ?_
              refine fm_geti (pc := 126) lk_9_230 sh_38 rfl dX9_count_126 ?_
              refine fm_iret (pc := 129) rfl ?_ dX9_count_129
              cases h
              exact hq
            · replace h := fm_itn s1_5 h
              by_cases s1_6 : a1 = 6
              · replace h := fm_itp s1_6 h
                refine fm_tswIn (pc := 1) 130 6 (129) (by rw [s1_6]; rfl) (by decide) (by decide) (by decide) (by decide) dX9_count_1 ?_
                refine fl_aload0 (pc := 130) dX9_count_130 ?_
                refine fm_getr (pc := 131) lk_9_28 sh_0 rfl dX9_count_131 ?_
                refine fm_geti (pc := 134) lk_9_224 sh_38 rfl dX9_count_134 ?_
                refine fm_iret (pc := 137) rfl ?_ dX9_count_137
                cases h
                exact hq
              · replace h := fm_itn s1_6 h
                by_cases s1_7 : a1 = 7
                · replace h := fm_itp s1_7 h
                  refine fm_tswIn (pc := 1) 138 7 (137) (by rw [s1_7]; rfl) (by decide) (by decide) (by decide) (by decide) dX9_count_1 ?_
                  refine fl_aload0 (pc := 138) dX9_count_138 ?_
                  refine fm_getr (pc := 139) lk_9_28 sh_0 rfl dX9_count_139 ?_
                  refine fm_geti (pc := 142) lk_9_364 sh_38 rfl dX9_count_142 ?_
                  refine fm_iret (pc := 145) rfl ?_ dX9_count_145
                  cases h
                  exact hq
                · replace h := fm_itn s1_7 h
                  by_cases s1_8 : a1 = 8
                  · replace h := fm_itp s1_8 h
                    refine fm_tswIn (pc := 1) 146 8 (145) (by rw [s1_8]; rfl) (by decide) (by decide) (by decide) (by decide) dX9_count_1 ?_
                    refine fl_aload0 (pc := 146) dX9_count_146 ?_
                    refine fm_getr (pc := 147) lk_9_28 sh_0 rfl dX9_count_147 ?_
                    refine fl_aload0 (pc := 150) dX9_count_150 ?_
                    obtain ⟨t13, et13, h⟩ := fm_ltp h
                    obtain ⟨g14, h⟩ := fm_gdp h
                    refine fm_getm (pc := 151) (fm_nn et13 g14) lk_9_21 sh_0 rfl dX9_count_151 ?_
                    refine fm_cgr et13 ?_
                    refine fm_iconstv (pc := 154) 1 (by decide) dX9_count_154 ?_
                    obtain ⟨v15, M16, ev15, h⟩ := fm_bdp h
                    refine fm_callV (pc := 155) mX7_verdicts [_, _] _ rfl cvX7_verdicts ml_9_248 sh_38 rfl rfl (Nat.le_of_ble_eq_true rfl) (Nat.le_of_ble_eq_true rfl) dX9_count_155 ?_
                    refine sp_X7_verdicts ev15 ?_
                    refine fm_ret1 ?_
                    refine fm_iret (pc := 158) rfl ?_ dX9_count_158
                    cases h
                    exact hq
                  · replace h := fm_itn s1_8 h
                    by_cases s1_9 : a1 = 9
                    · replace h := fm_itp s1_9 h
                      refine fm_tswIn (pc := 1) 159 9 (158) (by rw [s1_9]; rfl) (by decide) (by decide) (by decide) (by decide) dX9_count_1 ?_
                      refine fl_aload0 (pc := 159) dX9_count_159 ?_
                      refine fm_getr (pc := 160) lk_9_28 sh_0 rfl dX9_count_160 ?_
                      refine fl_aload0 (pc := 163) dX9_count_163 ?_
                      obtain ⟨t17, et17, h⟩ := fm_ltp h
                      obtain ⟨g18, h⟩ := fm_gdp h
                      refine fm_getm (pc := 164) (fm_nn et17 g18) lk_9_21 sh_0 rfl dX9_count_164 ?_
                      refine fm_cgr et17 ?_
                      refine fm_iconstv (pc := 167) 0 (by decide) dX9_count_167 ?_
                      obtain ⟨v19, M20, ev19, h⟩ := fm_bdp h
                      refine fm_callV (pc := 168) mX7_verdicts [_, _] _ rfl cvX7_verdicts ml_9_248 sh_38 rfl rfl (Nat.le_of_ble_eq_true rfl) (Nat.le_of_ble_eq_true rfl) dX9_count_168 ?_
                      refine sp_X7_verdicts ev19 ?_
                      refine fm_ret1 ?_
                      refine fm_iret (pc := 171) rfl ?_ dX9_count_171
                      cases h
                      exact hq
                    · replace h := fm_itn s1_9 h
                      by_cases s1_10 : a1 = 10
                      · replace h := fm_itp s1_10 h
                        refine fm_tswIn (pc := 1) 172 10 (171) (by rw [s1_10]; rfl) (by decide) (by decide) (by decide) (by decide) dX9_count_1 ?_
                        refine fl_aload0 (pc := 172) dX9_count_172 ?_
                        refine fm_getr (pc := 173) lk_9_28 sh_0 rfl dX9_count_173 ?_
                        refine fl_aload0 (pc := 176) dX9_count_176 ?_
                        obtain ⟨t21, et21, h⟩ := fm_ltp h
                        obtain ⟨g22, h⟩ := fm_gdp h
                        refine fm_getm (pc := 177) (fm_nn et21 g22) lk_9_21 sh_0 rfl dX9_count_177 ?_
                        refine fm_cgr et21 ?_
                        obtain ⟨v23, M24, ev23, h⟩ := fm_bdp h
                        refine fm_callV (pc := 180) mX7_heardInSum [_] _ rfl cvX7_heardInSum ml_9_244 sh_38 rfl rfl (Nat.le_of_ble_eq_true rfl) (Nat.le_of_ble_eq_true rfl) dX9_count_180 ?_
                        refine sp_X7_heardInSum ev23 ?_
                        refine fm_ret1 ?_
                        refine fm_iret (pc := 183) rfl ?_ dX9_count_183
                        cases h
                        exact hq
                      · replace h := fm_itn s1_10 h
                        by_cases s1_11 : a1 = 11
                        · replace h := fm_itp s1_11 h
                          refine fm_tswIn (pc := 1) 184 11 (183) (by rw [s1_11]; rfl) (by decide) (by decide) (by decide) (by decide) dX9_count_1 ?_
                          refine fl_aload0 (pc := 184) dX9_count_184 ?_
                          refine fm_getr (pc := 185) lk_9_28 sh_0 rfl dX9_count_185 ?_
                          refine fm_geti (pc := 188) lk_9_172 sh_38 rfl dX9_count_188 ?_
                          obtain ⟨v25, M26, ev25, h⟩ := fm_bdp h
                          refine fm_callS (pc := 191) mJ6_bitCount_0f7a4 [_] _ rfl csJ6_bitCount_0f7a4 ml_9_276 rfl (Nat.le_of_ble_eq_true rfl) (Nat.le_of_ble_eq_true rfl) dX9_count_191 ?_
                          refine sp_J6_bitCount_0f7a4 ev25 ?_
                          refine fm_ret1 ?_
                          refine fm_iret (pc := 194) rfl ?_ dX9_count_194
                          cases h
                          exact hq
                        · replace h := fm_itn s1_11 h
                          by_cases s1_12 : a1 = 12
                          · replace h := fm_itp s1_12 h
                            refine fm_tswIn (pc := 1) 195 12 (194) (by rw [s1_12]; rfl) (by decide) (by decide) (by decide) (by decide) dX9_count_1 ?_
                            refine fl_aload0 (pc := 195) dX9_count_195 ?_
                            refine fm_getr (pc := 196) lk_9_48 sh_0 rfl dX9_count_196 ?_
                            refine fm_geti (pc := 199) lk_9_312 sh_63 rfl dX9_count_199 ?_
                            refine fm_iret (pc := 202) rfl ?_ dX9_count_202
                            cases h
                            exact hq
                          · replace h := fm_itn s1_12 h
                            by_cases s1_13 : a1 = 13
                            · replace h := fm_itp s1_13 h
                              refine fm_tswIn (pc := 1) 203 13 (202) (by rw [s1_13]; rfl) (by decide) (by decide) (by decide) (by decide) dX9_count_1 ?_
                              refine fl_aload0 (pc := 203) dX9_count_203 ?_
                              refine fm_getr (pc := 204) lk_9_48 sh_0 rfl dX9_count_204 ?_
                              obtain ⟨v27, M28, ev27, h⟩ := fm_bdp h
                              refine fm_callV (pc := 207) mX4_reach [] _ rfl cvX4_reach ml_9_367 sh_63 rfl rfl (Nat.le_of_ble_eq_true rfl) (Nat.le_of_ble_eq_true rfl) dX9_count_207 ?_
                              refine sp_X4_reach ev27 ?_
                              refine fm_ret1 ?_
                              refine fm_iret (pc := 210) rfl ?_ dX9_count_210
                              cases h
                              exact hq
                            · replace h := fm_itn s1_13 h
                              by_cases s1_14 : a1 = 14
                              · replace h := fm_itp s1_14 h
                                refine fm_tswIn (pc := 1) 211 14 (210) (by rw [s1_14]; rfl) (by decide) (by decide) (by decide) (by decide) dX9_count_1 ?_
                                refine fl_aload0 (pc := 211) dX9_count_211 ?_
                                refine fm_getr (pc := 212) lk_9_41 sh_0 rfl dX9_count_212 ?_
                                refine fm_geti (pc := 215) lk_9_101 sh_59 rfl dX9_count_215 ?_
                                refine fm_iret (pc := 218) rfl ?_ dX9_count_218
                                cases h
                                exact hq
                              · replace h := fm_itn s1_14 h
                                have q0 : ¬ Int32.toInt a1 = 0 := fun q => s1_0 (Int32.toInt_inj.mp (by rw [q]; rfl))
                                have q1 : ¬ Int32.toInt a1 = 1 := fun q => s1_1 (Int32.toInt_inj.mp (by rw [q]; rfl))
                                have q2 : ¬ Int32.toInt a1 = 2 := fun q => s1_2 (Int32.toInt_inj.mp (by rw [q]; rfl))
                                have q3 : ¬ Int32.toInt a1 = 3 := fun q => s1_3 (Int32.toInt_inj.mp (by rw [q]; rfl))
                                have q4 : ¬ Int32.toInt a1 = 4 := fun q => s1_4 (Int32.toInt_inj.mp (by rw [q]; rfl))
                                have q5 : ¬ Int32.toInt a1 = 5 := fun q => s1_5 (Int32.toInt_inj.mp (by rw [q]; rfl))
                                have q6 : ¬ Int32.toInt a1 = 6 := fun q => s1_6 (Int32.toInt_inj.mp (by rw [q]; rfl))
                                have q7 : ¬ Int32.toInt a1 = 7 := fun q => s1_7 (Int32.toInt_inj.mp (by rw [q]; rfl))
                                have q8 : ¬ Int32.toInt a1 = 8 := fun q => s1_8 (Int32.toInt_inj.mp (by rw [q]; rfl))
                                have q9 : ¬ Int32.toInt a1 = 9 := fun q => s1_9 (Int32.toInt_inj.mp (by rw [q]; rfl))
                                have q10 : ¬ Int32.toInt a1 = 10 := fun q => s1_10 (Int32.toInt_inj.mp (by rw [q]; rfl))
                                have q11 : ¬ Int32.toInt a1 = 11 := fun q => s1_11 (Int32.toInt_inj.mp (by rw [q]; rfl))
                                have q12 : ¬ Int32.toInt a1 = 12 := fun q => s1_12 (Int32.toInt_inj.mp (by rw [q]; rfl))
                                have q13 : ¬ Int32.toInt a1 = 13 := fun q => s1_13 (Int32.toInt_inj.mp (by rw [q]; rfl))
                                have q14 : ¬ Int32.toInt a1 = 14 := fun q => s1_14 (Int32.toInt_inj.mp (by rw [q]; rfl))
                                refine fm_tswOut (pc := 1) 219 (by omega) (by decide) dX9_count_1 ?_
                                refine fm_iconstv (pc := 219) (-1) (by decide) dX9_count_219 ?_
                                refine fm_iret (pc := 220) rfl ?_ dX9_count_220
                                cases h
                                exact hq
/-! X10_thrown -/
def F_X10_thrown  (M : fm_M) : Option (Int32 × fm_M) :=
    some ((M.1 76 0), M)
theorem sp_X10_thrown {d : Nat}  {M : fm_M} {x : Int32 × fm_M} {Q : Option Value → fm_M → Prop} (h : F_X10_thrown  M = some x) (hq : Q (some (.int x.1)) x.2) : fm_ct d mX10_thrown [.ref 76] M Q := by
  rw [F_X10_thrown] at h
  show fm_mw d mX10_thrown Q 0 [some (.ref 76)] [] M
  refine fl_aload0 (pc := 0) dX10_thrown_0 ?_
  refine fm_geti (pc := 1) lk_10_130 sh_76 rfl dX10_thrown_1 ?_
  refine fm_iret (pc := 4) rfl ?_ dX10_thrown_4
  cases h
  exact hq
/-! X10_feed -/
def J_X10_feed_73 (rec : Int32 → fm_M → Option ((Int32) × fm_M)) (l1 : Int32) (l2 : Int32) (l3 : Int32) (l4 : Int32) (l5 : Int32) (l6 : Int32) (s0 : Int32) (M : fm_M) : Option ((Int32) × fm_M) :=
    fm_gd (fm_inb ((M.1 76 2) + l6) 700) (
    fm_lt (fm_up M 77 (Int32.toNatClampNeg ((M.1 76 2) + l6)) ((s0 >>> ((24 - (8 * (i_rem l6 4))) &&& 31)) &&& 255)) (fun M3 =>
    rec (l6 + 1) M3))
def G_X10_feed_20 : Nat → Int32 → Int32 → Int32 → Int32 → Int32 → Int32 → fm_M → Option ((Int32) × fm_M)
  | 0, _, _, _, _, _, _, _ => none
  | n + 1, l1, l2, l3, l4, l5, l6, M =>
    if 20 ≤ l6 then (
      some (l6, M)
    ) else (
      if 4 ≤ l6 then (
        if 8 ≤ l6 then (
          if 12 ≤ l6 then (
            if 16 ≤ l6 then (
              J_X10_feed_73 (G_X10_feed_20 n l1 l2 l3 l4 l5) l1 l2 l3 l4 l5 l6 l5 M
            ) else (
              J_X10_feed_73 (G_X10_feed_20 n l1 l2 l3 l4 l5) l1 l2 l3 l4 l5 l6 l4 M
            )
          ) else (
            J_X10_feed_73 (G_X10_feed_20 n l1 l2 l3 l4 l5) l1 l2 l3 l4 l5 l6 l3 M
          )
        ) else (
          J_X10_feed_73 (G_X10_feed_20 n l1 l2 l3 l4 l5) l1 l2 l3 l4 l5 l6 l2 M
        )
      ) else (
        J_X10_feed_73 (G_X10_feed_20 n l1 l2 l3 l4 l5) l1 l2 l3 l4 l5 l6 l1 M
      )
    )
def F_X10_feed (a1 : Int32) (a2 : Int32) (a3 : Int32) (a4 : Int32) (a5 : Int32) (M : fm_M) : Option (Int32 × fm_M) :=
    fm_lt (fm_up M 76 0 0) (fun M1 =>
    if (M1.1 76 2) ≤ 680 then (
      fm_bd (G_X10_feed_20 fm_fuel a1 a2 a3 a4 a5 0 M1) (fun w4 M5 =>
        fm_lt (fm_up M5 76 2 ((M5.1 76 2) + 20)) (fun M6 =>
        some ((M6.1 76 2), M6)))
    ) else (
      some ((-1), M1)
    ))
theorem jn_X10_feed_73 {d : Nat} {Q : Option Value → fm_M → Prop} (rec : Int32 → fm_M → Option ((Int32) × fm_M))  (l1 : Int32) (l2 : Int32) (l3 : Int32) (l4 : Int32) (l5 : Int32) (l6 : Int32) (s0 : Int32) {x : (Int32) × fm_M}  (ih : ∀ (l6 : Int32) (M : fm_M), rec l6 M = some x → fm_mw d mX10_feed Q 20 [some (.ref 76), some (.int l1), some (.int l2), some (.int l3), some (.int l4), some (.int l5), some (.int l6), none] [] M) (k1 : ∀ (v : Int32) (M2 : fm_M), x = (v, M2) → fm_mw d mX10_feed Q 110 [some (.ref 76), some (.int l1), some (.int l2), some (.int l3), some (.int l4), some (.int l5), some (.int v), none] [] M2) (M : fm_M) (h : J_X10_feed_73 rec l1 l2 l3 l4 l5 l6 s0 M = some x) : fm_mw d mX10_feed Q 73 [some (.ref 76), some (.int l1), some (.int l2), some (.int l3), some (.int l4), some (.int l5), some (.int l6), none] [(.int s0)] M := by
  rw [J_X10_feed_73] at h
  refine fl_istore7 (pc := 73) rfl (by decide) dX10_feed_73 ?_
  refine fl_aload0 (pc := 75) dX10_feed_75 ?_
  refine fm_getr (pc := 76) lk_10_7 sh_76 rfl dX10_feed_76 ?_
  refine fl_aload0 (pc := 79) dX10_feed_79 ?_
  refine fm_geti (pc := 80) lk_10_133 sh_76 rfl dX10_feed_80 ?_
  refine fl_iload6 (pc := 83) dX10_feed_83 ?_
  refine fm_iadd (pc := 85) dX10_feed_85 ?_
  refine fl_iload7 (pc := 86) dX10_feed_86 ?_
  refine fm_bipushv (pc := 88) 24 (by decide) dX10_feed_88 ?_
  refine fm_bipushv (pc := 90) 8 (by decide) dX10_feed_90 ?_
  refine fl_iload6 (pc := 92) dX10_feed_92 ?_
  refine fm_iconstv (pc := 94) 4 (by decide) dX10_feed_94 ?_
  refine fq_irem (pc := 95) (by decide) dX10_feed_95 ?_
  refine fm_imul (pc := 96) dX10_feed_96 ?_
  refine fm_isub (pc := 97) dX10_feed_97 ?_
  refine fm_ishr (pc := 98) dX10_feed_98 ?_
  refine fm_sipushv (pc := 99) 255 (by decide) dX10_feed_99 ?_
  refine fm_iand (pc := 102) dX10_feed_102 ?_
  obtain ⟨g2, h⟩ := fm_gdp h
  refine fm_iast (pc := 103) sh_77 (fm_inb_ok g2) dX10_feed_103 ?_
  obtain ⟨M3, eM3, h⟩ := fm_ltp h
  refine fm_cgm eM3 ?_
  refine fl_iinc6 (pc := 104) rfl 1 (by decide) (by decide) dX10_feed_104 ?_
  refine fm_goto (pc := 107) 20 (by decide) dX10_feed_107 ?_
  refine fm_fgt [some (.ref 76), some (.int l1), some (.int l2), some (.int l3), some (.int l4), some (.int l5), some (.int (l6 + 1)), none] (by simp [fm_sub]) ?_
  exact ih _ _ h
theorem lp_X10_feed_20 {d : Nat} {Q : Option Value → fm_M → Prop} {l1 : Int32} {l2 : Int32} {l3 : Int32} {l4 : Int32} {l5 : Int32}   {x : (Int32) × fm_M} (k1 : ∀ (v : Int32) (M2 : fm_M), x = (v, M2) → fm_mw d mX10_feed Q 110 [some (.ref 76), some (.int l1), some (.int l2), some (.int l3), some (.int l4), some (.int l5), some (.int v), none] [] M2) : ∀ (n : Nat) (l6 : Int32) (M : fm_M), G_X10_feed_20 n l1 l2 l3 l4 l5 l6 M = some x → fm_mw d mX10_feed Q 20 [some (.ref 76), some (.int l1), some (.int l2), some (.int l3), some (.int l4), some (.int l5), some (.int l6), none] [] M := by
  intro n
  induction n with
  | zero => intro l6 M h; simp [G_X10_feed_20] at h
  | succ n ih =>
    intro l6 M h
    rw [G_X10_feed_20] at h
    refine fl_iload6 (pc := 20) dX10_feed_20 ?_
    refine fm_bipushv (pc := 22) 20 (by decide) dX10_feed_22 ?_
    refine fm_icmp_ge (pc := 24) 110 (by decide) dX10_feed_24 (fun c24 => ?_) (fun c24 => ?_)
    · replace h := fm_itp c24 h
      refine fm_fgt [some (.ref 76), some (.int l1), some (.int l2), some (.int l3), some (.int l4), some (.int l5), some (.int l6), none] (by simp [fm_sub]) ?_
      cases h
      exact k1 _ _ rfl
    · replace h := fm_itn c24 h
      refine fl_iload6 (pc := 27) dX10_feed_27 ?_
      refine fm_iconstv (pc := 29) 4 (by decide) dX10_feed_29 ?_
      refine fm_icmp_ge (pc := 30) 37 (by decide) dX10_feed_30 (fun c30 => ?_) (fun c30 => ?_)
      · replace h := fm_itp c30 h
        refine fl_iload6 (pc := 37) dX10_feed_37 ?_
        refine fm_bipushv (pc := 39) 8 (by decide) dX10_feed_39 ?_
        refine fm_icmp_ge (pc := 41) 48 (by decide) dX10_feed_41 (fun c41 => ?_) (fun c41 => ?_)
        · replace h := fm_itp c41 h
          refine fl_iload6 (pc := 48) dX10_feed_48 ?_
          refine fm_bipushv (pc := 50) 12 (by decide) dX10_feed_50 ?_
          refine fm_icmp_ge (pc := 52) 59 (by decide) dX10_feed_52 (fun c52 => ?_) (fun c52 => ?_)
          · replace h := fm_itp c52 h
            refine fl_iload6 (pc := 59) dX10_feed_59 ?_
            refine fm_bipushv (pc := 61) 16 (by decide) dX10_feed_61 ?_
            refine fm_icmp_ge (pc := 63) 71 (by decide) dX10_feed_63 (fun c63 => ?_) (fun c63 => ?_)
            · replace h := fm_itp c63 h
              refine fl_iload5 (pc := 71) dX10_feed_71 ?_
              exact jn_X10_feed_73 _ _ _ _ _ _ _ _  ih k1 _ h
            · replace h := fm_itn c63 h
              refine fl_iload4 (pc := 66) dX10_feed_66 ?_
              refine fm_goto (pc := 68) 73 (by decide) dX10_feed_68 ?_
              exact jn_X10_feed_73 _ _ _ _ _ _ _ _  ih k1 _ h
          · replace h := fm_itn c52 h
            refine fl_iload3 (pc := 55) dX10_feed_55 ?_
            refine fm_goto (pc := 56) 73 (by decide) dX10_feed_56 ?_
            exact jn_X10_feed_73 _ _ _ _ _ _ _ _  ih k1 _ h
        · replace h := fm_itn c41 h
          refine fl_iload2 (pc := 44) dX10_feed_44 ?_
          refine fm_goto (pc := 45) 73 (by decide) dX10_feed_45 ?_
          exact jn_X10_feed_73 _ _ _ _ _ _ _ _  ih k1 _ h
      · replace h := fm_itn c30 h
        refine fl_iload1 (pc := 33) dX10_feed_33 ?_
        refine fm_goto (pc := 34) 73 (by decide) dX10_feed_34 ?_
        exact jn_X10_feed_73 _ _ _ _ _ _ _ _  ih k1 _ h
theorem sp_X10_feed {d : Nat} {a1 : Int32} {a2 : Int32} {a3 : Int32} {a4 : Int32} {a5 : Int32} {M : fm_M} {x : Int32 × fm_M} {Q : Option Value → fm_M → Prop} (h : F_X10_feed a1 a2 a3 a4 a5 M = some x) (hq : Q (some (.int x.1)) x.2) : fm_ct d mX10_feed [.ref 76, .int a1, .int a2, .int a3, .int a4, .int a5] M Q := by
  rw [F_X10_feed] at h
  show fm_mw d mX10_feed Q 0 [some (.ref 76), some (.int a1), some (.int a2), some (.int a3), some (.int a4), some (.int a5), none, none] [] M
  refine fl_aload0 (pc := 0) dX10_feed_0 ?_
  refine fm_iconstv (pc := 1) 0 (by decide) dX10_feed_1 ?_
  refine fm_puti (pc := 2) lp_10_130 sh_76 rfl dX10_feed_2 ?_
  obtain ⟨M1, eM1, h⟩ := fm_ltp h
  refine fm_cgm eM1 ?_
  refine fl_aload0 (pc := 5) dX10_feed_5 ?_
  refine fm_geti (pc := 6) lk_10_133 sh_76 rfl dX10_feed_6 ?_
  refine fm_sipushv (pc := 9) 680 (by decide) dX10_feed_9 ?_
  refine fm_icmp_le (pc := 12) 17 (by decide) dX10_feed_12 (fun c12 => ?_) (fun c12 => ?_)
  · replace h := fm_itp c12 h
    refine fm_iconstv (pc := 17) 0 (by decide) dX10_feed_17 ?_
    refine fl_istore6 (pc := 18) rfl (by decide) dX10_feed_18 ?_
    obtain ⟨w4, M5, ew4, h⟩ := fm_bdp h
    refine lp_X10_feed_20  ?_ _ _ _ ew4
    intro w49 M59 q9
    cases q9
    refine fl_aload0 (pc := 110) dX10_feed_110 ?_
    refine fm_dup (pc := 111) rfl dX10_feed_111 ?_
    refine fm_geti (pc := 112) lk_10_133 sh_76 rfl dX10_feed_112 ?_
    refine fm_bipushv (pc := 115) 20 (by decide) dX10_feed_115 ?_
    refine fm_iadd (pc := 117) dX10_feed_117 ?_
    refine fm_puti (pc := 118) lp_10_133 sh_76 rfl dX10_feed_118 ?_
    obtain ⟨M6, eM6, h⟩ := fm_ltp h
    refine fm_cgm eM6 ?_
    refine fl_aload0 (pc := 121) dX10_feed_121 ?_
    refine fm_geti (pc := 122) lk_10_133 sh_76 rfl dX10_feed_122 ?_
    refine fm_iret (pc := 125) rfl ?_ dX10_feed_125
    cases h
    exact hq
  · replace h := fm_itn c12 h
    refine fm_iconstv (pc := 15) (-1) (by decide) dX10_feed_15 ?_
    refine fm_iret (pc := 16) rfl ?_ dX10_feed_16
    cases h
    exact hq
