/-! X10_lawLine -/
def J_X10_lawLine_65 (l1 : Int32) (M : fm_M) : Option (Unit × fm_M) :=
    if (M.1 76 24) = 0 then (
      fm_lt (fm_up M 76 17 ((M.1 76 17) ||| (1 <<< ((16 + l1) &&& 31)))) (fun M4 =>
      fm_bd (F_X10_token M4) (fun v5 M6 =>
      fm_bd (F_X10_fresher 8 M6) (fun v7 M8 =>
      fm_gd (fm_inb (3 + l1) 6) (
      fm_lt (fm_up M8 88 (Int32.toNatClampNeg (3 + l1)) v7) (fun M10 =>
      fm_bd (F_X10_expression M10) (fun v11 M12 =>
      fm_bd (F_X10_fresher 8 M12) (fun v13 M14 =>
      fm_gd (fm_inb (3 + l1) 6) (
      fm_lt (fm_up M14 89 (Int32.toNatClampNeg (3 + l1)) v13) (fun M16 =>
      some ((), M16))))))))))
    ) else (
      some ((), M)
    )
def J_X10_lawLine_30  (M : fm_M) : Option (Unit × fm_M) :=
    fm_lt (((M.1 76 23) - 9)) (fun x3 =>
    if (M.1 76 24) = 0 then (
      if (((M.1 76 17) >>> ((16 + x3) &&& 31)) &&& 1) = 1 then (
        fm_bd (F_X10_wrong 3 M) (fun v17 M18 =>
        J_X10_lawLine_65 x3 M18)
      ) else (
        J_X10_lawLine_65 x3 M
      )
    ) else (
      J_X10_lawLine_65 x3 M
    ))
def J_X10_lawLine_25  (M : fm_M) : Option (Unit × fm_M) :=
    fm_bd (F_X10_wrong 1 M) (fun v1 M2 =>
    J_X10_lawLine_30 M2)
def F_X10_lawLine  (M : fm_M) : Option (Unit × fm_M) :=
    if (M.1 76 22) = 0 then (
      if (M.1 76 23) < 9 then (
        J_X10_lawLine_25 M
      ) else (
        if (M.1 76 23) ≤ 11 then (
          J_X10_lawLine_30 M
        ) else (
          J_X10_lawLine_25 M
        )
      )
    ) else (
      J_X10_lawLine_25 M
    )
theorem jn_X10_lawLine_65 {d : Nat} {Q : Option Value → fm_M → Prop}  (l1 : Int32) {x : Unit × fm_M}  (hq : Q none x.2) (M : fm_M) (h : J_X10_lawLine_65 l1 M = some x) : fm_mw (d + 991) mX10_lawLine Q 65 [some (.ref 76), some (.int l1)] [] M := by
  rw [J_X10_lawLine_65] at h
  refine fl_aload0 (pc := 65) dX10_lawLine_65 ?_
  refine fm_geti (pc := 66) lk_10_184 sh_76 rfl dX10_lawLine_66 ?_
  refine fm_if_eq (pc := 69) 73 (by decide) dX10_lawLine_69 (fun c69 => ?_) (fun c69 => ?_)
  · replace h := fm_itp c69 h
    refine fl_aload0 (pc := 73) dX10_lawLine_73 ?_
    refine fm_dup (pc := 74) rfl dX10_lawLine_74 ?_
    refine fm_geti (pc := 75) lk_10_210 sh_76 rfl dX10_lawLine_75 ?_
    refine fm_iconstv (pc := 78) 1 (by decide) dX10_lawLine_78 ?_
    refine fm_bipushv (pc := 79) 16 (by decide) dX10_lawLine_79 ?_
    refine fl_iload1 (pc := 81) dX10_lawLine_81 ?_
    refine fm_iadd (pc := 82) dX10_lawLine_82 ?_
    refine fm_ishl (pc := 83) dX10_lawLine_83 ?_
    refine fm_ior (pc := 84) dX10_lawLine_84 ?_
    refine fm_puti (pc := 85) lp_10_210 sh_76 rfl dX10_lawLine_85 ?_
    obtain ⟨M4, eM4, h⟩ := fm_ltp h
    refine fm_cgm eM4 ?_
    refine fl_aload0 (pc := 88) dX10_lawLine_88 ?_
    obtain ⟨v5, M6, ev5, h⟩ := fm_bdp h
    refine fm_callV (pc := 89) mX10_token [] _ rfl cvX10_token ml_10_190 sh_76 rfl rfl (Nat.le_of_ble_eq_true rfl) (Nat.le_of_ble_eq_true rfl) dX10_lawLine_89 ?_
    refine sp_X10_token ev5 ?_
    refine fm_ret0 ?_
    refine fl_aload0 (pc := 92) dX10_lawLine_92 ?_
    refine fm_getr (pc := 93) lk_10_43 sh_76 rfl dX10_lawLine_93 ?_
    refine fm_iconstv (pc := 96) 3 (by decide) dX10_lawLine_96 ?_
    refine fl_iload1 (pc := 97) dX10_lawLine_97 ?_
    refine fm_iadd (pc := 98) dX10_lawLine_98 ?_
    refine fl_aload0 (pc := 99) dX10_lawLine_99 ?_
    refine fm_bipushv (pc := 100) 8 (by decide) dX10_lawLine_100 ?_
    obtain ⟨v7, M8, ev7, h⟩ := fm_bdp h
    refine fm_callV (pc := 102) mX10_fresher [_] _ rfl cvX10_fresher ml_10_200 sh_76 rfl rfl (Nat.le_of_ble_eq_true rfl) (Nat.le_of_ble_eq_true rfl) dX10_lawLine_102 ?_
    refine sp_X10_fresher ev7 ?_
    refine fm_ret1 ?_
    obtain ⟨g9, h⟩ := fm_gdp h
    refine fm_iast (pc := 105) sh_88 (fm_inb_ok g9) dX10_lawLine_105 ?_
    obtain ⟨M10, eM10, h⟩ := fm_ltp h
    refine fm_cgm eM10 ?_
    refine fl_aload0 (pc := 106) dX10_lawLine_106 ?_
    obtain ⟨v11, M12, ev11, h⟩ := fm_bdp h
    refine fm_callV (pc := 107) mX10_expression [] _ rfl cvX10_expression ml_10_240 sh_76 rfl rfl (Nat.le_of_ble_eq_true rfl) (Nat.le_of_ble_eq_true rfl) dX10_lawLine_107 ?_
    refine sx_X10_expression ev11 ?_
    refine fm_ret0 ?_
    refine fl_aload0 (pc := 110) dX10_lawLine_110 ?_
    refine fm_getr (pc := 111) lk_10_46 sh_76 rfl dX10_lawLine_111 ?_
    refine fm_iconstv (pc := 114) 3 (by decide) dX10_lawLine_114 ?_
    refine fl_iload1 (pc := 115) dX10_lawLine_115 ?_
    refine fm_iadd (pc := 116) dX10_lawLine_116 ?_
    refine fl_aload0 (pc := 117) dX10_lawLine_117 ?_
    refine fm_bipushv (pc := 118) 8 (by decide) dX10_lawLine_118 ?_
    obtain ⟨v13, M14, ev13, h⟩ := fm_bdp h
    refine fm_callV (pc := 120) mX10_fresher [_] _ rfl cvX10_fresher ml_10_200 sh_76 rfl rfl (Nat.le_of_ble_eq_true rfl) (Nat.le_of_ble_eq_true rfl) dX10_lawLine_120 ?_
    refine sp_X10_fresher ev13 ?_
    refine fm_ret1 ?_
    obtain ⟨g15, h⟩ := fm_gdp h
    refine fm_iast (pc := 123) sh_89 (fm_inb_ok g15) dX10_lawLine_123 ?_
    obtain ⟨M16, eM16, h⟩ := fm_ltp h
    refine fm_cgm eM16 ?_
    refine fm_vret (pc := 124) rfl ?_ dX10_lawLine_124
    cases h
    exact hq
  · replace h := fm_itn c69 h
    refine fm_vret (pc := 72) rfl ?_ dX10_lawLine_72
    cases h
    exact hq
theorem jn_X10_lawLine_30 {d : Nat} {Q : Option Value → fm_M → Prop}   {x : Unit × fm_M}  (hq : Q none x.2) (M : fm_M) (h : J_X10_lawLine_30 M = some x) : fm_mw (d + 991) mX10_lawLine Q 30 [some (.ref 76), none] [] M := by
  rw [J_X10_lawLine_30] at h
  refine fl_aload0 (pc := 30) dX10_lawLine_30 ?_
  refine fm_geti (pc := 31) lk_10_159 sh_76 rfl dX10_lawLine_31 ?_
  refine fm_bipushv (pc := 34) 9 (by decide) dX10_lawLine_34 ?_
  refine fm_isub (pc := 36) dX10_lawLine_36 ?_
  obtain ⟨x3, ex3, h⟩ := fm_ltp h
  refine fm_cgi ex3 ?_
  refine fl_istore1 (pc := 37) rfl (by decide) dX10_lawLine_37 ?_
  refine fl_aload0 (pc := 38) dX10_lawLine_38 ?_
  refine fm_geti (pc := 39) lk_10_184 sh_76 rfl dX10_lawLine_39 ?_
  refine fm_if_ne (pc := 42) 65 (by decide) dX10_lawLine_42 (fun c42 => ?_) (fun c42 => ?_)
  · replace h := fm_itn c42 h
    exact jn_X10_lawLine_65 _  hq _ h
  · replace h := fm_itp c42 h
    refine fl_aload0 (pc := 45) dX10_lawLine_45 ?_
    refine fm_geti (pc := 46) lk_10_210 sh_76 rfl dX10_lawLine_46 ?_
    refine fm_bipushv (pc := 49) 16 (by decide) dX10_lawLine_49 ?_
    refine fl_iload1 (pc := 51) dX10_lawLine_51 ?_
    refine fm_iadd (pc := 52) dX10_lawLine_52 ?_
    refine fm_ishr (pc := 53) dX10_lawLine_53 ?_
    refine fm_iconstv (pc := 54) 1 (by decide) dX10_lawLine_54 ?_
    refine fm_iand (pc := 55) dX10_lawLine_55 ?_
    refine fm_iconstv (pc := 56) 1 (by decide) dX10_lawLine_56 ?_
    refine fm_icmp_ne (pc := 57) 65 (by decide) dX10_lawLine_57 (fun c57 => ?_) (fun c57 => ?_)
    · replace h := fm_itn c57 h
      exact jn_X10_lawLine_65 _  hq _ h
    · replace h := fm_itp c57 h
      refine fl_aload0 (pc := 60) dX10_lawLine_60 ?_
      refine fm_iconstv (pc := 61) 3 (by decide) dX10_lawLine_61 ?_
      obtain ⟨v17, M18, ev17, h⟩ := fm_bdp h
      refine fm_callV (pc := 62) mX10_wrong [_] _ rfl cvX10_wrong ml_10_193 sh_76 rfl rfl (Nat.le_of_ble_eq_true rfl) (Nat.le_of_ble_eq_true rfl) dX10_lawLine_62 ?_
      refine sp_X10_wrong ev17 ?_
      refine fm_ret0 ?_
      exact jn_X10_lawLine_65 _  hq _ h
theorem jn_X10_lawLine_25 {d : Nat} {Q : Option Value → fm_M → Prop}   {x : Unit × fm_M}  (hq : Q none x.2) (M : fm_M) (h : J_X10_lawLine_25 M = some x) : fm_mw (d + 991) mX10_lawLine Q 25 [some (.ref 76), none] [] M := by
  rw [J_X10_lawLine_25] at h
  refine fl_aload0 (pc := 25) dX10_lawLine_25 ?_
  refine fm_iconstv (pc := 26) 1 (by decide) dX10_lawLine_26 ?_
  obtain ⟨v1, M2, ev1, h⟩ := fm_bdp h
  refine fm_callV (pc := 27) mX10_wrong [_] _ rfl cvX10_wrong ml_10_193 sh_76 rfl rfl (Nat.le_of_ble_eq_true rfl) (Nat.le_of_ble_eq_true rfl) dX10_lawLine_27 ?_
  refine sp_X10_wrong ev1 ?_
  refine fm_ret0 ?_
  exact jn_X10_lawLine_30   hq _ h
theorem sp_X10_lawLine {d : Nat}  {M : fm_M} {x : Unit × fm_M} {Q : Option Value → fm_M → Prop} (h : F_X10_lawLine  M = some x) (hq : Q none x.2) : fm_ct (d + 991) mX10_lawLine [.ref 76] M Q := by
  rw [F_X10_lawLine] at h
  show fm_mw (d + 991) mX10_lawLine Q 0 [some (.ref 76), none] [] M
  refine fl_aload0 (pc := 0) dX10_lawLine_0 ?_
  refine fm_geti (pc := 1) lk_10_149 sh_76 rfl dX10_lawLine_1 ?_
  refine fm_if_ne (pc := 4) 25 (by decide) dX10_lawLine_4 (fun c4 => ?_) (fun c4 => ?_)
  · replace h := fm_itn c4 h
    exact jn_X10_lawLine_25   hq _ h
  · replace h := fm_itp c4 h
    refine fl_aload0 (pc := 7) dX10_lawLine_7 ?_
    refine fm_geti (pc := 8) lk_10_159 sh_76 rfl dX10_lawLine_8 ?_
    refine fm_bipushv (pc := 11) 9 (by decide) dX10_lawLine_11 ?_
    refine fm_icmp_lt (pc := 13) 25 (by decide) dX10_lawLine_13 (fun c13 => ?_) (fun c13 => ?_)
    · replace h := fm_itp c13 h
      exact jn_X10_lawLine_25   hq _ h
    · replace h := fm_itn c13 h
      refine fl_aload0 (pc := 16) dX10_lawLine_16 ?_
      refine fm_geti (pc := 17) lk_10_159 sh_76 rfl dX10_lawLine_17 ?_
      refine fm_bipushv (pc := 20) 11 (by decide) dX10_lawLine_20 ?_
      refine fm_icmp_le (pc := 22) 30 (by decide) dX10_lawLine_22 (fun c22 => ?_) (fun c22 => ?_)
      · replace h := fm_itp c22 h
        exact jn_X10_lawLine_30   hq _ h
      · replace h := fm_itn c22 h
        exact jn_X10_lawLine_25   hq _ h
/-! X10_line -/
def J_X10_line_432 (l1 : Int32) (l2 : Int32) (M : fm_M) : Option (Unit × fm_M) :=
    if (M.1 76 24) = 0 then (
      fm_bd (F_X10_isSign 59 M) (fun v40 M41 =>
      if v40 = 0 then (
        fm_bd (F_X10_wrong 1 M41) (fun v45 M46 =>
        fm_lt (fm_up M46 76 18 ((M46.1 76 18) + 1)) (fun M47 =>
        some ((), M47)))
      ) else (
        fm_bd (F_X10_token M41) (fun v42 M43 =>
        fm_lt (fm_up M43 76 18 ((M43.1 76 18) + 1)) (fun M44 =>
        some ((), M44)))
      ))
    ) else (
      some ((), M)
    )
def J_X10_line_432_1 (l1 : Int32) (M : fm_M) : Option (Unit × fm_M) :=
    if (M.1 76 24) = 0 then (
      fm_bd (F_X10_isSign 59 M) (fun v50 M51 =>
      if v50 = 0 then (
        fm_bd (F_X10_wrong 1 M51) (fun v55 M56 =>
        fm_lt (fm_up M56 76 18 ((M56.1 76 18) + 1)) (fun M57 =>
        some ((), M57)))
      ) else (
        fm_bd (F_X10_token M51) (fun v52 M53 =>
        fm_lt (fm_up M53 76 18 ((M53.1 76 18) + 1)) (fun M54 =>
        some ((), M54)))
      ))
    ) else (
      some ((), M)
    )
def J_X10_line_432_2 (l1 : Int32) (l3 : Int32) (M : fm_M) : Option (Unit × fm_M) :=
    if (M.1 76 24) = 0 then (
      fm_bd (F_X10_isSign 59 M) (fun v79 M80 =>
      if v79 = 0 then (
        fm_bd (F_X10_wrong 1 M80) (fun v84 M85 =>
        fm_lt (fm_up M85 76 18 ((M85.1 76 18) + 1)) (fun M86 =>
        some ((), M86)))
      ) else (
        fm_bd (F_X10_token M80) (fun v81 M82 =>
        fm_lt (fm_up M82 76 18 ((M82.1 76 18) + 1)) (fun M83 =>
        some ((), M83)))
      ))
    ) else (
      some ((), M)
    )
def J_X10_line_67 (l1 : Int32) (M : fm_M) : Option (Unit × fm_M) :=
    if (M.1 76 24) = 0 then (
      fm_lt (fm_up M 76 17 ((M.1 76 17) ||| (1 <<< (l1 &&& 31)))) (fun M8 =>
      fm_bd (F_X10_token M8) (fun v9 M10 =>
      if l1 = 0 then (
        fm_bd (F_X10_fresher 0 M10) (fun v11 M12 =>
        fm_lt ((8 + v11)) (fun x13 =>
        fm_bd (F_X10_fresher 0 M12) (fun v14 M15 =>
        fm_bd (F_X10_fresh 79 8 v14 M15) (fun v16 M17 =>
        fm_gd (fm_inb x13 16) (
        fm_lt (fm_up M17 79 (Int32.toNatClampNeg x13) v16) (fun M19 =>
        fm_bd (F_X10_numeral 100 999 M19) (fun v20 M21 =>
        fm_gd (fm_inb x13 16) (
        fm_lt (fm_up M21 80 (Int32.toNatClampNeg x13) v20) (fun M23 =>
        fm_bd (F_X10_numeral 0 99 M23) (fun v24 M25 =>
        fm_gd (fm_inb x13 16) (
        fm_lt (fm_up M25 81 (Int32.toNatClampNeg x13) v24) (fun M27 =>
        fm_bd (F_X10_numeral 0 9 M27) (fun v28 M29 =>
        fm_gd (fm_inb x13 16) (
        fm_lt (fm_up M29 82 (Int32.toNatClampNeg x13) v28) (fun M31 =>
        fm_bd (F_X10_numeral 0 3 M31) (fun v32 M33 =>
        fm_gd (fm_inb x13 16) (
        fm_lt (fm_up M33 83 (Int32.toNatClampNeg x13) v32) (fun M35 =>
        fm_bd (F_X10_fresher 0 M35) (fun v36 M37 =>
        fm_bd (F_X10_reads 0 (v36 + 1) M37) (fun v38 M39 =>
        J_X10_line_432 l1 x13 M39))))))))))))))))))))
      ) else (
      if l1 = 1 then (
        fm_bd (F_X10_crackLine M10) (fun v48 M49 =>
        J_X10_line_432_1 l1 M49)
      ) else (
      if l1 = 2 then (
        fm_bd (F_X10_fresher 1 M10) (fun v58 M59 =>
        fm_lt ((10 + v58)) (fun x60 =>
        fm_bd (F_X10_fresher 1 M59) (fun v61 M62 =>
        fm_bd (F_X10_fresh 84 10 v61 M62) (fun v63 M64 =>
        fm_gd (fm_inb x60 20) (
        fm_lt (fm_up M64 84 (Int32.toNatClampNeg x60) v63) (fun M66 =>
        fm_bd (F_X10_numeral 100 999 M66) (fun v67 M68 =>
        fm_gd (fm_inb x60 20) (
        fm_lt (fm_up M68 85 (Int32.toNatClampNeg x60) v67) (fun M70 =>
        fm_bd (F_X10_numeral 0 99 M70) (fun v71 M72 =>
        fm_gd (fm_inb x60 20) (
        fm_lt (fm_up M72 86 (Int32.toNatClampNeg x60) v71) (fun M74 =>
        fm_bd (F_X10_fresher 1 M74) (fun v75 M76 =>
        fm_bd (F_X10_reads 1 (v75 + 1) M76) (fun v77 M78 =>
        J_X10_line_432_2 l1 x60 M78))))))))))))))
      ) else (
      if l1 = 3 then (
        fm_bd (F_X10_numeral 1 99 M10) (fun v87 M88 =>
        fm_bd (F_X10_reads 2 v87 M88) (fun v89 M90 =>
        J_X10_line_432_1 l1 M90))
      ) else (
      if l1 = 4 then (
        fm_bd (F_X10_fresher 3 M10) (fun v91 M92 =>
        fm_bd (F_X10_numeral 0 9 M92) (fun v93 M94 =>
        fm_gd (fm_inb (8 + v91) 16) (
        fm_lt (fm_up M94 87 (Int32.toNatClampNeg (8 + v91)) v93) (fun M96 =>
        fm_bd (F_X10_fresher 3 M96) (fun v97 M98 =>
        fm_bd (F_X10_reads 3 (v97 + 1) M98) (fun v99 M100 =>
        J_X10_line_432_1 l1 M100))))))
      ) else (
      if l1 = 5 then (
        fm_bd (F_X10_numeral 0 999 M10) (fun v101 M102 =>
        fm_bd (F_X10_reads 4 v101 M102) (fun v103 M104 =>
        fm_bd (F_X10_numeral 0 99 M104) (fun v105 M106 =>
        fm_bd (F_X10_reads 5 v105 M106) (fun v107 M108 =>
        J_X10_line_432_1 l1 M108))))
      ) else (
      if l1 = 6 then (
        fm_bd (F_X10_numeral 0 9 M10) (fun v109 M110 =>
        fm_bd (F_X10_reads 6 v109 M110) (fun v111 M112 =>
        J_X10_line_432_1 l1 M112))
      ) else (
      if l1 = 7 then (
        fm_bd (F_X10_numeral 0 99999 M10) (fun v113 M114 =>
        fm_bd (F_X10_reads 7 v113 M114) (fun v115 M116 =>
        J_X10_line_432_1 l1 M116))
      ) else (
      fm_bd (F_X10_lawLine M10) (fun v117 M118 =>
      J_X10_line_432_1 l1 M118)))))))))))
    ) else (
      some ((), M)
    )
def F_X10_line  (M : fm_M) : Option (Unit × fm_M) :=
    if (M.1 76 22) = 0 then (
      if (M.1 76 23) ≤ 8 then (
        fm_lt ((M.1 76 23)) (fun x3 =>
        fm_bd (F_X10_isFull x3 M) (fun v4 M5 =>
        if v4 = 0 then (
          fm_bd (F_X10_isOnce x3 M5) (fun v6 M7 =>
          if v6 = 0 then (
            J_X10_line_67 x3 M7
          ) else (
            if (((M7.1 76 17) >>> (x3 &&& 31)) &&& 1) = 1 then (
              fm_bd (F_X10_wrong 3 M7) (fun v119 M120 =>
              J_X10_line_67 x3 M120)
            ) else (
              J_X10_line_67 x3 M7
            )
          ))
        ) else (
          fm_bd (F_X10_wrong 2 M5) (fun v121 M122 =>
          J_X10_line_67 x3 M122)
        )))
      ) else (
        fm_bd (F_X10_wrong 1 M) (fun v123 M124 =>
        some ((), M124))
      )
    ) else (
      fm_bd (F_X10_wrong 1 M) (fun v1 M2 =>
      some ((), M2))
    )
theorem jn_X10_line_432 {d : Nat} {Q : Option Value → fm_M → Prop}  (l1 : Int32) (l2 : Int32) {x : Unit × fm_M}  (hq : Q none x.2) (M : fm_M) (h : J_X10_line_432 l1 l2 M = some x) : fm_mw (d + 992) mX10_line Q 432 [some (.ref 76), some (.int l1), some (.int l2), none] [] M := by
  rw [J_X10_line_432] at h
  refine fl_aload0 (pc := 432) dX10_line_432 ?_
  refine fm_geti (pc := 433) lk_10_184 sh_76 rfl dX10_line_433 ?_
  refine fm_if_eq (pc := 436) 440 (by decide) dX10_line_436 (fun c436 => ?_) (fun c436 => ?_)
  · replace h := fm_itp c436 h
    refine fl_aload0 (pc := 440) dX10_line_440 ?_
    refine fm_bipushv (pc := 441) 59 (by decide) dX10_line_441 ?_
    obtain ⟨v40, M41, ev40, h⟩ := fm_bdp h
    refine fm_callV (pc := 443) mX10_isSign [_] _ rfl cvX10_isSign ml_10_231 sh_76 rfl rfl (Nat.le_of_ble_eq_true rfl) (Nat.le_of_ble_eq_true rfl) dX10_line_443 ?_
    refine sp_X10_isSign ev40 ?_
    refine fm_ret1 ?_
    refine fm_if_ne (pc := 446) 457 (by decide) dX10_line_446 (fun c446 => ?_) (fun c446 => ?_)
    · replace h := fm_itn c446 h
      refine fl_aload0 (pc := 457) dX10_line_457 ?_
      obtain ⟨v42, M43, ev42, h⟩ := fm_bdp h
      refine fm_callV (pc := 458) mX10_token [] _ rfl cvX10_token ml_10_190 sh_76 rfl rfl (Nat.le_of_ble_eq_true rfl) (Nat.le_of_ble_eq_true rfl) dX10_line_458 ?_
      refine sp_X10_token ev42 ?_
      refine fm_ret0 ?_
      refine fl_aload0 (pc := 461) dX10_line_461 ?_
      refine fm_dup (pc := 462) rfl dX10_line_462 ?_
      refine fm_geti (pc := 463) lk_10_234 sh_76 rfl dX10_line_463 ?_
      refine fm_iconstv (pc := 466) 1 (by decide) dX10_line_466 ?_
      refine fm_iadd (pc := 467) dX10_line_467 ?_
      refine fm_puti (pc := 468) lp_10_234 sh_76 rfl dX10_line_468 ?_
      obtain ⟨M44, eM44, h⟩ := fm_ltp h
      refine fm_cgm eM44 ?_
      refine fm_vret (pc := 471) rfl ?_ dX10_line_471
      cases h
      exact hq
    · replace h := fm_itp c446 h
      refine fl_aload0 (pc := 449) dX10_line_449 ?_
      refine fm_iconstv (pc := 450) 1 (by decide) dX10_line_450 ?_
      obtain ⟨v45, M46, ev45, h⟩ := fm_bdp h
      refine fm_callV (pc := 451) mX10_wrong [_] _ rfl cvX10_wrong ml_10_193 sh_76 rfl rfl (Nat.le_of_ble_eq_true rfl) (Nat.le_of_ble_eq_true rfl) dX10_line_451 ?_
      refine sp_X10_wrong ev45 ?_
      refine fm_ret0 ?_
      refine fm_goto (pc := 454) 461 (by decide) dX10_line_454 ?_
      refine fl_aload0 (pc := 461) dX10_line_461 ?_
      refine fm_dup (pc := 462) rfl dX10_line_462 ?_
      refine fm_geti (pc := 463) lk_10_234 sh_76 rfl dX10_line_463 ?_
      refine fm_iconstv (pc := 466) 1 (by decide) dX10_line_466 ?_
      refine fm_iadd (pc := 467) dX10_line_467 ?_
      refine fm_puti (pc := 468) lp_10_234 sh_76 rfl dX10_line_468 ?_
      obtain ⟨M47, eM47, h⟩ := fm_ltp h
      refine fm_cgm eM47 ?_
      refine fm_vret (pc := 471) rfl ?_ dX10_line_471
      cases h
      exact hq
  · replace h := fm_itn c436 h
    refine fm_vret (pc := 439) rfl ?_ dX10_line_439
    cases h
    exact hq
theorem jn_X10_line_432_1 {d : Nat} {Q : Option Value → fm_M → Prop}  (l1 : Int32) {x : Unit × fm_M}  (hq : Q none x.2) (M : fm_M) (h : J_X10_line_432_1 l1 M = some x) : fm_mw (d + 992) mX10_line Q 432 [some (.ref 76), some (.int l1), none, none] [] M := by
  rw [J_X10_line_432_1] at h
  refine fl_aload0 (pc := 432) dX10_line_432 ?_
  refine fm_geti (pc := 433) lk_10_184 sh_76 rfl dX10_line_433 ?_
  refine fm_if_eq (pc := 436) 440 (by decide) dX10_line_436 (fun c436 => ?_) (fun c436 => ?_)
  · replace h := fm_itp c436 h
    refine fl_aload0 (pc := 440) dX10_line_440 ?_
    refine fm_bipushv (pc := 441) 59 (by decide) dX10_line_441 ?_
    obtain ⟨v50, M51, ev50, h⟩ := fm_bdp h
    refine fm_callV (pc := 443) mX10_isSign [_] _ rfl cvX10_isSign ml_10_231 sh_76 rfl rfl (Nat.le_of_ble_eq_true rfl) (Nat.le_of_ble_eq_true rfl) dX10_line_443 ?_
    refine sp_X10_isSign ev50 ?_
    refine fm_ret1 ?_
    refine fm_if_ne (pc := 446) 457 (by decide) dX10_line_446 (fun c446 => ?_) (fun c446 => ?_)
    · replace h := fm_itn c446 h
      refine fl_aload0 (pc := 457) dX10_line_457 ?_
      obtain ⟨v52, M53, ev52, h⟩ := fm_bdp h
      refine fm_callV (pc := 458) mX10_token [] _ rfl cvX10_token ml_10_190 sh_76 rfl rfl (Nat.le_of_ble_eq_true rfl) (Nat.le_of_ble_eq_true rfl) dX10_line_458 ?_
      refine sp_X10_token ev52 ?_
      refine fm_ret0 ?_
      refine fl_aload0 (pc := 461) dX10_line_461 ?_
      refine fm_dup (pc := 462) rfl dX10_line_462 ?_
      refine fm_geti (pc := 463) lk_10_234 sh_76 rfl dX10_line_463 ?_
      refine fm_iconstv (pc := 466) 1 (by decide) dX10_line_466 ?_
      refine fm_iadd (pc := 467) dX10_line_467 ?_
      refine fm_puti (pc := 468) lp_10_234 sh_76 rfl dX10_line_468 ?_
      obtain ⟨M54, eM54, h⟩ := fm_ltp h
      refine fm_cgm eM54 ?_
      refine fm_vret (pc := 471) rfl ?_ dX10_line_471
      cases h
      exact hq
    · replace h := fm_itp c446 h
      refine fl_aload0 (pc := 449) dX10_line_449 ?_
      refine fm_iconstv (pc := 450) 1 (by decide) dX10_line_450 ?_
      obtain ⟨v55, M56, ev55, h⟩ := fm_bdp h
      refine fm_callV (pc := 451) mX10_wrong [_] _ rfl cvX10_wrong ml_10_193 sh_76 rfl rfl (Nat.le_of_ble_eq_true rfl) (Nat.le_of_ble_eq_true rfl) dX10_line_451 ?_
      refine sp_X10_wrong ev55 ?_
      refine fm_ret0 ?_
      refine fm_goto (pc := 454) 461 (by decide) dX10_line_454 ?_
      refine fl_aload0 (pc := 461) dX10_line_461 ?_
      refine fm_dup (pc := 462) rfl dX10_line_462 ?_
      refine fm_geti (pc := 463) lk_10_234 sh_76 rfl dX10_line_463 ?_
      refine fm_iconstv (pc := 466) 1 (by decide) dX10_line_466 ?_
      refine fm_iadd (pc := 467) dX10_line_467 ?_
      refine fm_puti (pc := 468) lp_10_234 sh_76 rfl dX10_line_468 ?_
      obtain ⟨M57, eM57, h⟩ := fm_ltp h
      refine fm_cgm eM57 ?_
      refine fm_vret (pc := 471) rfl ?_ dX10_line_471
      cases h
      exact hq
  · replace h := fm_itn c436 h
    refine fm_vret (pc := 439) rfl ?_ dX10_line_439
    cases h
    exact hq
theorem jn_X10_line_432_2 {d : Nat} {Q : Option Value → fm_M → Prop}  (l1 : Int32) (l3 : Int32) {x : Unit × fm_M}  (hq : Q none x.2) (M : fm_M) (h : J_X10_line_432_2 l1 l3 M = some x) : fm_mw (d + 992) mX10_line Q 432 [some (.ref 76), some (.int l1), none, some (.int l3)] [] M := by
  rw [J_X10_line_432_2] at h
  refine fl_aload0 (pc := 432) dX10_line_432 ?_
  refine fm_geti (pc := 433) lk_10_184 sh_76 rfl dX10_line_433 ?_
  refine fm_if_eq (pc := 436) 440 (by decide) dX10_line_436 (fun c436 => ?_) (fun c436 => ?_)
  · replace h := fm_itp c436 h
    refine fl_aload0 (pc := 440) dX10_line_440 ?_
    refine fm_bipushv (pc := 441) 59 (by decide) dX10_line_441 ?_
    obtain ⟨v79, M80, ev79, h⟩ := fm_bdp h
    refine fm_callV (pc := 443) mX10_isSign [_] _ rfl cvX10_isSign ml_10_231 sh_76 rfl rfl (Nat.le_of_ble_eq_true rfl) (Nat.le_of_ble_eq_true rfl) dX10_line_443 ?_
    refine sp_X10_isSign ev79 ?_
    refine fm_ret1 ?_
    refine fm_if_ne (pc := 446) 457 (by decide) dX10_line_446 (fun c446 => ?_) (fun c446 => ?_)
    · replace h := fm_itn c446 h
      refine fl_aload0 (pc := 457) dX10_line_457 ?_
      obtain ⟨v81, M82, ev81, h⟩ := fm_bdp h
      refine fm_callV (pc := 458) mX10_token [] _ rfl cvX10_token ml_10_190 sh_76 rfl rfl (Nat.le_of_ble_eq_true rfl) (Nat.le_of_ble_eq_true rfl) dX10_line_458 ?_
      refine sp_X10_token ev81 ?_
      refine fm_ret0 ?_
      refine fl_aload0 (pc := 461) dX10_line_461 ?_
      refine fm_dup (pc := 462) rfl dX10_line_462 ?_
      refine fm_geti (pc := 463) lk_10_234 sh_76 rfl dX10_line_463 ?_
      refine fm_iconstv (pc := 466) 1 (by decide) dX10_line_466 ?_
      refine fm_iadd (pc := 467) dX10_line_467 ?_
      refine fm_puti (pc := 468) lp_10_234 sh_76 rfl dX10_line_468 ?_
      obtain ⟨M83, eM83, h⟩ := fm_ltp h
      refine fm_cgm eM83 ?_
      refine fm_vret (pc := 471) rfl ?_ dX10_line_471
      cases h
      exact hq
    · replace h := fm_itp c446 h
      refine fl_aload0 (pc := 449) dX10_line_449 ?_
      refine fm_iconstv (pc := 450) 1 (by decide) dX10_line_450 ?_
      obtain ⟨v84, M85, ev84, h⟩ := fm_bdp h
      refine fm_callV (pc := 451) mX10_wrong [_] _ rfl cvX10_wrong ml_10_193 sh_76 rfl rfl (Nat.le_of_ble_eq_true rfl) (Nat.le_of_ble_eq_true rfl) dX10_line_451 ?_
      refine sp_X10_wrong ev84 ?_
      refine fm_ret0 ?_
      refine fm_goto (pc := 454) 461 (by decide) dX10_line_454 ?_
      refine fl_aload0 (pc := 461) dX10_line_461 ?_
      refine fm_dup (pc := 462) rfl dX10_line_462 ?_
      refine fm_geti (pc := 463) lk_10_234 sh_76 rfl dX10_line_463 ?_
      refine fm_iconstv (pc := 466) 1 (by decide) dX10_line_466 ?_
      refine fm_iadd (pc := 467) dX10_line_467 ?_
      refine fm_puti (pc := 468) lp_10_234 sh_76 rfl dX10_line_468 ?_
      obtain ⟨M86, eM86, h⟩ := fm_ltp h
      refine fm_cgm eM86 ?_
      refine fm_vret (pc := 471) rfl ?_ dX10_line_471
      cases h
      exact hq
  · replace h := fm_itn c436 h
    refine fm_vret (pc := 439) rfl ?_ dX10_line_439
    cases h
    exact hq
theorem jn_X10_line_67 {d : Nat} {Q : Option Value → fm_M → Prop}  (l1 : Int32) {x : Unit × fm_M}  (hq : Q none x.2) (M : fm_M) (h : J_X10_line_67 l1 M = some x) : fm_mw (d + 992) mX10_line Q 67 [some (.ref 76), some (.int l1), none, none] [] M := by
  rw [J_X10_line_67] at h
  refine fl_aload0 (pc := 67) dX10_line_67 ?_
  refine fm_geti (pc := 68) lk_10_184 sh_76 rfl dX10_line_68 ?_
  refine fm_if_eq (pc := 71) 75 (by decide) dX10_line_71 (fun c71 => ?_) (fun c71 => ?_)
  · replace h := fm_itp c71 h
    refine fl_aload0 (pc := 75) dX10_line_75 ?_
    refine fm_dup (pc := 76) rfl dX10_line_76 ?_
    refine fm_geti (pc := 77) lk_10_210 sh_76 rfl dX10_line_77 ?_
    refine fm_iconstv (pc := 80) 1 (by decide) dX10_line_80 ?_
    refine fl_iload1 (pc := 81) dX10_line_81 ?_
    refine fm_ishl (pc := 82) dX10_line_82 ?_
    refine fm_ior (pc := 83) dX10_line_83 ?_
    refine fm_puti (pc := 84) lp_10_210 sh_76 rfl dX10_line_84 ?_
    obtain ⟨M8, eM8, h⟩ := fm_ltp h
    refine fm_cgm eM8 ?_
    refine fl_aload0 (pc := 87) dX10_line_87 ?_
    obtain ⟨v9, M10, ev9, h⟩ := fm_bdp h
    refine fm_callV (pc := 88) mX10_token [] _ rfl cvX10_token ml_10_190 sh_76 rfl rfl (Nat.le_of_ble_eq_true rfl) (Nat.le_of_ble_eq_true rfl) dX10_line_88 ?_
    refine sp_X10_token ev9 ?_
    refine fm_ret0 ?_
    refine fl_iload1 (pc := 91) dX10_line_91 ?_
    by_cases s92_0 : l1 = 0
    · replace h := fm_itp s92_0 h
      refine fm_tswIn (pc := 92) 140 0 (48) (by rw [s92_0]; rfl) (by decide) (by decide) (by decide) (by decide) dX10_line_92 ?_
      refine fm_bipushv (pc := 140) 8 (by decide) dX10_line_140 ?_
      refine fl_aload0 (pc := 142) dX10_line_142 ?_
      refine fm_iconstv (pc := 143) 0 (by decide) dX10_line_143 ?_
      obtain ⟨v11, M12, ev11, h⟩ := fm_bdp h
      refine fm_callV (pc := 144) mX10_fresher [_] _ rfl cvX10_fresher ml_10_200 sh_76 rfl rfl (Nat.le_of_ble_eq_true rfl) (Nat.le_of_ble_eq_true rfl) dX10_line_144 ?_
      refine sp_X10_fresher ev11 ?_
      refine fm_ret1 ?_
      refine fm_iadd (pc := 147) dX10_line_147 ?_
      obtain ⟨x13, ex13, h⟩ := fm_ltp h
      refine fm_cgi ex13 ?_
      refine fl_istore2 (pc := 148) rfl (by decide) dX10_line_148 ?_
      refine fl_aload0 (pc := 149) dX10_line_149 ?_
      refine fm_getr (pc := 150) lk_10_16 sh_76 rfl dX10_line_150 ?_
      refine fl_iload2 (pc := 153) dX10_line_153 ?_
      refine fl_aload0 (pc := 154) dX10_line_154 ?_
      refine fl_aload0 (pc := 155) dX10_line_155 ?_
      refine fm_getr (pc := 156) lk_10_16 sh_76 rfl dX10_line_156 ?_
      refine fm_bipushv (pc := 159) 8 (by decide) dX10_line_159 ?_
      refine fl_aload0 (pc := 161) dX10_line_161 ?_
      refine fm_iconstv (pc := 162) 0 (by decide) dX10_line_162 ?_
      obtain ⟨v14, M15, ev14, h⟩ := fm_bdp h
      refine fm_callV (pc := 163) mX10_fresher [_] _ rfl cvX10_fresher ml_10_200 sh_76 rfl rfl (Nat.le_of_ble_eq_true rfl) (Nat.le_of_ble_eq_true rfl) dX10_line_163 ?_
      refine sp_X10_fresher ev14 ?_
      refine fm_ret1 ?_
      obtain ⟨v16, M17, ev16, h⟩ := fm_bdp h
      refine fm_callV (pc := 166) mX10_fresh [_, _, _] _ rfl cvX10_fresh ml_10_213 sh_76 rfl rfl (Nat.le_of_ble_eq_true rfl) (Nat.le_of_ble_eq_true rfl) dX10_line_166 ?_
      refine sp_X10_fresh ev16 ?_
      refine fm_ret1 ?_
      obtain ⟨g18, h⟩ := fm_gdp h
      refine fm_iast (pc := 169) sh_79 (fm_inb_ok g18) dX10_line_169 ?_
      obtain ⟨M19, eM19, h⟩ := fm_ltp h
      refine fm_cgm eM19 ?_
      refine fl_aload0 (pc := 170) dX10_line_170 ?_
      refine fm_getr (pc := 171) lk_10_19 sh_76 rfl dX10_line_171 ?_
      refine fl_iload2 (pc := 174) dX10_line_174 ?_
      refine fl_aload0 (pc := 175) dX10_line_175 ?_
      refine fm_bipushv (pc := 176) 100 (by decide) dX10_line_176 ?_
      refine fm_sipushv (pc := 178) 999 (by decide) dX10_line_178 ?_
      obtain ⟨v20, M21, ev20, h⟩ := fm_bdp h
      refine fm_callV (pc := 181) mX10_numeral [_, _] _ rfl cvX10_numeral ml_10_217 sh_76 rfl rfl (Nat.le_of_ble_eq_true rfl) (Nat.le_of_ble_eq_true rfl) dX10_line_181 ?_
      refine sp_X10_numeral ev20 ?_
      refine fm_ret1 ?_
      obtain ⟨g22, h⟩ := fm_gdp h
      refine fm_iast (pc := 184) sh_80 (fm_inb_ok g22) dX10_line_184 ?_
      obtain ⟨M23, eM23, h⟩ := fm_ltp h
      refine fm_cgm eM23 ?_
      refine fl_aload0 (pc := 185) dX10_line_185 ?_
      refine fm_getr (pc := 186) lk_10_22 sh_76 rfl dX10_line_186 ?_
      refine fl_iload2 (pc := 189) dX10_line_189 ?_
      refine fl_aload0 (pc := 190) dX10_line_190 ?_
      refine fm_iconstv (pc := 191) 0 (by decide) dX10_line_191 ?_
      refine fm_bipushv (pc := 192) 99 (by decide) dX10_line_192 ?_
      obtain ⟨v24, M25, ev24, h⟩ := fm_bdp h
      refine fm_callV (pc := 194) mX10_numeral [_, _] _ rfl cvX10_numeral ml_10_217 sh_76 rfl rfl (Nat.le_of_ble_eq_true rfl) (Nat.le_of_ble_eq_true rfl) dX10_line_194 ?_
      refine sp_X10_numeral ev24 ?_
      refine fm_ret1 ?_
      obtain ⟨g26, h⟩ := fm_gdp h
      refine fm_iast (pc := 197) sh_81 (fm_inb_ok g26) dX10_line_197 ?_
      obtain ⟨M27, eM27, h⟩ := fm_ltp h
      refine fm_cgm eM27 ?_
      refine fl_aload0 (pc := 198) dX10_line_198 ?_
      refine fm_getr (pc := 199) lk_10_25 sh_76 rfl dX10_line_199 ?_
      refine fl_iload2 (pc := 202) dX10_line_202 ?_
      refine fl_aload0 (pc := 203) dX10_line_203 ?_
      refine fm_iconstv (pc := 204) 0 (by decide) dX10_line_204 ?_
      refine fm_bipushv (pc := 205) 9 (by decide) dX10_line_205 ?_
      obtain ⟨v28, M29, ev28, h⟩ := fm_bdp h
      refine fm_callV (pc := 207) mX10_numeral [_, _] _ rfl cvX10_numeral ml_10_217 sh_76 rfl rfl (Nat.le_of_ble_eq_true rfl) (Nat.le_of_ble_eq_true rfl) dX10_line_207 ?_
      refine sp_X10_numeral ev28 ?_
      refine fm_ret1 ?_
      obtain ⟨g30, h⟩ := fm_gdp h
      refine fm_iast (pc := 210) sh_82 (fm_inb_ok g30) dX10_line_210 ?_
      obtain ⟨M31, eM31, h⟩ := fm_ltp h
      refine fm_cgm eM31 ?_
      refine fl_aload0 (pc := 211) dX10_line_211 ?_
      refine fm_getr (pc := 212) lk_10_28 sh_76 rfl dX10_line_212 ?_
      refine fl_iload2 (pc := 215) dX10_line_215 ?_
      refine fl_aload0 (pc := 216) dX10_line_216 ?_
      refine fm_iconstv (pc := 217) 0 (by decide) dX10_line_217 ?_
      refine fm_iconstv (pc := 218) 3 (by decide) dX10_line_218 ?_
      obtain ⟨v32, M33, ev32, h⟩ := fm_bdp h
      refine fm_callV (pc := 219) mX10_numeral [_, _] _ rfl cvX10_numeral ml_10_217 sh_76 rfl rfl (Nat.le_of_ble_eq_true rfl) (Nat.le_of_ble_eq_true rfl) dX10_line_219 ?_
      refine sp_X10_numeral ev32 ?_
      refine fm_ret1 ?_
      obtain ⟨g34, h⟩ := fm_gdp h
      refine fm_iast (pc := 222) sh_83 (fm_inb_ok g34) dX10_line_222 ?_
      obtain ⟨M35, eM35, h⟩ := fm_ltp h
      refine fm_cgm eM35 ?_
      refine fl_aload0 (pc := 223) dX10_line_223 ?_
      refine fm_iconstv (pc := 224) 0 (by decide) dX10_line_224 ?_
      refine fl_aload0 (pc := 225) dX10_line_225 ?_
      refine fm_iconstv (pc := 226) 0 (by decide) dX10_line_226 ?_
      obtain ⟨v36, M37, ev36, h⟩ := fm_bdp h
      refine fm_callV (pc := 227) mX10_fresher [_] _ rfl cvX10_fresher ml_10_200 sh_76 rfl rfl (Nat.le_of_ble_eq_true rfl) (Nat.le_of_ble_eq_true rfl) dX10_line_227 ?_
      refine sp_X10_fresher ev36 ?_
      refine fm_ret1 ?_
      refine fm_iconstv (pc := 230) 1 (by decide) dX10_line_230 ?_
      refine fm_iadd (pc := 231) dX10_line_231 ?_
      obtain ⟨v38, M39, ev38, h⟩ := fm_bdp h
      refine fm_callV (pc := 232) mX10_reads [_, _] _ rfl cvX10_reads ml_10_221 sh_76 rfl rfl (Nat.le_of_ble_eq_true rfl) (Nat.le_of_ble_eq_true rfl) dX10_line_232 ?_
      refine sp_X10_reads ev38 ?_
      refine fm_ret0 ?_
      refine fm_goto (pc := 235) 432 (by decide) dX10_line_235 ?_
      exact jn_X10_line_432 _ _  hq _ h
    · replace h := fm_itn s92_0 h
      by_cases s92_1 : l1 = 1
      · replace h := fm_itp s92_1 h
        refine fm_tswIn (pc := 92) 238 1 (146) (by rw [s92_1]; rfl) (by decide) (by decide) (by decide) (by decide) dX10_line_92 ?_
        refine fl_aload0 (pc := 238) dX10_line_238 ?_
        obtain ⟨v48, M49, ev48, h⟩ := fm_bdp h
        refine fm_callV (pc := 239) mX10_crackLine [] _ rfl cvX10_crackLine ml_10_225 sh_76 rfl rfl (Nat.le_of_ble_eq_true rfl) (Nat.le_of_ble_eq_true rfl) dX10_line_239 ?_
        refine sp_X10_crackLine ev48 ?_
        refine fm_ret0 ?_
        refine fm_goto (pc := 242) 432 (by decide) dX10_line_242 ?_
        exact jn_X10_line_432_1 _  hq _ h
      · replace h := fm_itn s92_1 h
        by_cases s92_2 : l1 = 2
        · replace h := fm_itp s92_2 h
          refine fm_tswIn (pc := 92) 245 2 (153) (by rw [s92_2]; rfl) (by decide) (by decide) (by decide) (by decide) dX10_line_92 ?_
          refine fm_bipushv (pc := 245) 10 (by decide) dX10_line_245 ?_
          refine fl_aload0 (pc := 247) dX10_line_247 ?_
          refine fm_iconstv (pc := 248) 1 (by decide) dX10_line_248 ?_
          obtain ⟨v58, M59, ev58, h⟩ := fm_bdp h
          refine fm_callV (pc := 249) mX10_fresher [_] _ rfl cvX10_fresher ml_10_200 sh_76 rfl rfl (Nat.le_of_ble_eq_true rfl) (Nat.le_of_ble_eq_true rfl) dX10_line_249 ?_
          refine sp_X10_fresher ev58 ?_
          refine fm_ret1 ?_
          refine fm_iadd (pc := 252) dX10_line_252 ?_
          obtain ⟨x60, ex60, h⟩ := fm_ltp h
          refine fm_cgi ex60 ?_
          refine fl_istore3 (pc := 253) rfl (by decide) dX10_line_253 ?_
          refine fl_aload0 (pc := 254) dX10_line_254 ?_
          refine fm_getr (pc := 255) lk_10_31 sh_76 rfl dX10_line_255 ?_
          refine fl_iload3 (pc := 258) dX10_line_258 ?_
          refine fl_aload0 (pc := 259) dX10_line_259 ?_
          refine fl_aload0 (pc := 260) dX10_line_260 ?_
          refine fm_getr (pc := 261) lk_10_31 sh_76 rfl dX10_line_261 ?_
          refine fm_bipushv (pc := 264) 10 (by decide) dX10_line_264 ?_
          refine fl_aload0 (pc := 266) dX10_line_266 ?_
          refine fm_iconstv (pc := 267) 1 (by decide) dX10_line_267 ?_
          obtain ⟨v61, M62, ev61, h⟩ := fm_bdp h
          refine fm_callV (pc := 268) mX10_fresher [_] _ rfl cvX10_fresher ml_10_200 sh_76 rfl rfl (Nat.le_of_ble_eq_true rfl) (Nat.le_of_ble_eq_true rfl) dX10_line_268 ?_
          refine sp_X10_fresher ev61 ?_
          refine fm_ret1 ?_
          obtain ⟨v63, M64, ev63, h⟩ := fm_bdp h
          refine fm_callV (pc := 271) mX10_fresh [_, _, _] _ rfl cvX10_fresh ml_10_213 sh_76 rfl rfl (Nat.le_of_ble_eq_true rfl) (Nat.le_of_ble_eq_true rfl) dX10_line_271 ?_
          refine sp_X10_fresh ev63 ?_
          refine fm_ret1 ?_
          obtain ⟨g65, h⟩ := fm_gdp h
          refine fm_iast (pc := 274) sh_84 (fm_inb_ok g65) dX10_line_274 ?_
          obtain ⟨M66, eM66, h⟩ := fm_ltp h
          refine fm_cgm eM66 ?_
          refine fl_aload0 (pc := 275) dX10_line_275 ?_
          refine fm_getr (pc := 276) lk_10_34 sh_76 rfl dX10_line_276 ?_
          refine fl_iload3 (pc := 279) dX10_line_279 ?_
          refine fl_aload0 (pc := 280) dX10_line_280 ?_
          refine fm_bipushv (pc := 281) 100 (by decide) dX10_line_281 ?_
          refine fm_sipushv (pc := 283) 999 (by decide) dX10_line_283 ?_
          obtain ⟨v67, M68, ev67, h⟩ := fm_bdp h
          refine fm_callV (pc := 286) mX10_numeral [_, _] _ rfl cvX10_numeral ml_10_217 sh_76 rfl rfl (Nat.le_of_ble_eq_true rfl) (Nat.le_of_ble_eq_true rfl) dX10_line_286 ?_
          refine sp_X10_numeral ev67 ?_
          refine fm_ret1 ?_
          obtain ⟨g69, h⟩ := fm_gdp h
          refine fm_iast (pc := 289) sh_85 (fm_inb_ok g69) dX10_line_289 ?_
          obtain ⟨M70, eM70, h⟩ := fm_ltp h
          refine fm_cgm eM70 ?_
          refine fl_aload0 (pc := 290) dX10_line_290 ?_
          refine fm_getr (pc := 291) lk_10_37 sh_76 rfl dX10_line_291 ?_
          refine fl_iload3 (pc := 294) dX10_line_294 ?_
          refine fl_aload0 (pc := 295) dX10_line_295 ?_
          refine fm_iconstv (pc := 296) 0 (by decide) dX10_line_296 ?_
          refine fm_bipushv (pc := 297) 99 (by decide) dX10_line_297 ?_
          obtain ⟨v71, M72, ev71, h⟩ := fm_bdp h
          refine fm_callV (pc := 299) mX10_numeral [_, _] _ rfl cvX10_numeral ml_10_217 sh_76 rfl rfl (Nat.le_of_ble_eq_true rfl) (Nat.le_of_ble_eq_true rfl) dX10_line_299 ?_
          refine sp_X10_numeral ev71 ?_
          refine fm_ret1 ?_
          obtain ⟨g73, h⟩ := fm_gdp h
          refine fm_iast (pc := 302) sh_86 (fm_inb_ok g73) dX10_line_302 ?_
          obtain ⟨M74, eM74, h⟩ := fm_ltp h
          refine fm_cgm eM74 ?_
          refine fl_aload0 (pc := 303) dX10_line_303 ?_
          refine fm_iconstv (pc := 304) 1 (by decide) dX10_line_304 ?_
          refine fl_aload0 (pc := 305) dX10_line_305 ?_
          refine fm_iconstv (pc := 306) 1 (by decide) dX10_line_306 ?_
          obtain ⟨v75, M76, ev75, h⟩ := fm_bdp h
          refine fm_callV (pc := 307) mX10_fresher [_] _ rfl cvX10_fresher ml_10_200 sh_76 rfl rfl (Nat.le_of_ble_eq_true rfl) (Nat.le_of_ble_eq_true rfl) dX10_line_307 ?_
          refine sp_X10_fresher ev75 ?_
          refine fm_ret1 ?_
          refine fm_iconstv (pc := 310) 1 (by decide) dX10_line_310 ?_
          refine fm_iadd (pc := 311) dX10_line_311 ?_
          obtain ⟨v77, M78, ev77, h⟩ := fm_bdp h
          refine fm_callV (pc := 312) mX10_reads [_, _] _ rfl cvX10_reads ml_10_221 sh_76 rfl rfl (Nat.le_of_ble_eq_true rfl) (Nat.le_of_ble_eq_true rfl) dX10_line_312 ?_
          refine sp_X10_reads ev77 ?_
          refine fm_ret0 ?_
          refine fm_goto (pc := 315) 432 (by decide) dX10_line_315 ?_
          exact jn_X10_line_432_2 _ _  hq _ h
        · replace h := fm_itn s92_2 h
          by_cases s92_3 : l1 = 3
          · replace h := fm_itp s92_3 h
            refine fm_tswIn (pc := 92) 318 3 (226) (by rw [s92_3]; rfl) (by decide) (by decide) (by decide) (by decide) dX10_line_92 ?_
            refine fl_aload0 (pc := 318) dX10_line_318 ?_
            refine fm_iconstv (pc := 319) 2 (by decide) dX10_line_319 ?_
            refine fl_aload0 (pc := 320) dX10_line_320 ?_
            refine fm_iconstv (pc := 321) 1 (by decide) dX10_line_321 ?_
            refine fm_bipushv (pc := 322) 99 (by decide) dX10_line_322 ?_
            obtain ⟨v87, M88, ev87, h⟩ := fm_bdp h
            refine fm_callV (pc := 324) mX10_numeral [_, _] _ rfl cvX10_numeral ml_10_217 sh_76 rfl rfl (Nat.le_of_ble_eq_true rfl) (Nat.le_of_ble_eq_true rfl) dX10_line_324 ?_
            refine sp_X10_numeral ev87 ?_
            refine fm_ret1 ?_
            obtain ⟨v89, M90, ev89, h⟩ := fm_bdp h
            refine fm_callV (pc := 327) mX10_reads [_, _] _ rfl cvX10_reads ml_10_221 sh_76 rfl rfl (Nat.le_of_ble_eq_true rfl) (Nat.le_of_ble_eq_true rfl) dX10_line_327 ?_
            refine sp_X10_reads ev89 ?_
            refine fm_ret0 ?_
            refine fm_goto (pc := 330) 432 (by decide) dX10_line_330 ?_
            exact jn_X10_line_432_1 _  hq _ h
          · replace h := fm_itn s92_3 h
            by_cases s92_4 : l1 = 4
            · replace h := fm_itp s92_4 h
              refine fm_tswIn (pc := 92) 333 4 (241) (by rw [s92_4]; rfl) (by decide) (by decide) (by decide) (by decide) dX10_line_92 ?_
              refine fl_aload0 (pc := 333) dX10_line_333 ?_
              refine fm_getr (pc := 334) lk_10_40 sh_76 rfl dX10_line_334 ?_
              refine fm_bipushv (pc := 337) 8 (by decide) dX10_line_337 ?_
              refine fl_aload0 (pc := 339) dX10_line_339 ?_
              refine fm_iconstv (pc := 340) 3 (by decide) dX10_line_340 ?_
              obtain ⟨v91, M92, ev91, h⟩ := fm_bdp h
              refine fm_callV (pc := 341) mX10_fresher [_] _ rfl cvX10_fresher ml_10_200 sh_76 rfl rfl (Nat.le_of_ble_eq_true rfl) (Nat.le_of_ble_eq_true rfl) dX10_line_341 ?_
              refine sp_X10_fresher ev91 ?_
              refine fm_ret1 ?_
              refine fm_iadd (pc := 344) dX10_line_344 ?_
              refine fl_aload0 (pc := 345) dX10_line_345 ?_
              refine fm_iconstv (pc := 346) 0 (by decide) dX10_line_346 ?_
              refine fm_bipushv (pc := 347) 9 (by decide) dX10_line_347 ?_
              obtain ⟨v93, M94, ev93, h⟩ := fm_bdp h
              refine fm_callV (pc := 349) mX10_numeral [_, _] _ rfl cvX10_numeral ml_10_217 sh_76 rfl rfl (Nat.le_of_ble_eq_true rfl) (Nat.le_of_ble_eq_true rfl) dX10_line_349 ?_
              refine sp_X10_numeral ev93 ?_
              refine fm_ret1 ?_
              obtain ⟨g95, h⟩ := fm_gdp h
              refine fm_iast (pc := 352) sh_87 (fm_inb_ok g95) dX10_line_352 ?_
              obtain ⟨M96, eM96, h⟩ := fm_ltp h
              refine fm_cgm eM96 ?_
              refine fl_aload0 (pc := 353) dX10_line_353 ?_
              refine fm_iconstv (pc := 354) 3 (by decide) dX10_line_354 ?_
              refine fl_aload0 (pc := 355) dX10_line_355 ?_
              refine fm_iconstv (pc := 356) 3 (by decide) dX10_line_356 ?_
              obtain ⟨v97, M98, ev97, h⟩ := fm_bdp h
              refine fm_callV (pc := 357) mX10_fresher [_] _ rfl cvX10_fresher ml_10_200 sh_76 rfl rfl (Nat.le_of_ble_eq_true rfl) (Nat.le_of_ble_eq_true rfl) dX10_line_357 ?_
              refine sp_X10_fresher ev97 ?_
              refine fm_ret1 ?_
              refine fm_iconstv (pc := 360) 1 (by decide) dX10_line_360 ?_
              refine fm_iadd (pc := 361) dX10_line_361 ?_
              obtain ⟨v99, M100, ev99, h⟩ := fm_bdp h
              refine fm_callV (pc := 362) mX10_reads [_, _] _ rfl cvX10_reads ml_10_221 sh_76 rfl rfl (Nat.le_of_ble_eq_true rfl) (Nat.le_of_ble_eq_true rfl) dX10_line_362 ?_
              refine sp_X10_reads ev99 ?_
              refine fm_ret0 ?_
              refine fm_goto (pc := 365) 432 (by decide) dX10_line_365 ?_
              exact jn_X10_line_432_1 _  hq _ h
            · replace h := fm_itn s92_4 h
              by_cases s92_5 : l1 = 5
              · replace h := fm_itp s92_5 h
                refine fm_tswIn (pc := 92) 368 5 (276) (by rw [s92_5]; rfl) (by decide) (by decide) (by decide) (by decide) dX10_line_92 ?_
                refine fl_aload0 (pc := 368) dX10_line_368 ?_
                refine fm_iconstv (pc := 369) 4 (by decide) dX10_line_369 ?_
                refine fl_aload0 (pc := 370) dX10_line_370 ?_
                refine fm_iconstv (pc := 371) 0 (by decide) dX10_line_371 ?_
                refine fm_sipushv (pc := 372) 999 (by decide) dX10_line_372 ?_
                obtain ⟨v101, M102, ev101, h⟩ := fm_bdp h
                refine fm_callV (pc := 375) mX10_numeral [_, _] _ rfl cvX10_numeral ml_10_217 sh_76 rfl rfl (Nat.le_of_ble_eq_true rfl) (Nat.le_of_ble_eq_true rfl) dX10_line_375 ?_
                refine sp_X10_numeral ev101 ?_
                refine fm_ret1 ?_
                obtain ⟨v103, M104, ev103, h⟩ := fm_bdp h
                refine fm_callV (pc := 378) mX10_reads [_, _] _ rfl cvX10_reads ml_10_221 sh_76 rfl rfl (Nat.le_of_ble_eq_true rfl) (Nat.le_of_ble_eq_true rfl) dX10_line_378 ?_
                refine sp_X10_reads ev103 ?_
                refine fm_ret0 ?_
                refine fl_aload0 (pc := 381) dX10_line_381 ?_
                refine fm_iconstv (pc := 382) 5 (by decide) dX10_line_382 ?_
                refine fl_aload0 (pc := 383) dX10_line_383 ?_
                refine fm_iconstv (pc := 384) 0 (by decide) dX10_line_384 ?_
                refine fm_bipushv (pc := 385) 99 (by decide) dX10_line_385 ?_
                obtain ⟨v105, M106, ev105, h⟩ := fm_bdp h
                refine fm_callV (pc := 387) mX10_numeral [_, _] _ rfl cvX10_numeral ml_10_217 sh_76 rfl rfl (Nat.le_of_ble_eq_true rfl) (Nat.le_of_ble_eq_true rfl) dX10_line_387 ?_
                refine sp_X10_numeral ev105 ?_
                refine fm_ret1 ?_
                obtain ⟨v107, M108, ev107, h⟩ := fm_bdp h
                refine fm_callV (pc := 390) mX10_reads [_, _] _ rfl cvX10_reads ml_10_221 sh_76 rfl rfl (Nat.le_of_ble_eq_true rfl) (Nat.le_of_ble_eq_true rfl) dX10_line_390 ?_
                refine sp_X10_reads ev107 ?_
                refine fm_ret0 ?_
                refine fm_goto (pc := 393) 432 (by decide) dX10_line_393 ?_
                exact jn_X10_line_432_1 _  hq _ h
              · replace h := fm_itn s92_5 h
                by_cases s92_6 : l1 = 6
                · replace h := fm_itp s92_6 h
                  refine fm_tswIn (pc := 92) 396 6 (304) (by rw [s92_6]; rfl) (by decide) (by decide) (by decide) (by decide) dX10_line_92 ?_
                  refine fl_aload0 (pc := 396) dX10_line_396 ?_
                  refine fm_bipushv (pc := 397) 6 (by decide) dX10_line_397 ?_
                  refine fl_aload0 (pc := 399) dX10_line_399 ?_
                  refine fm_iconstv (pc := 400) 0 (by decide) dX10_line_400 ?_
                  refine fm_bipushv (pc := 401) 9 (by decide) dX10_line_401 ?_
                  obtain ⟨v109, M110, ev109, h⟩ := fm_bdp h
                  refine fm_callV (pc := 403) mX10_numeral [_, _] _ rfl cvX10_numeral ml_10_217 sh_76 rfl rfl (Nat.le_of_ble_eq_true rfl) (Nat.le_of_ble_eq_true rfl) dX10_line_403 ?_
                  refine sp_X10_numeral ev109 ?_
                  refine fm_ret1 ?_
                  obtain ⟨v111, M112, ev111, h⟩ := fm_bdp h
                  refine fm_callV (pc := 406) mX10_reads [_, _] _ rfl cvX10_reads ml_10_221 sh_76 rfl rfl (Nat.le_of_ble_eq_true rfl) (Nat.le_of_ble_eq_true rfl) dX10_line_406 ?_
                  refine sp_X10_reads ev111 ?_
                  refine fm_ret0 ?_
                  refine fm_goto (pc := 409) 432 (by decide) dX10_line_409 ?_
                  exact jn_X10_line_432_1 _  hq _ h
                · replace h := fm_itn s92_6 h
                  by_cases s92_7 : l1 = 7
                  · replace h := fm_itp s92_7 h
                    refine fm_tswIn (pc := 92) 412 7 (320) (by rw [s92_7]; rfl) (by decide) (by decide) (by decide) (by decide) dX10_line_92 ?_
                    refine fl_aload0 (pc := 412) dX10_line_412 ?_
                    refine fm_bipushv (pc := 413) 7 (by decide) dX10_line_413 ?_
                    refine fl_aload0 (pc := 415) dX10_line_415 ?_
                    refine fm_iconstv (pc := 416) 0 (by decide) dX10_line_416 ?_
                    refine fm_ldc (pc := 417) kc_10_168 dX10_line_417 ?_
                    obtain ⟨v113, M114, ev113, h⟩ := fm_bdp h
                    refine fm_callV (pc := 419) mX10_numeral [_, _] _ rfl cvX10_numeral ml_10_217 sh_76 rfl rfl (Nat.le_of_ble_eq_true rfl) (Nat.le_of_ble_eq_true rfl) dX10_line_419 ?_
                    refine sp_X10_numeral ev113 ?_
                    refine fm_ret1 ?_
                    obtain ⟨v115, M116, ev115, h⟩ := fm_bdp h
                    refine fm_callV (pc := 422) mX10_reads [_, _] _ rfl cvX10_reads ml_10_221 sh_76 rfl rfl (Nat.le_of_ble_eq_true rfl) (Nat.le_of_ble_eq_true rfl) dX10_line_422 ?_
                    refine sp_X10_reads ev115 ?_
                    refine fm_ret0 ?_
                    refine fm_goto (pc := 425) 432 (by decide) dX10_line_425 ?_
                    exact jn_X10_line_432_1 _  hq _ h
                  · replace h := fm_itn s92_7 h
                    have q0 : ¬ Int32.toInt l1 = 0 := fun q => s92_0 (Int32.toInt_inj.mp (by rw [q]; rfl))
                    have q1 : ¬ Int32.toInt l1 = 1 := fun q => s92_1 (Int32.toInt_inj.mp (by rw [q]; rfl))
                    have q2 : ¬ Int32.toInt l1 = 2 := fun q => s92_2 (Int32.toInt_inj.mp (by rw [q]; rfl))
                    have q3 : ¬ Int32.toInt l1 = 3 := fun q => s92_3 (Int32.toInt_inj.mp (by rw [q]; rfl))
                    have q4 : ¬ Int32.toInt l1 = 4 := fun q => s92_4 (Int32.toInt_inj.mp (by rw [q]; rfl))
                    have q5 : ¬ Int32.toInt l1 = 5 := fun q => s92_5 (Int32.toInt_inj.mp (by rw [q]; rfl))
                    have q6 : ¬ Int32.toInt l1 = 6 := fun q => s92_6 (Int32.toInt_inj.mp (by rw [q]; rfl))
                    have q7 : ¬ Int32.toInt l1 = 7 := fun q => s92_7 (Int32.toInt_inj.mp (by rw [q]; rfl))
                    refine fm_tswOut (pc := 92) 428 (by omega) (by decide) dX10_line_92 ?_
                    refine fl_aload0 (pc := 428) dX10_line_428 ?_
                    obtain ⟨v117, M118, ev117, h⟩ := fm_bdp h
                    refine fm_callV (pc := 429) mX10_lawLine [] _ rfl cvX10_lawLine ml_10_228 sh_76 rfl rfl (Nat.le_of_ble_eq_true rfl) (Nat.le_of_ble_eq_true rfl) dX10_line_429 ?_
                    refine sp_X10_lawLine ev117 ?_
                    refine fm_ret0 ?_
                    exact jn_X10_line_432_1 _  hq _ h
  · replace h := fm_itn c71 h
    refine fm_vret (pc := 74) rfl ?_ dX10_line_74
    cases h
    exact hq
theorem sp_X10_line {d : Nat}  {M : fm_M} {x : Unit × fm_M} {Q : Option Value → fm_M → Prop} (h : F_X10_line  M = some x) (hq : Q none x.2) : fm_ct (d + 992) mX10_line [.ref 76] M Q := by
  rw [F_X10_line] at h
  show fm_mw (d + 992) mX10_line Q 0 [some (.ref 76), none, none, none] [] M
  refine fl_aload0 (pc := 0) dX10_line_0 ?_
  refine fm_geti (pc := 1) lk_10_149 sh_76 rfl dX10_line_1 ?_
  refine fm_if_ne (pc := 4) 16 (by decide) dX10_line_4 (fun c4 => ?_) (fun c4 => ?_)
  · replace h := fm_itn c4 h
    refine fl_aload0 (pc := 16) dX10_line_16 ?_
    refine fm_iconstv (pc := 17) 1 (by decide) dX10_line_17 ?_
    obtain ⟨v1, M2, ev1, h⟩ := fm_bdp h
    refine fm_callV (pc := 18) mX10_wrong [_] _ rfl cvX10_wrong ml_10_193 sh_76 rfl rfl (Nat.le_of_ble_eq_true rfl) (Nat.le_of_ble_eq_true rfl) dX10_line_18 ?_
    refine sp_X10_wrong ev1 ?_
    refine fm_ret0 ?_
    refine fm_vret (pc := 21) rfl ?_ dX10_line_21
    cases h
    exact hq
  · replace h := fm_itp c4 h
    refine fl_aload0 (pc := 7) dX10_line_7 ?_
    refine fm_geti (pc := 8) lk_10_159 sh_76 rfl dX10_line_8 ?_
    refine fm_bipushv (pc := 11) 8 (by decide) dX10_line_11 ?_
    refine fm_icmp_le (pc := 13) 22 (by decide) dX10_line_13 (fun c13 => ?_) (fun c13 => ?_)
    · replace h := fm_itp c13 h
      refine fl_aload0 (pc := 22) dX10_line_22 ?_
      refine fm_geti (pc := 23) lk_10_159 sh_76 rfl dX10_line_23 ?_
      obtain ⟨x3, ex3, h⟩ := fm_ltp h
      refine fm_cgi ex3 ?_
      refine fl_istore1 (pc := 26) rfl (by decide) dX10_line_26 ?_
      refine fl_aload0 (pc := 27) dX10_line_27 ?_
      refine fl_iload1 (pc := 28) dX10_line_28 ?_
      obtain ⟨v4, M5, ev4, h⟩ := fm_bdp h
      refine fm_callV (pc := 29) mX10_isFull [_] _ rfl cvX10_isFull ml_10_204 sh_76 rfl rfl (Nat.le_of_ble_eq_true rfl) (Nat.le_of_ble_eq_true rfl) dX10_line_29 ?_
      refine sp_X10_isFull ev4 ?_
      refine fm_ret1 ?_
      refine fm_if_eq (pc := 32) 43 (by decide) dX10_line_32 (fun c32 => ?_) (fun c32 => ?_)
      · replace h := fm_itp c32 h
        refine fl_iload1 (pc := 43) dX10_line_43 ?_
        obtain ⟨v6, M7, ev6, h⟩ := fm_bdp h
        refine fm_callS (pc := 44) mX10_isOnce [_] _ rfl csX10_isOnce ml_10_207 rfl (Nat.le_of_ble_eq_true rfl) (Nat.le_of_ble_eq_true rfl) dX10_line_44 ?_
        refine sp_X10_isOnce ev6 ?_
        refine fm_ret1 ?_
        refine fm_if_eq (pc := 47) 67 (by decide) dX10_line_47 (fun c47 => ?_) (fun c47 => ?_)
        · replace h := fm_itp c47 h
          exact jn_X10_line_67 _  hq _ h
        · replace h := fm_itn c47 h
          refine fl_aload0 (pc := 50) dX10_line_50 ?_
          refine fm_geti (pc := 51) lk_10_210 sh_76 rfl dX10_line_51 ?_
          refine fl_iload1 (pc := 54) dX10_line_54 ?_
          refine fm_ishr (pc := 55) dX10_line_55 ?_
          refine fm_iconstv (pc := 56) 1 (by decide) dX10_line_56 ?_
          refine fm_iand (pc := 57) dX10_line_57 ?_
          refine fm_iconstv (pc := 58) 1 (by decide) dX10_line_58 ?_
          refine fm_icmp_ne (pc := 59) 67 (by decide) dX10_line_59 (fun c59 => ?_) (fun c59 => ?_)
          · replace h := fm_itn c59 h
            exact jn_X10_line_67 _  hq _ h
          · replace h := fm_itp c59 h
            refine fl_aload0 (pc := 62) dX10_line_62 ?_
            refine fm_iconstv (pc := 63) 3 (by decide) dX10_line_63 ?_
            obtain ⟨v119, M120, ev119, h⟩ := fm_bdp h
            refine fm_callV (pc := 64) mX10_wrong [_] _ rfl cvX10_wrong ml_10_193 sh_76 rfl rfl (Nat.le_of_ble_eq_true rfl) (Nat.le_of_ble_eq_true rfl) dX10_line_64 ?_
            refine sp_X10_wrong ev119 ?_
            refine fm_ret0 ?_
            exact jn_X10_line_67 _  hq _ h
      · replace h := fm_itn c32 h
        refine fl_aload0 (pc := 35) dX10_line_35 ?_
        refine fm_iconstv (pc := 36) 2 (by decide) dX10_line_36 ?_
        obtain ⟨v121, M122, ev121, h⟩ := fm_bdp h
        refine fm_callV (pc := 37) mX10_wrong [_] _ rfl cvX10_wrong ml_10_193 sh_76 rfl rfl (Nat.le_of_ble_eq_true rfl) (Nat.le_of_ble_eq_true rfl) dX10_line_37 ?_
        refine sp_X10_wrong ev121 ?_
        refine fm_ret0 ?_
        refine fm_goto (pc := 40) 67 (by decide) dX10_line_40 ?_
        exact jn_X10_line_67 _  hq _ h
    · replace h := fm_itn c13 h
      refine fl_aload0 (pc := 16) dX10_line_16 ?_
      refine fm_iconstv (pc := 17) 1 (by decide) dX10_line_17 ?_
      obtain ⟨v123, M124, ev123, h⟩ := fm_bdp h
      refine fm_callV (pc := 18) mX10_wrong [_] _ rfl cvX10_wrong ml_10_193 sh_76 rfl rfl (Nat.le_of_ble_eq_true rfl) (Nat.le_of_ble_eq_true rfl) dX10_line_18 ?_
      refine sp_X10_wrong ev123 ?_
      refine fm_ret0 ?_
      refine fm_vret (pc := 21) rfl ?_ dX10_line_21
      cases h
      exact hq
/-! X10_text -/
def G_X10_text_47 : Nat → Int32 → Int32 → fm_M → Option ((Int32) × fm_M)
  | 0, _, _, _ => none
  | n + 1, l1, l2, M =>
    if 10 ≤ l2 then (
      some (l2, M)
    ) else (
      if l2 = 2 then (
        fm_bd (F_X10_reads l2 10 M) (fun v13 M14 =>
        G_X10_text_47 n l1 (l2 + 1) M14)
      ) else (
        if l2 = 4 then (
          fm_bd (F_X10_reads l2 100 M) (fun v11 M12 =>
          G_X10_text_47 n l1 (l2 + 1) M12)
        ) else (
          if l2 = 5 then (
            fm_bd (F_X10_reads l2 5 M) (fun v9 M10 =>
            G_X10_text_47 n l1 (l2 + 1) M10)
          ) else (
            fm_bd (F_X10_reads l2 0 M) (fun v7 M8 =>
            G_X10_text_47 n l1 (l2 + 1) M8)
          )
        )
      )
    )
def G_X10_text_96 : Nat → Int32 → Int32 → fm_M → Option ((Int32) × fm_M)
  | 0, _, _, _ => none
  | n + 1, l1, l2, M =>
    if 6 ≤ l2 then (
      some (l2, M)
    ) else (
      fm_gd (fm_inb l2 6) (
      fm_lt (fm_up M 88 (Int32.toNatClampNeg l2) 0) (fun M18 =>
      fm_gd (fm_inb l2 6) (
      fm_lt (fm_up M18 89 (Int32.toNatClampNeg l2) 0) (fun M20 =>
      G_X10_text_96 n l1 (l2 + 1) M20))))
    )
def G_X10_text_146 : Nat → Int32 → Int32 → fm_M → Option ((Unit) × fm_M)
  | 0, _, _, _ => none
  | n + 1, l1, l2, M =>
    if (M.1 76 24) = 0 then (
      if (M.1 76 22) = 4 then (
        some ((), M)
      ) else (
        fm_bd (F_X10_line M) (fun v29 M30 =>
        G_X10_text_146 n l1 l2 M30)
      )
    ) else (
      some ((), M)
    )
def F_X10_text (a1 : Int32) (M : fm_M) : Option (Int32 × fm_M) :=
    fm_lt (fm_up M 76 0 0) (fun M1 =>
    if a1 < 0 then (
      some ((-2), M1)
    ) else (
      if a1 ≤ (M1.1 76 2) then (
        fm_lt (fm_up M1 76 19 a1) (fun M2 =>
        fm_lt (fm_up M2 76 2 0) (fun M3 =>
        fm_lt (fm_up M3 76 20 0) (fun M4 =>
        fm_lt (fm_up M4 76 24 0) (fun M5 =>
        fm_lt (fm_up M5 76 25 (-1)) (fun M6 =>
        fm_bd (G_X10_text_47 fm_fuel a1 0 M6) (fun w15 M16 =>
          fm_bd (G_X10_text_96 fm_fuel a1 3 M16) (fun w21 M22 =>
            fm_lt (fm_up M22 76 17 0) (fun M23 =>
            fm_lt (fm_up M23 76 18 0) (fun M24 =>
            fm_lt (fm_up M24 76 28 0) (fun M25 =>
            fm_lt (fm_up M25 76 29 0) (fun M26 =>
            fm_bd (F_X10_token M26) (fun v27 M28 =>
            fm_bd (G_X10_text_146 fm_fuel a1 w21 M28) (fun w31 M32 =>
              fm_lt (fm_up M32 76 26 (M32.1 76 24)) (fun M33 =>
              fm_lt (fm_up M33 76 27 (M33.1 76 25)) (fun M34 =>
              if (M34.1 76 24) = 0 then (
                fm_bd (F_X10_half 78 M34) (fun v35 M36 =>
                fm_bd (F_X10_half 79 M36) (fun v37 M38 =>
                fm_bd (F_X10_half 80 M38) (fun v39 M40 =>
                fm_bd (F_X10_half 81 M40) (fun v41 M42 =>
                fm_bd (F_X10_half 82 M42) (fun v43 M44 =>
                fm_bd (F_X10_half 83 M44) (fun v45 M46 =>
                fm_bd (F_X10_half 84 M46) (fun v47 M48 =>
                fm_bd (F_X10_half 85 M48) (fun v49 M50 =>
                fm_bd (F_X10_half 86 M50) (fun v51 M52 =>
                fm_bd (F_X10_half 87 M52) (fun v53 M54 =>
                fm_bd (F_X10_half 88 M54) (fun v55 M56 =>
                fm_bd (F_X10_half 89 M56) (fun v57 M58 =>
                fm_bd (F_X10_half 90 M58) (fun v59 M60 =>
                fm_bd (F_X10_half 91 M60) (fun v61 M62 =>
                fm_lt (fm_up M62 76 55 0) (fun M63 =>
                fm_lt (fm_up M63 76 56 (-1)) (fun M64 =>
                fm_lt (fm_up M64 76 41 0) (fun M65 =>
                fm_lt (fm_up M65 76 42 0) (fun M66 =>
                fm_bd (F_X10_begins M66) (fun v67 M68 =>
                some ((M68.1 76 18), M68))))))))))))))))))))
              ) else (
                some ((-1), M34)
              ))))))))))))))))
      ) else (
        some ((-2), M1)
      )
    ))
theorem lp_X10_text_47 {d : Nat} {Q : Option Value → fm_M → Prop} {l1 : Int32}   {x : (Int32) × fm_M} (k1 : ∀ (v : Int32) (M2 : fm_M), x = (v, M2) → fm_mw (d + 993) mX10_text Q 94 [some (.ref 76), some (.int l1), some (.int v)] [] M2) : ∀ (n : Nat) (l2 : Int32) (M : fm_M), G_X10_text_47 n l1 l2 M = some x → fm_mw (d + 993) mX10_text Q 47 [some (.ref 76), some (.int l1), some (.int l2)] [] M := by
  intro n
  induction n with
  | zero => intro l2 M h; simp [G_X10_text_47] at h
  | succ n ih =>
    intro l2 M h
    rw [G_X10_text_47] at h
    refine fl_iload2 (pc := 47) dX10_text_47 ?_
    refine fm_bipushv (pc := 48) 10 (by decide) dX10_text_48 ?_
    refine fm_icmp_ge (pc := 50) 94 (by decide) dX10_text_50 (fun c50 => ?_) (fun c50 => ?_)
    · replace h := fm_itp c50 h
      refine fm_fgt [some (.ref 76), some (.int l1), some (.int l2)] (by simp [fm_sub]) ?_
      cases h
      exact k1 _ _ rfl
    · replace h := fm_itn c50 h
      refine fl_aload0 (pc := 53) dX10_text_53 ?_
      refine fl_iload2 (pc := 54) dX10_text_54 ?_
      refine fl_iload2 (pc := 55) dX10_text_55 ?_
      refine fm_iconstv (pc := 56) 2 (by decide) dX10_text_56 ?_
      refine fm_icmp_ne (pc := 57) 65 (by decide) dX10_text_57 (fun c57 => ?_) (fun c57 => ?_)
      · replace h := fm_itn c57 h
        refine fl_iload2 (pc := 65) dX10_text_65 ?_
        refine fm_iconstv (pc := 66) 4 (by decide) dX10_text_66 ?_
        refine fm_icmp_ne (pc := 67) 75 (by decide) dX10_text_67 (fun c67 => ?_) (fun c67 => ?_)
        · replace h := fm_itn c67 h
          refine fl_iload2 (pc := 75) dX10_text_75 ?_
          refine fm_iconstv (pc := 76) 5 (by decide) dX10_text_76 ?_
          refine fm_icmp_ne (pc := 77) 84 (by decide) dX10_text_77 (fun c77 => ?_) (fun c77 => ?_)
          · replace h := fm_itn c77 h
            refine fm_iconstv (pc := 84) 0 (by decide) dX10_text_84 ?_
            obtain ⟨v7, M8, ev7, h⟩ := fm_bdp h
            refine fm_callV (pc := 85) mX10_reads [_, _] _ rfl cvX10_reads ml_10_221 sh_76 rfl rfl (Nat.le_of_ble_eq_true rfl) (Nat.le_of_ble_eq_true rfl) dX10_text_85 ?_
            refine sp_X10_reads ev7 ?_
            refine fm_ret0 ?_
            refine fl_iinc2 (pc := 88) rfl 1 (by decide) (by decide) dX10_text_88 ?_
            refine fm_goto (pc := 91) 47 (by decide) dX10_text_91 ?_
            refine fm_fgt [some (.ref 76), some (.int l1), some (.int (l2 + 1))] (by simp [fm_sub]) ?_
            exact ih _ _ h
          · replace h := fm_itp c77 h
            refine fm_iconstv (pc := 80) 5 (by decide) dX10_text_80 ?_
            refine fm_goto (pc := 81) 85 (by decide) dX10_text_81 ?_
            obtain ⟨v9, M10, ev9, h⟩ := fm_bdp h
            refine fm_callV (pc := 85) mX10_reads [_, _] _ rfl cvX10_reads ml_10_221 sh_76 rfl rfl (Nat.le_of_ble_eq_true rfl) (Nat.le_of_ble_eq_true rfl) dX10_text_85 ?_
            refine sp_X10_reads ev9 ?_
            refine fm_ret0 ?_
            refine fl_iinc2 (pc := 88) rfl 1 (by decide) (by decide) dX10_text_88 ?_
            refine fm_goto (pc := 91) 47 (by decide) dX10_text_91 ?_
            refine fm_fgt [some (.ref 76), some (.int l1), some (.int (l2 + 1))] (by simp [fm_sub]) ?_
            exact ih _ _ h
        · replace h := fm_itp c67 h
          refine fm_bipushv (pc := 70) 100 (by decide) dX10_text_70 ?_
          refine fm_goto (pc := 72) 85 (by decide) dX10_text_72 ?_
          obtain ⟨v11, M12, ev11, h⟩ := fm_bdp h
          refine fm_callV (pc := 85) mX10_reads [_, _] _ rfl cvX10_reads ml_10_221 sh_76 rfl rfl (Nat.le_of_ble_eq_true rfl) (Nat.le_of_ble_eq_true rfl) dX10_text_85 ?_
          refine sp_X10_reads ev11 ?_
          refine fm_ret0 ?_
          refine fl_iinc2 (pc := 88) rfl 1 (by decide) (by decide) dX10_text_88 ?_
          refine fm_goto (pc := 91) 47 (by decide) dX10_text_91 ?_
          refine fm_fgt [some (.ref 76), some (.int l1), some (.int (l2 + 1))] (by simp [fm_sub]) ?_
          exact ih _ _ h
      · replace h := fm_itp c57 h
        refine fm_bipushv (pc := 60) 10 (by decide) dX10_text_60 ?_
        refine fm_goto (pc := 62) 85 (by decide) dX10_text_62 ?_
        obtain ⟨v13, M14, ev13, h⟩ := fm_bdp h
        refine fm_callV (pc := 85) mX10_reads [_, _] _ rfl cvX10_reads ml_10_221 sh_76 rfl rfl (Nat.le_of_ble_eq_true rfl) (Nat.le_of_ble_eq_true rfl) dX10_text_85 ?_
        refine sp_X10_reads ev13 ?_
        refine fm_ret0 ?_
        refine fl_iinc2 (pc := 88) rfl 1 (by decide) (by decide) dX10_text_88 ?_
        refine fm_goto (pc := 91) 47 (by decide) dX10_text_91 ?_
        refine fm_fgt [some (.ref 76), some (.int l1), some (.int (l2 + 1))] (by simp [fm_sub]) ?_
        exact ih _ _ h
theorem lp_X10_text_96 {d : Nat} {Q : Option Value → fm_M → Prop} {l1 : Int32}   {x : (Int32) × fm_M} (k1 : ∀ (v : Int32) (M2 : fm_M), x = (v, M2) → fm_mw (d + 993) mX10_text Q 122 [some (.ref 76), some (.int l1), some (.int v)] [] M2) : ∀ (n : Nat) (l2 : Int32) (M : fm_M), G_X10_text_96 n l1 l2 M = some x → fm_mw (d + 993) mX10_text Q 96 [some (.ref 76), some (.int l1), some (.int l2)] [] M := by
  intro n
  induction n with
  | zero => intro l2 M h; simp [G_X10_text_96] at h
  | succ n ih =>
    intro l2 M h
    rw [G_X10_text_96] at h
    refine fl_iload2 (pc := 96) dX10_text_96 ?_
    refine fm_bipushv (pc := 97) 6 (by decide) dX10_text_97 ?_
    refine fm_icmp_ge (pc := 99) 122 (by decide) dX10_text_99 (fun c99 => ?_) (fun c99 => ?_)
    · replace h := fm_itp c99 h
      refine fm_fgt [some (.ref 76), some (.int l1), some (.int l2)] (by simp [fm_sub]) ?_
      cases h
      exact k1 _ _ rfl
    · replace h := fm_itn c99 h
      refine fl_aload0 (pc := 102) dX10_text_102 ?_
      refine fm_getr (pc := 103) lk_10_43 sh_76 rfl dX10_text_103 ?_
      refine fl_iload2 (pc := 106) dX10_text_106 ?_
      refine fm_iconstv (pc := 107) 0 (by decide) dX10_text_107 ?_
      obtain ⟨g17, h⟩ := fm_gdp h
      refine fm_iast (pc := 108) sh_88 (fm_inb_ok g17) dX10_text_108 ?_
      obtain ⟨M18, eM18, h⟩ := fm_ltp h
      refine fm_cgm eM18 ?_
      refine fl_aload0 (pc := 109) dX10_text_109 ?_
      refine fm_getr (pc := 110) lk_10_46 sh_76 rfl dX10_text_110 ?_
      refine fl_iload2 (pc := 113) dX10_text_113 ?_
      refine fm_iconstv (pc := 114) 0 (by decide) dX10_text_114 ?_
      obtain ⟨g19, h⟩ := fm_gdp h
      refine fm_iast (pc := 115) sh_89 (fm_inb_ok g19) dX10_text_115 ?_
      obtain ⟨M20, eM20, h⟩ := fm_ltp h
      refine fm_cgm eM20 ?_
      refine fl_iinc2 (pc := 116) rfl 1 (by decide) (by decide) dX10_text_116 ?_
      refine fm_goto (pc := 119) 96 (by decide) dX10_text_119 ?_
      refine fm_fgt [some (.ref 76), some (.int l1), some (.int (l2 + 1))] (by simp [fm_sub]) ?_
      exact ih _ _ h
theorem lp_X10_text_146 {d : Nat} {Q : Option Value → fm_M → Prop} {l1 : Int32} {l2 : Int32}   {x : (Unit) × fm_M} (k1 : ∀ (v : Unit) (M2 : fm_M), x = (v, M2) → fm_mw (d + 993) mX10_text Q 168 [some (.ref 76), some (.int l1), some (.int l2)] [] M2) : ∀ (n : Nat)  (M : fm_M), G_X10_text_146 n l1 l2 M = some x → fm_mw (d + 993) mX10_text Q 146 [some (.ref 76), some (.int l1), some (.int l2)] [] M := by
  intro n
  induction n with
  | zero => intro M h; simp [G_X10_text_146] at h
  | succ n ih =>
    intro M h
    rw [G_X10_text_146] at h
    refine fl_aload0 (pc := 146) dX10_text_146 ?_
    refine fm_geti (pc := 147) lk_10_184 sh_76 rfl dX10_text_147 ?_
    refine fm_if_ne (pc := 150) 168 (by decide) dX10_text_150 (fun c150 => ?_) (fun c150 => ?_)
    · replace h := fm_itn c150 h
      refine fm_fgt [some (.ref 76), some (.int l1), some (.int l2)] (by simp [fm_sub]) ?_
      cases h
      exact k1 _ _ rfl
    · replace h := fm_itp c150 h
      refine fl_aload0 (pc := 153) dX10_text_153 ?_
      refine fm_geti (pc := 154) lk_10_149 sh_76 rfl dX10_text_154 ?_
      refine fm_iconstv (pc := 157) 4 (by decide) dX10_text_157 ?_
      refine fm_icmp_eq (pc := 158) 168 (by decide) dX10_text_158 (fun c158 => ?_) (fun c158 => ?_)
      · replace h := fm_itp c158 h
        refine fm_fgt [some (.ref 76), some (.int l1), some (.int l2)] (by simp [fm_sub]) ?_
        cases h
        exact k1 _ _ rfl
      · replace h := fm_itn c158 h
        refine fl_aload0 (pc := 161) dX10_text_161 ?_
        obtain ⟨v29, M30, ev29, h⟩ := fm_bdp h
        refine fm_callV (pc := 162) mX10_line [] _ rfl cvX10_line ml_10_273 sh_76 rfl rfl (Nat.le_of_ble_eq_true rfl) (Nat.le_of_ble_eq_true rfl) dX10_text_162 ?_
        refine sp_X10_line ev29 ?_
        refine fm_ret0 ?_
        refine fm_goto (pc := 165) 146 (by decide) dX10_text_165 ?_
        refine fm_fgt [some (.ref 76), some (.int l1), some (.int l2)] (by simp [fm_sub]) ?_
        exact ih  _ h
theorem sp_X10_text {d : Nat} {a1 : Int32} {M : fm_M} {x : Int32 × fm_M} {Q : Option Value → fm_M → Prop} (h : F_X10_text a1 M = some x) (hq : Q (some (.int x.1)) x.2) : fm_ct (d + 993) mX10_text [.ref 76, .int a1] M Q := by
  rw [F_X10_text] at h
  show fm_mw (d + 993) mX10_text Q 0 [some (.ref 76), some (.int a1), none] [] M
  refine fl_aload0 (pc := 0) dX10_text_0 ?_
  refine fm_iconstv (pc := 1) 0 (by decide) dX10_text_1 ?_
  refine fm_puti (pc := 2) lp_10_130 sh_76 rfl dX10_text_2 ?_
  obtain ⟨M1, eM1, h⟩ := fm_ltp h
  refine fm_cgm eM1 ?_
  refine fl_iload1 (pc := 5) dX10_text_5 ?_
  refine fm_if_lt (pc := 6) 17 (by decide) dX10_text_6 (fun c6 => ?_) (fun c6 => ?_)
  · replace h := fm_itp c6 h
    refine fm_bipushv (pc := 17) (-2) (by decide) dX10_text_17 ?_
    refine fm_iret (pc := 19) rfl ?_ dX10_text_19
    cases h
    exact hq
  · replace h := fm_itn c6 h
    refine fl_iload1 (pc := 9) dX10_text_9 ?_
    refine fl_aload0 (pc := 10) dX10_text_10 ?_
    refine fm_geti (pc := 11) lk_10_133 sh_76 rfl dX10_text_11 ?_
    refine fm_icmp_le (pc := 14) 20 (by decide) dX10_text_14 (fun c14 => ?_) (fun c14 => ?_)
    · replace h := fm_itp c14 h
      refine fl_aload0 (pc := 20) dX10_text_20 ?_
      refine fl_iload1 (pc := 21) dX10_text_21 ?_
      refine fm_puti (pc := 22) lp_10_139 sh_76 rfl dX10_text_22 ?_
      obtain ⟨M2, eM2, h⟩ := fm_ltp h
      refine fm_cgm eM2 ?_
      refine fl_aload0 (pc := 25) dX10_text_25 ?_
      refine fm_iconstv (pc := 26) 0 (by decide) dX10_text_26 ?_
      refine fm_puti (pc := 27) lp_10_133 sh_76 rfl dX10_text_27 ?_
      obtain ⟨M3, eM3, h⟩ := fm_ltp h
      refine fm_cgm eM3 ?_
      refine fl_aload0 (pc := 30) dX10_text_30 ?_
      refine fm_iconstv (pc := 31) 0 (by decide) dX10_text_31 ?_
      refine fm_puti (pc := 32) lp_10_136 sh_76 rfl dX10_text_32 ?_
      obtain ⟨M4, eM4, h⟩ := fm_ltp h
      refine fm_cgm eM4 ?_
      refine fl_aload0 (pc := 35) dX10_text_35 ?_
      refine fm_iconstv (pc := 36) 0 (by decide) dX10_text_36 ?_
      refine fm_puti (pc := 37) lp_10_184 sh_76 rfl dX10_text_37 ?_
      obtain ⟨M5, eM5, h⟩ := fm_ltp h
      refine fm_cgm eM5 ?_
      refine fl_aload0 (pc := 40) dX10_text_40 ?_
      refine fm_iconstv (pc := 41) (-1) (by decide) dX10_text_41 ?_
      refine fm_puti (pc := 42) lp_10_187 sh_76 rfl dX10_text_42 ?_
      obtain ⟨M6, eM6, h⟩ := fm_ltp h
      refine fm_cgm eM6 ?_
      refine fm_iconstv (pc := 45) 0 (by decide) dX10_text_45 ?_
      refine fl_istore2 (pc := 46) rfl (by decide) dX10_text_46 ?_
      obtain ⟨w15, M16, ew15, h⟩ := fm_bdp h
      refine lp_X10_text_47  ?_ _ _ _ ew15
      intro w159 M169 q9
      cases q9
      refine fm_iconstv (pc := 94) 3 (by decide) dX10_text_94 ?_
      refine fl_istore2 (pc := 95) rfl (by decide) dX10_text_95 ?_
      obtain ⟨w21, M22, ew21, h⟩ := fm_bdp h
      refine lp_X10_text_96  ?_ _ _ _ ew21
      intro w219 M229 q9
      cases q9
      refine fl_aload0 (pc := 122) dX10_text_122 ?_
      refine fm_iconstv (pc := 123) 0 (by decide) dX10_text_123 ?_
      refine fm_puti (pc := 124) lp_10_210 sh_76 rfl dX10_text_124 ?_
      obtain ⟨M23, eM23, h⟩ := fm_ltp h
      refine fm_cgm eM23 ?_
      refine fl_aload0 (pc := 127) dX10_text_127 ?_
      refine fm_iconstv (pc := 128) 0 (by decide) dX10_text_128 ?_
      refine fm_puti (pc := 129) lp_10_234 sh_76 rfl dX10_text_129 ?_
      obtain ⟨M24, eM24, h⟩ := fm_ltp h
      refine fm_cgm eM24 ?_
      refine fl_aload0 (pc := 132) dX10_text_132 ?_
      refine fm_iconstv (pc := 133) 0 (by decide) dX10_text_133 ?_
      refine fm_puti (pc := 134) lp_10_270 sh_76 rfl dX10_text_134 ?_
      obtain ⟨M25, eM25, h⟩ := fm_ltp h
      refine fm_cgm eM25 ?_
      refine fl_aload0 (pc := 137) dX10_text_137 ?_
      refine fm_iconstv (pc := 138) 0 (by decide) dX10_text_138 ?_
      refine fm_puti (pc := 139) lp_10_243 sh_76 rfl dX10_text_139 ?_
      obtain ⟨M26, eM26, h⟩ := fm_ltp h
      refine fm_cgm eM26 ?_
      refine fl_aload0 (pc := 142) dX10_text_142 ?_
      obtain ⟨v27, M28, ev27, h⟩ := fm_bdp h
      refine fm_callV (pc := 143) mX10_token [] _ rfl cvX10_token ml_10_190 sh_76 rfl rfl (Nat.le_of_ble_eq_true rfl) (Nat.le_of_ble_eq_true rfl) dX10_text_143 ?_
      refine sp_X10_token ev27 ?_
      refine fm_ret0 ?_
      obtain ⟨w31, M32, ew31, h⟩ := fm_bdp h
      refine lp_X10_text_146  ?_ _  _ ew31
      intro w319 M329 q9
      cases q9
      refine fl_aload0 (pc := 168) dX10_text_168 ?_
      refine fl_aload0 (pc := 169) dX10_text_169 ?_
      refine fm_geti (pc := 170) lk_10_184 sh_76 rfl dX10_text_170 ?_
      refine fm_puti (pc := 173) lp_10_276 sh_76 rfl dX10_text_173 ?_
      obtain ⟨M33, eM33, h⟩ := fm_ltp h
      refine fm_cgm eM33 ?_
      refine fl_aload0 (pc := 176) dX10_text_176 ?_
      refine fl_aload0 (pc := 177) dX10_text_177 ?_
      refine fm_geti (pc := 178) lk_10_187 sh_76 rfl dX10_text_178 ?_
      refine fm_puti (pc := 181) lp_10_55 sh_76 rfl dX10_text_181 ?_
      obtain ⟨M34, eM34, h⟩ := fm_ltp h
      refine fm_cgm eM34 ?_
      refine fl_aload0 (pc := 184) dX10_text_184 ?_
      refine fm_geti (pc := 185) lk_10_184 sh_76 rfl dX10_text_185 ?_
      refine fm_if_eq (pc := 188) 193 (by decide) dX10_text_188 (fun c188 => ?_) (fun c188 => ?_)
      · replace h := fm_itp c188 h
        refine fl_aload0 (pc := 193) dX10_text_193 ?_
        refine fm_getr (pc := 194) lk_10_13 sh_76 rfl dX10_text_194 ?_
        obtain ⟨v35, M36, ev35, h⟩ := fm_bdp h
        refine fm_callS (pc := 197) mX10_half [_] _ rfl csX10_half ml_10_279 rfl (Nat.le_of_ble_eq_true rfl) (Nat.le_of_ble_eq_true rfl) dX10_text_197 ?_
        refine sp_X10_half ev35 ?_
        refine fm_ret0 ?_
        refine fl_aload0 (pc := 200) dX10_text_200 ?_
        refine fm_getr (pc := 201) lk_10_16 sh_76 rfl dX10_text_201 ?_
        obtain ⟨v37, M38, ev37, h⟩ := fm_bdp h
        refine fm_callS (pc := 204) mX10_half [_] _ rfl csX10_half ml_10_279 rfl (Nat.le_of_ble_eq_true rfl) (Nat.le_of_ble_eq_true rfl) dX10_text_204 ?_
        refine sp_X10_half ev37 ?_
        refine fm_ret0 ?_
        refine fl_aload0 (pc := 207) dX10_text_207 ?_
        refine fm_getr (pc := 208) lk_10_19 sh_76 rfl dX10_text_208 ?_
        obtain ⟨v39, M40, ev39, h⟩ := fm_bdp h
        refine fm_callS (pc := 211) mX10_half [_] _ rfl csX10_half ml_10_279 rfl (Nat.le_of_ble_eq_true rfl) (Nat.le_of_ble_eq_true rfl) dX10_text_211 ?_
        refine sp_X10_half ev39 ?_
        refine fm_ret0 ?_
        refine fl_aload0 (pc := 214) dX10_text_214 ?_
        refine fm_getr (pc := 215) lk_10_22 sh_76 rfl dX10_text_215 ?_
        obtain ⟨v41, M42, ev41, h⟩ := fm_bdp h
        refine fm_callS (pc := 218) mX10_half [_] _ rfl csX10_half ml_10_279 rfl (Nat.le_of_ble_eq_true rfl) (Nat.le_of_ble_eq_true rfl) dX10_text_218 ?_
        refine sp_X10_half ev41 ?_
        refine fm_ret0 ?_
        refine fl_aload0 (pc := 221) dX10_text_221 ?_
        refine fm_getr (pc := 222) lk_10_25 sh_76 rfl dX10_text_222 ?_
        obtain ⟨v43, M44, ev43, h⟩ := fm_bdp h
        refine fm_callS (pc := 225) mX10_half [_] _ rfl csX10_half ml_10_279 rfl (Nat.le_of_ble_eq_true rfl) (Nat.le_of_ble_eq_true rfl) dX10_text_225 ?_
        refine sp_X10_half ev43 ?_
        refine fm_ret0 ?_
        refine fl_aload0 (pc := 228) dX10_text_228 ?_
        refine fm_getr (pc := 229) lk_10_28 sh_76 rfl dX10_text_229 ?_
        obtain ⟨v45, M46, ev45, h⟩ := fm_bdp h
        refine fm_callS (pc := 232) mX10_half [_] _ rfl csX10_half ml_10_279 rfl (Nat.le_of_ble_eq_true rfl) (Nat.le_of_ble_eq_true rfl) dX10_text_232 ?_
        refine sp_X10_half ev45 ?_
        refine fm_ret0 ?_
        refine fl_aload0 (pc := 235) dX10_text_235 ?_
        refine fm_getr (pc := 236) lk_10_31 sh_76 rfl dX10_text_236 ?_
        obtain ⟨v47, M48, ev47, h⟩ := fm_bdp h
        refine fm_callS (pc := 239) mX10_half [_] _ rfl csX10_half ml_10_279 rfl (Nat.le_of_ble_eq_true rfl) (Nat.le_of_ble_eq_true rfl) dX10_text_239 ?_
        refine sp_X10_half ev47 ?_
        refine fm_ret0 ?_
        refine fl_aload0 (pc := 242) dX10_text_242 ?_
        refine fm_getr (pc := 243) lk_10_34 sh_76 rfl dX10_text_243 ?_
        obtain ⟨v49, M50, ev49, h⟩ := fm_bdp h
        refine fm_callS (pc := 246) mX10_half [_] _ rfl csX10_half ml_10_279 rfl (Nat.le_of_ble_eq_true rfl) (Nat.le_of_ble_eq_true rfl) dX10_text_246 ?_
        refine sp_X10_half ev49 ?_
        refine fm_ret0 ?_
        refine fl_aload0 (pc := 249) dX10_text_249 ?_
        refine fm_getr (pc := 250) lk_10_37 sh_76 rfl dX10_text_250 ?_
        obtain ⟨v51, M52, ev51, h⟩ := fm_bdp h
        refine fm_callS (pc := 253) mX10_half [_] _ rfl csX10_half ml_10_279 rfl (Nat.le_of_ble_eq_true rfl) (Nat.le_of_ble_eq_true rfl) dX10_text_253 ?_
        refine sp_X10_half ev51 ?_
        refine fm_ret0 ?_
        refine fl_aload0 (pc := 256) dX10_text_256 ?_
        refine fm_getr (pc := 257) lk_10_40 sh_76 rfl dX10_text_257 ?_
        obtain ⟨v53, M54, ev53, h⟩ := fm_bdp h
        refine fm_callS (pc := 260) mX10_half [_] _ rfl csX10_half ml_10_279 rfl (Nat.le_of_ble_eq_true rfl) (Nat.le_of_ble_eq_true rfl) dX10_text_260 ?_
        refine sp_X10_half ev53 ?_
        refine fm_ret0 ?_
        refine fl_aload0 (pc := 263) dX10_text_263 ?_
        refine fm_getr (pc := 264) lk_10_43 sh_76 rfl dX10_text_264 ?_
        obtain ⟨v55, M56, ev55, h⟩ := fm_bdp h
        refine fm_callS (pc := 267) mX10_half [_] _ rfl csX10_half ml_10_279 rfl (Nat.le_of_ble_eq_true rfl) (Nat.le_of_ble_eq_true rfl) dX10_text_267 ?_
        refine sp_X10_half ev55 ?_
        refine fm_ret0 ?_
        refine fl_aload0 (pc := 270) dX10_text_270 ?_
        refine fm_getr (pc := 271) lk_10_46 sh_76 rfl dX10_text_271 ?_
        obtain ⟨v57, M58, ev57, h⟩ := fm_bdp h
        refine fm_callS (pc := 274) mX10_half [_] _ rfl csX10_half ml_10_279 rfl (Nat.le_of_ble_eq_true rfl) (Nat.le_of_ble_eq_true rfl) dX10_text_274 ?_
        refine sp_X10_half ev57 ?_
        refine fm_ret0 ?_
        refine fl_aload0 (pc := 277) dX10_text_277 ?_
        refine fm_getr (pc := 278) lk_10_49 sh_76 rfl dX10_text_278 ?_
        obtain ⟨v59, M60, ev59, h⟩ := fm_bdp h
        refine fm_callS (pc := 281) mX10_half [_] _ rfl csX10_half ml_10_279 rfl (Nat.le_of_ble_eq_true rfl) (Nat.le_of_ble_eq_true rfl) dX10_text_281 ?_
        refine sp_X10_half ev59 ?_
        refine fm_ret0 ?_
        refine fl_aload0 (pc := 284) dX10_text_284 ?_
        refine fm_getr (pc := 285) lk_10_52 sh_76 rfl dX10_text_285 ?_
        obtain ⟨v61, M62, ev61, h⟩ := fm_bdp h
        refine fm_callS (pc := 288) mX10_half [_] _ rfl csX10_half ml_10_279 rfl (Nat.le_of_ble_eq_true rfl) (Nat.le_of_ble_eq_true rfl) dX10_text_288 ?_
        refine sp_X10_half ev61 ?_
        refine fm_ret0 ?_
        refine fl_aload0 (pc := 291) dX10_text_291 ?_
        refine fm_iconstv (pc := 292) 0 (by decide) dX10_text_292 ?_
        refine fm_puti (pc := 293) lp_10_283 sh_76 rfl dX10_text_293 ?_
        obtain ⟨M63, eM63, h⟩ := fm_ltp h
        refine fm_cgm eM63 ?_
        refine fl_aload0 (pc := 296) dX10_text_296 ?_
        refine fm_iconstv (pc := 297) (-1) (by decide) dX10_text_297 ?_
        refine fm_puti (pc := 298) lp_10_111 sh_76 rfl dX10_text_298 ?_
        obtain ⟨M64, eM64, h⟩ := fm_ltp h
        refine fm_cgm eM64 ?_
        refine fl_aload0 (pc := 301) dX10_text_301 ?_
        refine fm_iconstv (pc := 302) 0 (by decide) dX10_text_302 ?_
        refine fm_putz (pc := 303) (by decide) lp_10_286 sh_76 rfl dX10_text_303 ?_
        obtain ⟨M65, eM65, h⟩ := fm_ltp h
        refine fm_cgm eM65 ?_
        refine fl_aload0 (pc := 306) dX10_text_306 ?_
        refine fm_iconstv (pc := 307) 0 (by decide) dX10_text_307 ?_
        refine fm_puti (pc := 308) lp_10_290 sh_76 rfl dX10_text_308 ?_
        obtain ⟨M66, eM66, h⟩ := fm_ltp h
        refine fm_cgm eM66 ?_
        refine fl_aload0 (pc := 311) dX10_text_311 ?_
        obtain ⟨v67, M68, ev67, h⟩ := fm_bdp h
        refine fm_callV (pc := 312) mX10_begins [] _ rfl cvX10_begins ml_10_127 sh_76 rfl rfl (Nat.le_of_ble_eq_true rfl) (Nat.le_of_ble_eq_true rfl) dX10_text_312 ?_
        refine sp_X10_begins ev67 ?_
        refine fm_ret0 ?_
        refine fl_aload0 (pc := 315) dX10_text_315 ?_
        refine fm_geti (pc := 316) lk_10_234 sh_76 rfl dX10_text_316 ?_
        refine fm_iret (pc := 319) rfl ?_ dX10_text_319
        cases h
        exact hq
      · replace h := fm_itn c188 h
        refine fm_iconstv (pc := 191) (-1) (by decide) dX10_text_191 ?_
        refine fm_iret (pc := 192) rfl ?_ dX10_text_192
        cases h
        exact hq
    · replace h := fm_itn c14 h
      refine fm_bipushv (pc := 17) (-2) (by decide) dX10_text_17 ?_
      refine fm_iret (pc := 19) rfl ?_ dX10_text_19
      cases h
      exact hq
