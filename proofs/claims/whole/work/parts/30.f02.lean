/-! X8_wetOn -/
def F_X8_wetOn (a0 : Nat) (a1 : Int32) (M : fm_M) : Option (Int32 × fm_M) :=
    fm_gd (fm_isTd a0) (
    if (M.1 a0 11) < 1 then (
      some (0, M)
    ) else (
      if 8 < (M.1 a0 11) then (
        some (0, M)
      ) else (
        if 0 ≤ a1 then (
          fm_gd (fm_nz (M.1 a0 11)) (
          fm_gd (fm_inb (i_rem a1 (M.1 a0 11)) 8) (
          some ((M.1 (a0 + 9) (Int32.toNatClampNeg (i_rem a1 (M.1 a0 11)))), M)))
        ) else (
          some (0, M)
        )
      )
    ))
theorem sp_X8_wetOn {d : Nat} {a0 : Nat} {a1 : Int32} {M : fm_M} {x : Int32 × fm_M} {Q : Option Value → fm_M → Prop} (h : F_X8_wetOn a0 a1 M = some x) (hq : Q (some (.int x.1)) x.2) : fm_ct d mX8_wetOn [.ref a0, .int a1] M Q := by
  rw [F_X8_wetOn] at h
  show fm_mw d mX8_wetOn Q 0 [some (.ref a0), some (.int a1)] [] M
  obtain ⟨ga0, h⟩ := fm_gdp h
  refine fl_aload0 (pc := 0) dX8_wetOn_0 ?_
  refine fm_geti (pc := 1) lk_8_65 (shTd0 ga0) rfl dX8_wetOn_1 ?_
  refine fm_iconstv (pc := 4) 1 (by decide) dX8_wetOn_4 ?_
  refine fm_icmp_lt (pc := 5) 21 (by decide) dX8_wetOn_5 (fun c5 => ?_) (fun c5 => ?_)
  · replace h := fm_itp c5 h
    refine fm_iconstv (pc := 21) 0 (by decide) dX8_wetOn_21 ?_
    refine fm_iret (pc := 22) rfl ?_ dX8_wetOn_22
    cases h
    exact hq
  · replace h := fm_itn c5 h
    refine fl_aload0 (pc := 8) dX8_wetOn_8 ?_
    refine fm_geti (pc := 9) lk_8_65 (shTd0 ga0) rfl dX8_wetOn_9 ?_
    refine fm_bipushv (pc := 12) 8 (by decide) dX8_wetOn_12 ?_
    refine fm_icmp_gt (pc := 14) 21 (by decide) dX8_wetOn_14 (fun c14 => ?_) (fun c14 => ?_)
    · replace h := fm_itp c14 h
      refine fm_iconstv (pc := 21) 0 (by decide) dX8_wetOn_21 ?_
      refine fm_iret (pc := 22) rfl ?_ dX8_wetOn_22
      cases h
      exact hq
    · replace h := fm_itn c14 h
      refine fl_iload1 (pc := 17) dX8_wetOn_17 ?_
      refine fm_if_ge (pc := 18) 23 (by decide) dX8_wetOn_18 (fun c18 => ?_) (fun c18 => ?_)
      · replace h := fm_itp c18 h
        refine fl_aload0 (pc := 23) dX8_wetOn_23 ?_
        refine fm_getr (pc := 24) lk_8_36 (shTd0 ga0) rfl dX8_wetOn_24 ?_
        refine fl_iload1 (pc := 27) dX8_wetOn_27 ?_
        refine fl_aload0 (pc := 28) dX8_wetOn_28 ?_
        refine fm_geti (pc := 29) lk_8_65 (shTd0 ga0) rfl dX8_wetOn_29 ?_
        obtain ⟨g1, h⟩ := fm_gdp h
        refine fq_irem (pc := 32) (fm_nz_ok g1) dX8_wetOn_32 ?_
        obtain ⟨g2, h⟩ := fm_gdp h
        refine fm_iald (pc := 33) (shTd9 ga0) (fm_inb_ok g2) dX8_wetOn_33 ?_
        refine fm_iret (pc := 34) rfl ?_ dX8_wetOn_34
        cases h
        exact hq
      · replace h := fm_itn c18 h
        refine fm_iconstv (pc := 21) 0 (by decide) dX8_wetOn_21 ?_
        refine fm_iret (pc := 22) rfl ?_ dX8_wetOn_22
        cases h
        exact hq
/-! X5_seek -/
def G_X5_seek_13 : Nat → Nat → Nat → Int32 → Int32 → fm_M → Option ((Int32) × fm_M)
  | 0, _, _, _, _, _ => none
  | n + 1, a1, a2, l3, l4, M =>
    if (M.1 a1 7) ≤ l4 then (
      some (l4, M)
    ) else (
      if 4 ≤ (M.1 73 2) then (
        some (l4, M)
      ) else (
        fm_gd (fm_inb l4 10) (
        if (M.1 (a2 + 4) (Int32.toNatClampNeg l4)) = (-1) then (
          fm_gd (fm_inb (M.1 73 2) 4) (
          fm_lt (fm_up M 74 (Int32.toNatClampNeg (M.1 73 2)) l4) (fun M5 =>
          fm_gd (fm_inb (M5.1 73 2) 4) (
          fm_lt (fm_up M5 75 (Int32.toNatClampNeg (M5.1 73 2)) (-1)) (fun M7 =>
          fm_gd (fm_inb l4 10) (
          fm_lt (fm_up M7 (a2 + 3) (Int32.toNatClampNeg l4) (-1)) (fun M9 =>
          fm_lt (fm_up M9 73 2 ((M9.1 73 2) + 1)) (fun M10 =>
          G_X5_seek_13 n a1 a2 l3 (l4 + 1) M10)))))))
        ) else (
          G_X5_seek_13 n a1 a2 l3 (l4 + 1) M
        ))
      )
    )
def G_X5_seek_98 : Nat → Nat → Nat → Int32 → Int32 → Int32 → fm_M → Option ((Int32) × fm_M)
  | 0, _, _, _, _, _, _ => none
  | n + 1, a1, a2, l3, l4, l5, M =>
    if (M.1 73 2) ≤ l5 then (
      some (l5, M)
    ) else (
      fm_gd (fm_inb l5 4) (
      if (M.1 75 (Int32.toNatClampNeg l5)) = (-1) then (
        fm_gd (fm_inb l5 4) (
        fm_gd (fm_inb (M.1 74 (Int32.toNatClampNeg l5)) 10) (
        fm_bd (F_X7_carries a2 a1 (M.1 (a1 + 7) (Int32.toNatClampNeg (M.1 74 (Int32.toNatClampNeg l5)))) M) (fun v16 M17 =>
        if v16 = 0 then (
          G_X5_seek_98 n a1 a2 l3 l4 (l5 + 1) M17
        ) else (
          fm_gd (fm_inb l5 4) (
          fm_lt (fm_up M17 75 (Int32.toNatClampNeg l5) l4) (fun M19 =>
          fm_lt (fm_up M19 73 3 ((M19.1 73 3) + 1)) (fun M20 =>
          G_X5_seek_98 n a1 a2 l3 l4 (l5 + 1) M20)))
        ))))
      ) else (
        G_X5_seek_98 n a1 a2 l3 l4 (l5 + 1) M
      ))
    )
def G_X5_seek_89 : Nat → Nat → Nat → Int32 → Int32 → fm_M → Option ((Int32) × fm_M)
  | 0, _, _, _, _, _ => none
  | n + 1, a1, a2, l3, l4, M =>
    if l3 ≤ l4 then (
      some (l4, M)
    ) else (
      fm_bd (G_X5_seek_98 fm_fuel a1 a2 l3 l4 0 M) (fun w21 M22 =>
        fm_bd (F_X7_passDay a2 a1 M22) (fun v23 M24 =>
        fm_bd (F_X8_wetOn a1 (M24.1 a2 0) M24) (fun v25 M26 =>
        fm_lt (fm_up M26 a2 1 v25) (fun M27 =>
        G_X5_seek_89 n a1 a2 l3 (l4 + 1) M27))))
    )
def F_X5_seek (a1 : Nat) (a2 : Nat) (a3 : Int32) (M : fm_M) : Option (Unit × fm_M) :=
    fm_gd (fm_isTd a1) (
    fm_gd (fm_isSt a2) (
    fm_lt (fm_up M 73 2 0) (fun M1 =>
    fm_lt (fm_up M1 73 3 0) (fun M2 =>
    fm_bd (G_X5_seek_13 fm_fuel a1 a2 a3 0 M2) (fun w11 M12 =>
      fm_bd (G_X5_seek_89 fm_fuel a1 a2 a3 0 M12) (fun w28 M29 =>
        some ((), M29)))))))
theorem lp_X5_seek_13 {d : Nat} {Q : Option Value → fm_M → Prop} {l3 : Int32} {a1 : Nat} {a2 : Nat} (ga1 : fm_isTd a1 = true) (ga2 : fm_isSt a2 = true) {x : (Int32) × fm_M} (k1 : ∀ (v : Int32) (M2 : fm_M), x = (v, M2) → fm_mw (d + 6) mX5_seek Q 86 [some (.ref 73), some (.ref a1), some (.ref a2), some (.int l3), some (.int v), none] [] M2) : ∀ (n : Nat) (l4 : Int32) (M : fm_M), G_X5_seek_13 n a1 a2 l3 l4 M = some x → fm_mw (d + 6) mX5_seek Q 13 [some (.ref 73), some (.ref a1), some (.ref a2), some (.int l3), some (.int l4), none] [] M := by
  intro n
  induction n with
  | zero => intro l4 M h; simp [G_X5_seek_13] at h
  | succ n ih =>
    intro l4 M h
    rw [G_X5_seek_13] at h
    refine fl_iload4 (pc := 13) dX5_seek_13 ?_
    refine fl_aload1 (pc := 15) dX5_seek_15 ?_
    refine fm_geti (pc := 16) lk_5_25 (shTd0 ga1) rfl dX5_seek_16 ?_
    refine fm_icmp_ge (pc := 19) 86 (by decide) dX5_seek_19 (fun c19 => ?_) (fun c19 => ?_)
    · replace h := fm_itp c19 h
      refine fm_fgt [some (.ref 73), some (.ref a1), some (.ref a2), some (.int l3), some (.int l4), none] (by simp [fm_sub]) ?_
      cases h
      exact k1 _ _ rfl
    · replace h := fm_itn c19 h
      refine fl_aload0 (pc := 22) dX5_seek_22 ?_
      refine fm_geti (pc := 23) lk_5_18 sh_73 rfl dX5_seek_23 ?_
      refine fm_iconstv (pc := 26) 4 (by decide) dX5_seek_26 ?_
      refine fm_icmp_ge (pc := 27) 86 (by decide) dX5_seek_27 (fun c27 => ?_) (fun c27 => ?_)
      · replace h := fm_itp c27 h
        refine fm_fgt [some (.ref 73), some (.ref a1), some (.ref a2), some (.int l3), some (.int l4), none] (by simp [fm_sub]) ?_
        cases h
        exact k1 _ _ rfl
      · replace h := fm_itn c27 h
        refine fl_aload2 (pc := 30) dX5_seek_30 ?_
        refine fm_getr (pc := 31) lk_5_29 (shSt0 ga2) rfl dX5_seek_31 ?_
        refine fl_iload4 (pc := 34) dX5_seek_34 ?_
        obtain ⟨g3, h⟩ := fm_gdp h
        refine fm_iald (pc := 36) (shSt4 ga2) (fm_inb_ok g3) dX5_seek_36 ?_
        refine fm_iconstv (pc := 37) (-1) (by decide) dX5_seek_37 ?_
        refine fm_icmp_ne (pc := 38) 80 (by decide) dX5_seek_38 (fun c38 => ?_) (fun c38 => ?_)
        · replace h := fm_itn c38 h
          refine fl_iinc4 (pc := 80) rfl 1 (by decide) (by decide) dX5_seek_80 ?_
          refine fm_goto (pc := 83) 13 (by decide) dX5_seek_83 ?_
          refine fm_fgt [some (.ref 73), some (.ref a1), some (.ref a2), some (.int l3), some (.int (l4 + 1)), none] (by simp [fm_sub]) ?_
          exact ih _ _ h
        · replace h := fm_itp c38 h
          refine fl_aload0 (pc := 41) dX5_seek_41 ?_
          refine fm_getr (pc := 42) lk_5_11 sh_73 rfl dX5_seek_42 ?_
          refine fl_aload0 (pc := 45) dX5_seek_45 ?_
          refine fm_geti (pc := 46) lk_5_18 sh_73 rfl dX5_seek_46 ?_
          refine fl_iload4 (pc := 49) dX5_seek_49 ?_
          obtain ⟨g4, h⟩ := fm_gdp h
          refine fm_iast (pc := 51) sh_74 (fm_inb_ok g4) dX5_seek_51 ?_
          obtain ⟨M5, eM5, h⟩ := fm_ltp h
          refine fm_cgm eM5 ?_
          refine fl_aload0 (pc := 52) dX5_seek_52 ?_
          refine fm_getr (pc := 53) lk_5_15 sh_73 rfl dX5_seek_53 ?_
          refine fl_aload0 (pc := 56) dX5_seek_56 ?_
          refine fm_geti (pc := 57) lk_5_18 sh_73 rfl dX5_seek_57 ?_
          refine fm_iconstv (pc := 60) (-1) (by decide) dX5_seek_60 ?_
          obtain ⟨g6, h⟩ := fm_gdp h
          refine fm_iast (pc := 61) sh_75 (fm_inb_ok g6) dX5_seek_61 ?_
          obtain ⟨M7, eM7, h⟩ := fm_ltp h
          refine fm_cgm eM7 ?_
          refine fl_aload2 (pc := 62) dX5_seek_62 ?_
          refine fm_getr (pc := 63) lk_5_34 (shSt0 ga2) rfl dX5_seek_63 ?_
          refine fl_iload4 (pc := 66) dX5_seek_66 ?_
          refine fm_iconstv (pc := 68) (-1) (by decide) dX5_seek_68 ?_
          obtain ⟨g8, h⟩ := fm_gdp h
          refine fm_iast (pc := 69) (shSt3 ga2) (fm_inb_ok g8) dX5_seek_69 ?_
          obtain ⟨M9, eM9, h⟩ := fm_ltp h
          refine fm_cgm eM9 ?_
          refine fl_aload0 (pc := 70) dX5_seek_70 ?_
          refine fm_dup (pc := 71) rfl dX5_seek_71 ?_
          refine fm_geti (pc := 72) lk_5_18 sh_73 rfl dX5_seek_72 ?_
          refine fm_iconstv (pc := 75) 1 (by decide) dX5_seek_75 ?_
          refine fm_iadd (pc := 76) dX5_seek_76 ?_
          refine fm_puti (pc := 77) lp_5_18 sh_73 rfl dX5_seek_77 ?_
          obtain ⟨M10, eM10, h⟩ := fm_ltp h
          refine fm_cgm eM10 ?_
          refine fl_iinc4 (pc := 80) rfl 1 (by decide) (by decide) dX5_seek_80 ?_
          refine fm_goto (pc := 83) 13 (by decide) dX5_seek_83 ?_
          refine fm_fgt [some (.ref 73), some (.ref a1), some (.ref a2), some (.int l3), some (.int (l4 + 1)), none] (by simp [fm_sub]) ?_
          exact ih _ _ h
theorem lp_X5_seek_98 {d : Nat} {Q : Option Value → fm_M → Prop} {l3 : Int32} {l4 : Int32} {a1 : Nat} {a2 : Nat} (ga1 : fm_isTd a1 = true) (ga2 : fm_isSt a2 = true) {x : (Int32) × fm_M} (k1 : ∀ (v : Int32) (M2 : fm_M), x = (v, M2) → fm_mw (d + 6) mX5_seek Q 163 [some (.ref 73), some (.ref a1), some (.ref a2), some (.int l3), some (.int l4), some (.int v)] [] M2) : ∀ (n : Nat) (l5 : Int32) (M : fm_M), G_X5_seek_98 n a1 a2 l3 l4 l5 M = some x → fm_mw (d + 6) mX5_seek Q 98 [some (.ref 73), some (.ref a1), some (.ref a2), some (.int l3), some (.int l4), some (.int l5)] [] M := by
  intro n
  induction n with
  | zero => intro l5 M h; simp [G_X5_seek_98] at h
  | succ n ih =>
    intro l5 M h
    rw [G_X5_seek_98] at h
    refine fl_iload5 (pc := 98) dX5_seek_98 ?_
    refine fl_aload0 (pc := 100) dX5_seek_100 ?_
    refine fm_geti (pc := 101) lk_5_18 sh_73 rfl dX5_seek_101 ?_
    refine fm_icmp_ge (pc := 104) 163 (by decide) dX5_seek_104 (fun c104 => ?_) (fun c104 => ?_)
    · replace h := fm_itp c104 h
      refine fm_fgt [some (.ref 73), some (.ref a1), some (.ref a2), some (.int l3), some (.int l4), some (.int l5)] (by simp [fm_sub]) ?_
      cases h
      exact k1 _ _ rfl
    · replace h := fm_itn c104 h
      refine fl_aload0 (pc := 107) dX5_seek_107 ?_
      refine fm_getr (pc := 108) lk_5_15 sh_73 rfl dX5_seek_108 ?_
      refine fl_iload5 (pc := 111) dX5_seek_111 ?_
      obtain ⟨g13, h⟩ := fm_gdp h
      refine fm_iald (pc := 113) sh_75 (fm_inb_ok g13) dX5_seek_113 ?_
      refine fm_iconstv (pc := 114) (-1) (by decide) dX5_seek_114 ?_
      refine fm_icmp_ne (pc := 115) 157 (by decide) dX5_seek_115 (fun c115 => ?_) (fun c115 => ?_)
      · replace h := fm_itn c115 h
        refine fl_iinc5 (pc := 157) rfl 1 (by decide) (by decide) dX5_seek_157 ?_
        refine fm_goto (pc := 160) 98 (by decide) dX5_seek_160 ?_
        refine fm_fgt [some (.ref 73), some (.ref a1), some (.ref a2), some (.int l3), some (.int l4), some (.int (l5 + 1))] (by simp [fm_sub]) ?_
        exact ih _ _ h
      · replace h := fm_itp c115 h
        refine fl_aload2 (pc := 118) dX5_seek_118 ?_
        refine fl_aload1 (pc := 119) dX5_seek_119 ?_
        refine fl_aload1 (pc := 120) dX5_seek_120 ?_
        refine fm_getr (pc := 121) lk_5_37 (shTd0 ga1) rfl dX5_seek_121 ?_
        refine fl_aload0 (pc := 124) dX5_seek_124 ?_
        refine fm_getr (pc := 125) lk_5_11 sh_73 rfl dX5_seek_125 ?_
        refine fl_iload5 (pc := 128) dX5_seek_128 ?_
        obtain ⟨g14, h⟩ := fm_gdp h
        refine fm_iald (pc := 130) sh_74 (fm_inb_ok g14) dX5_seek_130 ?_
        obtain ⟨g15, h⟩ := fm_gdp h
        refine fm_iald (pc := 131) (shTd7 ga1) (fm_inb_ok g15) dX5_seek_131 ?_
        obtain ⟨v16, M17, ev16, h⟩ := fm_bdp h
        refine fm_callV (pc := 132) mX7_carries [_, _] _ rfl cvX7_carries ml_5_40 (shSt0 ga2) rfl rfl (Nat.le_of_ble_eq_true rfl) (Nat.le_of_ble_eq_true rfl) dX5_seek_132 ?_
        refine sp_X7_carries ev16 ?_
        refine fm_ret1 ?_
        refine fm_if_eq (pc := 135) 157 (by decide) dX5_seek_135 (fun c135 => ?_) (fun c135 => ?_)
        · replace h := fm_itp c135 h
          refine fl_iinc5 (pc := 157) rfl 1 (by decide) (by decide) dX5_seek_157 ?_
          refine fm_goto (pc := 160) 98 (by decide) dX5_seek_160 ?_
          refine fm_fgt [some (.ref 73), some (.ref a1), some (.ref a2), some (.int l3), some (.int l4), some (.int (l5 + 1))] (by simp [fm_sub]) ?_
          exact ih _ _ h
        · replace h := fm_itn c135 h
          refine fl_aload0 (pc := 138) dX5_seek_138 ?_
          refine fm_getr (pc := 139) lk_5_15 sh_73 rfl dX5_seek_139 ?_
          refine fl_iload5 (pc := 142) dX5_seek_142 ?_
          refine fl_iload4 (pc := 144) dX5_seek_144 ?_
          obtain ⟨g18, h⟩ := fm_gdp h
          refine fm_iast (pc := 146) sh_75 (fm_inb_ok g18) dX5_seek_146 ?_
          obtain ⟨M19, eM19, h⟩ := fm_ltp h
          refine fm_cgm eM19 ?_
          refine fl_aload0 (pc := 147) dX5_seek_147 ?_
          refine fm_dup (pc := 148) rfl dX5_seek_148 ?_
          refine fm_geti (pc := 149) lk_5_22 sh_73 rfl dX5_seek_149 ?_
          refine fm_iconstv (pc := 152) 1 (by decide) dX5_seek_152 ?_
          refine fm_iadd (pc := 153) dX5_seek_153 ?_
          refine fm_puti (pc := 154) lp_5_22 sh_73 rfl dX5_seek_154 ?_
          obtain ⟨M20, eM20, h⟩ := fm_ltp h
          refine fm_cgm eM20 ?_
          refine fl_iinc5 (pc := 157) rfl 1 (by decide) (by decide) dX5_seek_157 ?_
          refine fm_goto (pc := 160) 98 (by decide) dX5_seek_160 ?_
          refine fm_fgt [some (.ref 73), some (.ref a1), some (.ref a2), some (.int l3), some (.int l4), some (.int (l5 + 1))] (by simp [fm_sub]) ?_
          exact ih _ _ h
theorem lp_X5_seek_89 {d : Nat} {Q : Option Value → fm_M → Prop} {l3 : Int32} {a1 : Nat} {a2 : Nat} (ga1 : fm_isTd a1 = true) (ga2 : fm_isSt a2 = true) {x : (Int32) × fm_M} (k1 : ∀ (v : Int32) (M2 : fm_M), x = (v, M2) → fm_mw (d + 6) mX5_seek Q 186 [some (.ref 73), some (.ref a1), some (.ref a2), some (.int l3), some (.int v), none] [] M2) : ∀ (n : Nat) (l4 : Int32) (M : fm_M), G_X5_seek_89 n a1 a2 l3 l4 M = some x → fm_mw (d + 6) mX5_seek Q 89 [some (.ref 73), some (.ref a1), some (.ref a2), some (.int l3), some (.int l4), none] [] M := by
  intro n
  induction n with
  | zero => intro l4 M h; simp [G_X5_seek_89] at h
  | succ n ih =>
    intro l4 M h
    rw [G_X5_seek_89] at h
    refine fl_iload4 (pc := 89) dX5_seek_89 ?_
    refine fl_iload3 (pc := 91) dX5_seek_91 ?_
    refine fm_icmp_ge (pc := 92) 186 (by decide) dX5_seek_92 (fun c92 => ?_) (fun c92 => ?_)
    · replace h := fm_itp c92 h
      refine fm_fgt [some (.ref 73), some (.ref a1), some (.ref a2), some (.int l3), some (.int l4), none] (by simp [fm_sub]) ?_
      cases h
      exact k1 _ _ rfl
    · replace h := fm_itn c92 h
      refine fm_iconstv (pc := 95) 0 (by decide) dX5_seek_95 ?_
      refine fl_istore5 (pc := 96) rfl (by decide) dX5_seek_96 ?_
      obtain ⟨w21, M22, ew21, h⟩ := fm_bdp h
      refine lp_X5_seek_98 ga1 ga2 ?_ _ _ _ ew21
      intro w219 M229 q9
      cases q9
      refine fl_aload2 (pc := 163) dX5_seek_163 ?_
      refine fl_aload1 (pc := 164) dX5_seek_164 ?_
      obtain ⟨v23, M24, ev23, h⟩ := fm_bdp h
      refine fm_callV (pc := 165) mX7_passDay [_] _ rfl cvX7_passDay ml_5_44 (shSt0 ga2) rfl rfl (Nat.le_of_ble_eq_true rfl) (Nat.le_of_ble_eq_true rfl) dX5_seek_165 ?_
      refine sp_X7_passDay ev23 ?_
      refine fm_ret0 ?_
      refine fl_aload2 (pc := 168) dX5_seek_168 ?_
      refine fl_aload1 (pc := 169) dX5_seek_169 ?_
      refine fl_aload2 (pc := 170) dX5_seek_170 ?_
      refine fm_geti (pc := 171) lk_5_48 (shSt0 ga2) rfl dX5_seek_171 ?_
      obtain ⟨v25, M26, ev25, h⟩ := fm_bdp h
      refine fm_callV (pc := 174) mX8_wetOn [_] _ rfl cvX8_wetOn ml_5_51 (shTd0 ga1) rfl rfl (Nat.le_of_ble_eq_true rfl) (Nat.le_of_ble_eq_true rfl) dX5_seek_174 ?_
      refine sp_X8_wetOn ev25 ?_
      refine fm_ret1 ?_
      refine fm_puti (pc := 177) lp_5_55 (shSt0 ga2) rfl dX5_seek_177 ?_
      obtain ⟨M27, eM27, h⟩ := fm_ltp h
      refine fm_cgm eM27 ?_
      refine fl_iinc4 (pc := 180) rfl 1 (by decide) (by decide) dX5_seek_180 ?_
      refine fm_goto (pc := 183) 89 (by decide) dX5_seek_183 ?_
      refine fm_fgt [some (.ref 73), some (.ref a1), some (.ref a2), some (.int l3), some (.int (l4 + 1)), none] (by simp [fm_sub]) ?_
      exact ih _ _ h
theorem sp_X5_seek {d : Nat} {a1 : Nat} {a2 : Nat} {a3 : Int32} {M : fm_M} {x : Unit × fm_M} {Q : Option Value → fm_M → Prop} (h : F_X5_seek a1 a2 a3 M = some x) (hq : Q none x.2) : fm_ct (d + 6) mX5_seek [.ref 73, .ref a1, .ref a2, .int a3] M Q := by
  rw [F_X5_seek] at h
  show fm_mw (d + 6) mX5_seek Q 0 [some (.ref 73), some (.ref a1), some (.ref a2), some (.int a3), none, none] [] M
  obtain ⟨ga1, h⟩ := fm_gdp h
  obtain ⟨ga2, h⟩ := fm_gdp h
  refine fl_aload0 (pc := 0) dX5_seek_0 ?_
  refine fm_iconstv (pc := 1) 0 (by decide) dX5_seek_1 ?_
  refine fm_puti (pc := 2) lp_5_18 sh_73 rfl dX5_seek_2 ?_
  obtain ⟨M1, eM1, h⟩ := fm_ltp h
  refine fm_cgm eM1 ?_
  refine fl_aload0 (pc := 5) dX5_seek_5 ?_
  refine fm_iconstv (pc := 6) 0 (by decide) dX5_seek_6 ?_
  refine fm_puti (pc := 7) lp_5_22 sh_73 rfl dX5_seek_7 ?_
  obtain ⟨M2, eM2, h⟩ := fm_ltp h
  refine fm_cgm eM2 ?_
  refine fm_iconstv (pc := 10) 0 (by decide) dX5_seek_10 ?_
  refine fl_istore4 (pc := 11) rfl (by decide) dX5_seek_11 ?_
  obtain ⟨w11, M12, ew11, h⟩ := fm_bdp h
  refine lp_X5_seek_13 ga1 ga2 ?_ _ _ _ ew11
  intro w119 M129 q9
  cases q9
  refine fm_iconstv (pc := 86) 0 (by decide) dX5_seek_86 ?_
  refine fl_istore4 (pc := 87) rfl (by decide) dX5_seek_87 ?_
  obtain ⟨w28, M29, ew28, h⟩ := fm_bdp h
  refine lp_X5_seek_89 ga1 ga2 ?_ _ _ _ ew28
  intro w289 M299 q9
  cases q9
  refine fm_vret (pc := 186) rfl ?_ dX5_seek_186
  cases h
  exact hq
/-! X5_dayOf -/
def F_X5_dayOf (a1 : Int32) (M : fm_M) : Option (Int32 × fm_M) :=
    if a1 < 0 then (
      some ((-1), M)
    ) else (
      if (M.1 73 2) ≤ a1 then (
        some ((-1), M)
      ) else (
        fm_gd (fm_inb a1 4) (
        some ((i_max 0 (M.1 75 (Int32.toNatClampNeg a1))), M))
      )
    )
theorem sp_X5_dayOf {d : Nat} {a1 : Int32} {M : fm_M} {x : Int32 × fm_M} {Q : Option Value → fm_M → Prop} (h : F_X5_dayOf a1 M = some x) (hq : Q (some (.int x.1)) x.2) : fm_ct (d + 1) mX5_dayOf [.ref 73, .int a1] M Q := by
  rw [F_X5_dayOf] at h
  show fm_mw (d + 1) mX5_dayOf Q 0 [some (.ref 73), some (.int a1)] [] M
  refine fl_iload1 (pc := 0) dX5_dayOf_0 ?_
  refine fm_if_lt (pc := 1) 25 (by decide) dX5_dayOf_1 (fun c1 => ?_) (fun c1 => ?_)
  · replace h := fm_itp c1 h
    refine fm_iconstv (pc := 25) (-1) (by decide) dX5_dayOf_25 ?_
    refine fm_iret (pc := 26) rfl ?_ dX5_dayOf_26
    cases h
    exact hq
  · replace h := fm_itn c1 h
    refine fl_iload1 (pc := 4) dX5_dayOf_4 ?_
    refine fl_aload0 (pc := 5) dX5_dayOf_5 ?_
    refine fm_geti (pc := 6) lk_5_18 sh_73 rfl dX5_dayOf_6 ?_
    refine fm_icmp_ge (pc := 9) 25 (by decide) dX5_dayOf_9 (fun c9 => ?_) (fun c9 => ?_)
    · replace h := fm_itp c9 h
      refine fm_iconstv (pc := 25) (-1) (by decide) dX5_dayOf_25 ?_
      refine fm_iret (pc := 26) rfl ?_ dX5_dayOf_26
      cases h
      exact hq
    · replace h := fm_itn c9 h
      refine fm_iconstv (pc := 12) 0 (by decide) dX5_dayOf_12 ?_
      refine fl_aload0 (pc := 13) dX5_dayOf_13 ?_
      refine fm_getr (pc := 14) lk_5_15 sh_73 rfl dX5_dayOf_14 ?_
      refine fl_iload1 (pc := 17) dX5_dayOf_17 ?_
      obtain ⟨g1, h⟩ := fm_gdp h
      refine fm_iald (pc := 18) sh_75 (fm_inb_ok g1) dX5_dayOf_18 ?_
      refine fq_mmax (pc := 19) ml_5_58 (Nat.le_of_ble_eq_true rfl) dX5_dayOf_19 ?_
      refine fm_goto (pc := 22) 26 (by decide) dX5_dayOf_22 ?_
      refine fm_iret (pc := 26) rfl ?_ dX5_dayOf_26
      cases h
      exact hq
/-! X6_append -/
def G_X6_append_3 : Nat → Int32 → Int32 → fm_M → Option ((Int32) × fm_M)
  | 0, _, _, _ => none
  | n + 1, l1, l2, M =>
    if l2 < 0 then (
      some (l2, M)
    ) else (
      if 700 ≤ (M.1 1 2) then (
        some (l2, M)
      ) else (
        fm_gd (fm_inb (M.1 1 2) 700) (
        fm_lt (fm_up M 2 (Int32.toNatClampNeg (M.1 1 2)) (vp_nar .byte (Int8.toInt32 (Int32.toInt8 (l1 >>> (l2 &&& 31)))))) (fun M2 =>
        fm_lt (fm_up M2 1 2 ((M2.1 1 2) + 1)) (fun M3 =>
        G_X6_append_3 n l1 (l2 + (-8)) M3)))
      )
    )
def F_X6_append (a1 : Int32) (M : fm_M) : Option (Unit × fm_M) :=
    fm_bd (G_X6_append_3 fm_fuel a1 24 M) (fun w4 M5 =>
      some ((), M5))
theorem lp_X6_append_3 {d : Nat} {Q : Option Value → fm_M → Prop} {l1 : Int32}   {x : (Int32) × fm_M} (k1 : ∀ (v : Int32) (M2 : fm_M), x = (v, M2) → fm_mw d mX6_append Q 46 [some (.ref 1), some (.int l1), some (.int v)] [] M2) : ∀ (n : Nat) (l2 : Int32) (M : fm_M), G_X6_append_3 n l1 l2 M = some x → fm_mw d mX6_append Q 3 [some (.ref 1), some (.int l1), some (.int l2)] [] M := by
  intro n
  induction n with
  | zero => intro l2 M h; simp [G_X6_append_3] at h
  | succ n ih =>
    intro l2 M h
    rw [G_X6_append_3] at h
    refine fl_iload2 (pc := 3) dX6_append_3 ?_
    refine fm_if_lt (pc := 4) 46 (by decide) dX6_append_4 (fun c4 => ?_) (fun c4 => ?_)
    · replace h := fm_itp c4 h
      refine fm_fgt [some (.ref 1), some (.int l1), some (.int l2)] (by simp [fm_sub]) ?_
      cases h
      exact k1 _ _ rfl
    · replace h := fm_itn c4 h
      refine fl_aload0 (pc := 7) dX6_append_7 ?_
      refine fm_geti (pc := 8) lk_6_46 sh_1 rfl dX6_append_8 ?_
      refine fm_sipushv (pc := 11) 700 (by decide) dX6_append_11 ?_
      refine fm_icmp_ge (pc := 14) 46 (by decide) dX6_append_14 (fun c14 => ?_) (fun c14 => ?_)
      · replace h := fm_itp c14 h
        refine fm_fgt [some (.ref 1), some (.int l1), some (.int l2)] (by simp [fm_sub]) ?_
        cases h
        exact k1 _ _ rfl
      · replace h := fm_itn c14 h
        refine fl_aload0 (pc := 17) dX6_append_17 ?_
        refine fm_getr (pc := 18) lk_6_9 sh_1 rfl dX6_append_18 ?_
        refine fl_aload0 (pc := 21) dX6_append_21 ?_
        refine fm_geti (pc := 22) lk_6_46 sh_1 rfl dX6_append_22 ?_
        refine fl_iload1 (pc := 25) dX6_append_25 ?_
        refine fl_iload2 (pc := 26) dX6_append_26 ?_
        refine fm_ishr (pc := 27) dX6_append_27 ?_
        refine fm_i2b (pc := 28) dX6_append_28 ?_
        obtain ⟨g1, h⟩ := fm_gdp h
        refine fm_bast (pc := 29) sh_2 (fm_inb_ok g1) dX6_append_29 ?_
        obtain ⟨M2, eM2, h⟩ := fm_ltp h
        refine fm_cgm eM2 ?_
        refine fl_aload0 (pc := 30) dX6_append_30 ?_
        refine fm_dup (pc := 31) rfl dX6_append_31 ?_
        refine fm_geti (pc := 32) lk_6_46 sh_1 rfl dX6_append_32 ?_
        refine fm_iconstv (pc := 35) 1 (by decide) dX6_append_35 ?_
        refine fm_iadd (pc := 36) dX6_append_36 ?_
        refine fm_puti (pc := 37) lp_6_46 sh_1 rfl dX6_append_37 ?_
        obtain ⟨M3, eM3, h⟩ := fm_ltp h
        refine fm_cgm eM3 ?_
        refine fl_iinc2 (pc := 40) rfl (-8) (by decide) (by decide) dX6_append_40 ?_
        refine fm_goto (pc := 43) 3 (by decide) dX6_append_43 ?_
        refine fm_fgt [some (.ref 1), some (.int l1), some (.int (l2 + (-8)))] (by simp [fm_sub]) ?_
        exact ih _ _ h
theorem sp_X6_append {d : Nat} {a1 : Int32} {M : fm_M} {x : Unit × fm_M} {Q : Option Value → fm_M → Prop} (h : F_X6_append a1 M = some x) (hq : Q none x.2) : fm_ct d mX6_append [.ref 1, .int a1] M Q := by
  rw [F_X6_append] at h
  show fm_mw d mX6_append Q 0 [some (.ref 1), some (.int a1), none] [] M
  refine fm_bipushv (pc := 0) 24 (by decide) dX6_append_0 ?_
  refine fl_istore2 (pc := 2) rfl (by decide) dX6_append_2 ?_
  obtain ⟨w4, M5, ew4, h⟩ := fm_bdp h
  refine lp_X6_append_3  ?_ _ _ _ ew4
  intro w49 M59 q9
  cases q9
  refine fm_vret (pc := 46) rfl ?_ dX6_append_46
  cases h
  exact hq
/-! X6_isDigit -/
def F_X6_isDigit (a0 : Int32) (M : fm_M) : Option (Int32 × fm_M) :=
    if a0 < 48 then (
      some (0, M)
    ) else (
      if 57 < a0 then (
        some (0, M)
      ) else (
        some (1, M)
      )
    )
theorem sp_X6_isDigit {d : Nat} {a0 : Int32} {M : fm_M} {x : Int32 × fm_M} {Q : Option Value → fm_M → Prop} (h : F_X6_isDigit a0 M = some x) (hq : Q (some (.int x.1)) x.2) : fm_ct d mX6_isDigit [.int a0] M Q := by
  rw [F_X6_isDigit] at h
  show fm_mw d mX6_isDigit Q 0 [some (.int a0)] [] M
  refine fl_iload0 (pc := 0) dX6_isDigit_0 ?_
  refine fm_bipushv (pc := 1) 48 (by decide) dX6_isDigit_1 ?_
  refine fm_icmp_lt (pc := 3) 16 (by decide) dX6_isDigit_3 (fun c3 => ?_) (fun c3 => ?_)
  · replace h := fm_itp c3 h
    refine fm_iconstv (pc := 16) 0 (by decide) dX6_isDigit_16 ?_
    refine fm_zret (pc := 17) rfl (by decide) ?_ dX6_isDigit_17
    cases h
    exact hq
  · replace h := fm_itn c3 h
    refine fl_iload0 (pc := 6) dX6_isDigit_6 ?_
    refine fm_bipushv (pc := 7) 57 (by decide) dX6_isDigit_7 ?_
    refine fm_icmp_gt (pc := 9) 16 (by decide) dX6_isDigit_9 (fun c9 => ?_) (fun c9 => ?_)
    · replace h := fm_itp c9 h
      refine fm_iconstv (pc := 16) 0 (by decide) dX6_isDigit_16 ?_
      refine fm_zret (pc := 17) rfl (by decide) ?_ dX6_isDigit_17
      cases h
      exact hq
    · replace h := fm_itn c9 h
      refine fm_iconstv (pc := 12) 1 (by decide) dX6_isDigit_12 ?_
      refine fm_goto (pc := 13) 17 (by decide) dX6_isDigit_13 ?_
      refine fm_zret (pc := 17) rfl (by decide) ?_ dX6_isDigit_17
      cases h
      exact hq
/-! X6_isLetter -/
def F_X6_isLetter (a0 : Int32) (M : fm_M) : Option (Int32 × fm_M) :=
    if a0 < 97 then (
      some (0, M)
    ) else (
      if 122 < a0 then (
        some (0, M)
      ) else (
        some (1, M)
      )
    )
theorem sp_X6_isLetter {d : Nat} {a0 : Int32} {M : fm_M} {x : Int32 × fm_M} {Q : Option Value → fm_M → Prop} (h : F_X6_isLetter a0 M = some x) (hq : Q (some (.int x.1)) x.2) : fm_ct d mX6_isLetter [.int a0] M Q := by
  rw [F_X6_isLetter] at h
  show fm_mw d mX6_isLetter Q 0 [some (.int a0)] [] M
  refine fl_iload0 (pc := 0) dX6_isLetter_0 ?_
  refine fm_bipushv (pc := 1) 97 (by decide) dX6_isLetter_1 ?_
  refine fm_icmp_lt (pc := 3) 16 (by decide) dX6_isLetter_3 (fun c3 => ?_) (fun c3 => ?_)
  · replace h := fm_itp c3 h
    refine fm_iconstv (pc := 16) 0 (by decide) dX6_isLetter_16 ?_
    refine fm_zret (pc := 17) rfl (by decide) ?_ dX6_isLetter_17
    cases h
    exact hq
  · replace h := fm_itn c3 h
    refine fl_iload0 (pc := 6) dX6_isLetter_6 ?_
    refine fm_bipushv (pc := 7) 122 (by decide) dX6_isLetter_7 ?_
    refine fm_icmp_gt (pc := 9) 16 (by decide) dX6_isLetter_9 (fun c9 => ?_) (fun c9 => ?_)
    · replace h := fm_itp c9 h
      refine fm_iconstv (pc := 16) 0 (by decide) dX6_isLetter_16 ?_
      refine fm_zret (pc := 17) rfl (by decide) ?_ dX6_isLetter_17
      cases h
      exact hq
    · replace h := fm_itn c9 h
      refine fm_iconstv (pc := 12) 1 (by decide) dX6_isLetter_12 ?_
      refine fm_goto (pc := 13) 17 (by decide) dX6_isLetter_13 ?_
      refine fm_zret (pc := 17) rfl (by decide) ?_ dX6_isLetter_17
      cases h
      exact hq
/-! X6_readNumber -/
def J_X6_readNumber_68 (rec : fm_M → Option ((Unit) × fm_M)) (s1 : Int32) (M : fm_M) : Option ((Unit) × fm_M) :=
    fm_lt (fm_up M 1 10 s1) (fun M6 =>
    fm_lt (fm_up M6 1 7 ((M6.1 1 7) + 1)) (fun M7 =>
    rec M7))
def G_X6_readNumber_5 : Nat → fm_M → Option ((Unit) × fm_M)
  | 0, _ => none
  | n + 1, M =>
    if (M.1 1 6) ≤ (M.1 1 7) then (
      some ((), M)
    ) else (
      fm_gd (fm_inb (M.1 1 7) 700) (
      fm_bd (F_X6_isDigit (M.1 2 (Int32.toNatClampNeg (M.1 1 7))) M) (fun v3 M4 =>
      if v3 = 0 then (
        some ((), M4)
      ) else (
        if (M4.1 1 10) ≤ 99999 then (
          fm_gd (fm_inb (M4.1 1 7) 700) (
          J_X6_readNumber_68 (G_X6_readNumber_5 n) ((((M4.1 1 10) * 10) + (M4.1 2 (Int32.toNatClampNeg (M4.1 1 7)))) - 48) M4)
        ) else (
          J_X6_readNumber_68 (G_X6_readNumber_5 n) (M4.1 1 10) M4
        )
      )))
    )
def F_X6_readNumber  (M : fm_M) : Option (Unit × fm_M) :=
    fm_lt (fm_up M 1 8 2) (fun M1 =>
    fm_bd (G_X6_readNumber_5 fm_fuel M1) (fun w8 M9 =>
      some ((), M9)))
theorem jn_X6_readNumber_68 {d : Nat} {Q : Option Value → fm_M → Prop} (rec : fm_M → Option ((Unit) × fm_M))  (s1 : Int32) {x : (Unit) × fm_M}  (ih : ∀  (M : fm_M), rec  M = some x → fm_mw (d + 1) mX6_readNumber Q 5 [some (.ref 1)] [] M) (k1 : ∀ (v : Unit) (M2 : fm_M), x = (v, M2) → fm_mw (d + 1) mX6_readNumber Q 84 [some (.ref 1)] [] M2) (M : fm_M) (h : J_X6_readNumber_68 rec s1 M = some x) : fm_mw (d + 1) mX6_readNumber Q 68 [some (.ref 1)] [(.int s1), (.ref 1)] M := by
  rw [J_X6_readNumber_68] at h
  refine fm_puti (pc := 68) lp_6_126 sh_1 rfl dX6_readNumber_68 ?_
  obtain ⟨M6, eM6, h⟩ := fm_ltp h
  refine fm_cgm eM6 ?_
  refine fl_aload0 (pc := 71) dX6_readNumber_71 ?_
  refine fm_dup (pc := 72) rfl dX6_readNumber_72 ?_
  refine fm_geti (pc := 73) lk_6_61 sh_1 rfl dX6_readNumber_73 ?_
  refine fm_iconstv (pc := 76) 1 (by decide) dX6_readNumber_76 ?_
  refine fm_iadd (pc := 77) dX6_readNumber_77 ?_
  refine fm_puti (pc := 78) lp_6_61 sh_1 rfl dX6_readNumber_78 ?_
  obtain ⟨M7, eM7, h⟩ := fm_ltp h
  refine fm_cgm eM7 ?_
  refine fm_goto (pc := 81) 5 (by decide) dX6_readNumber_81 ?_
  refine fm_fgt [some (.ref 1)] (by simp [fm_sub]) ?_
  exact ih  _ h
theorem lp_X6_readNumber_5 {d : Nat} {Q : Option Value → fm_M → Prop}    {x : (Unit) × fm_M} (k1 : ∀ (v : Unit) (M2 : fm_M), x = (v, M2) → fm_mw (d + 1) mX6_readNumber Q 84 [some (.ref 1)] [] M2) : ∀ (n : Nat)  (M : fm_M), G_X6_readNumber_5 n M = some x → fm_mw (d + 1) mX6_readNumber Q 5 [some (.ref 1)] [] M := by
  intro n
  induction n with
  | zero => intro M h; simp [G_X6_readNumber_5] at h
  | succ n ih =>
    intro M h
    rw [G_X6_readNumber_5] at h
    refine fl_aload0 (pc := 5) dX6_readNumber_5 ?_
    refine fm_geti (pc := 6) lk_6_61 sh_1 rfl dX6_readNumber_6 ?_
    refine fl_aload0 (pc := 9) dX6_readNumber_9 ?_
    refine fm_geti (pc := 10) lk_6_58 sh_1 rfl dX6_readNumber_10 ?_
    refine fm_icmp_ge (pc := 13) 84 (by decide) dX6_readNumber_13 (fun c13 => ?_) (fun c13 => ?_)
    · replace h := fm_itp c13 h
      refine fm_fgt [some (.ref 1)] (by simp [fm_sub]) ?_
      cases h
      exact k1 _ _ rfl
    · replace h := fm_itn c13 h
      refine fl_aload0 (pc := 16) dX6_readNumber_16 ?_
      refine fm_getr (pc := 17) lk_6_9 sh_1 rfl dX6_readNumber_17 ?_
      refine fl_aload0 (pc := 20) dX6_readNumber_20 ?_
      refine fm_geti (pc := 21) lk_6_61 sh_1 rfl dX6_readNumber_21 ?_
      obtain ⟨g2, h⟩ := fm_gdp h
      refine fm_bald (pc := 24) sh_2 (fm_inb_ok g2) dX6_readNumber_24 ?_
      obtain ⟨v3, M4, ev3, h⟩ := fm_bdp h
      refine fm_callS (pc := 25) mX6_isDigit [_] _ rfl csX6_isDigit ml_6_227 rfl (Nat.le_of_ble_eq_true rfl) (Nat.le_of_ble_eq_true rfl) dX6_readNumber_25 ?_
      refine sp_X6_isDigit ev3 ?_
      refine fm_ret1 ?_
      refine fm_if_eq (pc := 28) 84 (by decide) dX6_readNumber_28 (fun c28 => ?_) (fun c28 => ?_)
      · replace h := fm_itp c28 h
        refine fm_fgt [some (.ref 1)] (by simp [fm_sub]) ?_
        cases h
        exact k1 _ _ rfl
      · replace h := fm_itn c28 h
        refine fl_aload0 (pc := 31) dX6_readNumber_31 ?_
        refine fl_aload0 (pc := 32) dX6_readNumber_32 ?_
        refine fm_geti (pc := 33) lk_6_126 sh_1 rfl dX6_readNumber_33 ?_
        refine fm_ldc (pc := 36) kc_6_109 dX6_readNumber_36 ?_
        refine fm_icmp_le (pc := 38) 48 (by decide) dX6_readNumber_38 (fun c38 => ?_) (fun c38 => ?_)
        · replace h := fm_itp c38 h
          refine fl_aload0 (pc := 48) dX6_readNumber_48 ?_
          refine fm_geti (pc := 49) lk_6_126 sh_1 rfl dX6_readNumber_49 ?_
          refine fm_bipushv (pc := 52) 10 (by decide) dX6_readNumber_52 ?_
          refine fm_imul (pc := 54) dX6_readNumber_54 ?_
          refine fl_aload0 (pc := 55) dX6_readNumber_55 ?_
          refine fm_getr (pc := 56) lk_6_9 sh_1 rfl dX6_readNumber_56 ?_
          refine fl_aload0 (pc := 59) dX6_readNumber_59 ?_
          refine fm_geti (pc := 60) lk_6_61 sh_1 rfl dX6_readNumber_60 ?_
          obtain ⟨g5, h⟩ := fm_gdp h
          refine fm_bald (pc := 63) sh_2 (fm_inb_ok g5) dX6_readNumber_63 ?_
          refine fm_iadd (pc := 64) dX6_readNumber_64 ?_
          refine fm_bipushv (pc := 65) 48 (by decide) dX6_readNumber_65 ?_
          refine fm_isub (pc := 67) dX6_readNumber_67 ?_
          exact jn_X6_readNumber_68 _ _  ih k1 _ h
        · replace h := fm_itn c38 h
          refine fl_aload0 (pc := 41) dX6_readNumber_41 ?_
          refine fm_geti (pc := 42) lk_6_126 sh_1 rfl dX6_readNumber_42 ?_
          refine fm_goto (pc := 45) 68 (by decide) dX6_readNumber_45 ?_
          exact jn_X6_readNumber_68 _ _  ih k1 _ h
theorem sp_X6_readNumber {d : Nat}  {M : fm_M} {x : Unit × fm_M} {Q : Option Value → fm_M → Prop} (h : F_X6_readNumber  M = some x) (hq : Q none x.2) : fm_ct (d + 1) mX6_readNumber [.ref 1] M Q := by
  rw [F_X6_readNumber] at h
  show fm_mw (d + 1) mX6_readNumber Q 0 [some (.ref 1)] [] M
  refine fl_aload0 (pc := 0) dX6_readNumber_0 ?_
  refine fm_iconstv (pc := 1) 2 (by decide) dX6_readNumber_1 ?_
  refine fm_puti (pc := 2) lp_6_73 sh_1 rfl dX6_readNumber_2 ?_
  obtain ⟨M1, eM1, h⟩ := fm_ltp h
  refine fm_cgm eM1 ?_
  obtain ⟨w8, M9, ew8, h⟩ := fm_bdp h
  refine lp_X6_readNumber_5  ?_ _  _ ew8
  intro w89 M99 q9
  cases q9
  refine fm_vret (pc := 84) rfl ?_ dX6_readNumber_84
  cases h
  exact hq
/-! X6_readSign -/
def J_X6_readSign_278 (l1 : Int32) (l2 : Int32) (M : fm_M) : Option (Unit × fm_M) :=
    if (M.1 1 8) = 8 then (
      fm_lt (fm_up M 1 7 ((M.1 1 7) + 1)) (fun M5 =>
      some ((), M5))
    ) else (
      if (M.1 1 8) = 10 then (
        fm_lt (fm_up M 1 7 ((M.1 1 7) + 1)) (fun M6 =>
        some ((), M6))
      ) else (
        if (M.1 1 8) = 11 then (
          fm_lt (fm_up M 1 7 ((M.1 1 7) + 1)) (fun M7 =>
          some ((), M7))
        ) else (
          some ((), M)
        )
      )
    )
def J_X6_readSign_247 (l1 : Int32) (l2 : Int32) (s1 : Int32) (M : fm_M) : Option (Unit × fm_M) :=
    fm_lt (fm_up M 1 8 s1) (fun M27 =>
    J_X6_readSign_278 l1 l2 M27)
def J_X6_readSign_267 (l1 : Int32) (l2 : Int32) (s1 : Int32) (M : fm_M) : Option (Unit × fm_M) :=
    fm_lt (fm_up M 1 8 s1) (fun M29 =>
    J_X6_readSign_278 l1 l2 M29)
def J_X6_readSign_44 (l1 : Int32) (s0 : Int32) (M : fm_M) : Option (Unit × fm_M) :=
    if l1 = 40 then (
      fm_lt (fm_up M 1 8 5) (fun M4 =>
      J_X6_readSign_278 l1 s0 M4)
    ) else (
    if l1 = 41 then (
      fm_lt (fm_up M 1 8 6) (fun M8 =>
      J_X6_readSign_278 l1 s0 M8)
    ) else (
    if l1 = 42 then (
      fm_lt (fm_up M 1 8 15) (fun M9 =>
      J_X6_readSign_278 l1 s0 M9)
    ) else (
    if l1 = 43 then (
      fm_lt (fm_up M 1 8 13) (fun M10 =>
      J_X6_readSign_278 l1 s0 M10)
    ) else (
    if l1 = 44 then (
      fm_lt (fm_up M 1 8 1) (fun M11 =>
      J_X6_readSign_278 l1 s0 M11)
    ) else (
    if l1 = 45 then (
      fm_lt (fm_up M 1 8 14) (fun M12 =>
      J_X6_readSign_278 l1 s0 M12)
    ) else (
    if l1 = 46 then (
      fm_lt (fm_up M 1 8 1) (fun M13 =>
      J_X6_readSign_278 l1 s0 M13)
    ) else (
    if l1 = 47 then (
      fm_lt (fm_up M 1 8 16) (fun M14 =>
      J_X6_readSign_278 l1 s0 M14)
    ) else (
    if l1 = 48 then (
      fm_lt (fm_up M 1 8 1) (fun M15 =>
      J_X6_readSign_278 l1 s0 M15)
    ) else (
    if l1 = 49 then (
      fm_lt (fm_up M 1 8 1) (fun M16 =>
      J_X6_readSign_278 l1 s0 M16)
    ) else (
    if l1 = 50 then (
      fm_lt (fm_up M 1 8 1) (fun M17 =>
      J_X6_readSign_278 l1 s0 M17)
    ) else (
    if l1 = 51 then (
      fm_lt (fm_up M 1 8 1) (fun M18 =>
      J_X6_readSign_278 l1 s0 M18)
    ) else (
    if l1 = 52 then (
      fm_lt (fm_up M 1 8 1) (fun M19 =>
      J_X6_readSign_278 l1 s0 M19)
    ) else (
    if l1 = 53 then (
      fm_lt (fm_up M 1 8 1) (fun M20 =>
      J_X6_readSign_278 l1 s0 M20)
    ) else (
    if l1 = 54 then (
      fm_lt (fm_up M 1 8 1) (fun M21 =>
      J_X6_readSign_278 l1 s0 M21)
    ) else (
    if l1 = 55 then (
      fm_lt (fm_up M 1 8 1) (fun M22 =>
      J_X6_readSign_278 l1 s0 M22)
    ) else (
    if l1 = 56 then (
      fm_lt (fm_up M 1 8 1) (fun M23 =>
      J_X6_readSign_278 l1 s0 M23)
    ) else (
    if l1 = 57 then (
      fm_lt (fm_up M 1 8 1) (fun M24 =>
      J_X6_readSign_278 l1 s0 M24)
    ) else (
    if l1 = 58 then (
      fm_lt (fm_up M 1 8 1) (fun M25 =>
      J_X6_readSign_278 l1 s0 M25)
    ) else (
    if l1 = 59 then (
      fm_lt (fm_up M 1 8 4) (fun M26 =>
      J_X6_readSign_278 l1 s0 M26)
    ) else (
    if l1 = 60 then (
      if s0 = 61 then (
        J_X6_readSign_247 l1 s0 8 M
      ) else (
        if s0 = 62 then (
          J_X6_readSign_247 l1 s0 10 M
        ) else (
          J_X6_readSign_247 l1 s0 7 M
        )
      )
    ) else (
    if l1 = 61 then (
      fm_lt (fm_up M 1 8 9) (fun M28 =>
      J_X6_readSign_278 l1 s0 M28)
    ) else (
    if l1 = 62 then (
      if s0 = 61 then (
        J_X6_readSign_267 l1 s0 11 M
      ) else (
        J_X6_readSign_267 l1 s0 12 M
      )
    ) else (
    fm_lt (fm_up M 1 8 1) (fun M30 =>
    J_X6_readSign_278 l1 s0 M30))))))))))))))))))))))))
def F_X6_readSign  (M : fm_M) : Option (Unit × fm_M) :=
    fm_gd (fm_inb (M.1 1 7) 700) (
    fm_lt ((M.1 2 (Int32.toNatClampNeg (M.1 1 7)))) (fun x2 =>
    fm_lt (fm_up M 1 7 ((M.1 1 7) + 1)) (fun M3 =>
    if (M3.1 1 6) ≤ (M3.1 1 7) then (
      J_X6_readSign_44 x2 0 M3
    ) else (
      fm_gd (fm_inb (M3.1 1 7) 700) (
      J_X6_readSign_44 x2 (M3.1 2 (Int32.toNatClampNeg (M3.1 1 7))) M3)
    ))))
theorem jn_X6_readSign_278 {d : Nat} {Q : Option Value → fm_M → Prop}  (l1 : Int32) (l2 : Int32) {x : Unit × fm_M}  (hq : Q none x.2) (M : fm_M) (h : J_X6_readSign_278 l1 l2 M = some x) : fm_mw d mX6_readSign Q 278 [some (.ref 1), some (.int l1), some (.int l2)] [] M := by
  rw [J_X6_readSign_278] at h
  refine fl_aload0 (pc := 278) dX6_readSign_278 ?_
  refine fm_geti (pc := 279) lk_6_73 sh_1 rfl dX6_readSign_279 ?_
  refine fm_bipushv (pc := 282) 8 (by decide) dX6_readSign_282 ?_
  refine fm_icmp_eq (pc := 284) 305 (by decide) dX6_readSign_284 (fun c284 => ?_) (fun c284 => ?_)
  · replace h := fm_itp c284 h
    refine fl_aload0 (pc := 305) dX6_readSign_305 ?_
    refine fm_dup (pc := 306) rfl dX6_readSign_306 ?_
    refine fm_geti (pc := 307) lk_6_61 sh_1 rfl dX6_readSign_307 ?_
    refine fm_iconstv (pc := 310) 1 (by decide) dX6_readSign_310 ?_
    refine fm_iadd (pc := 311) dX6_readSign_311 ?_
    refine fm_puti (pc := 312) lp_6_61 sh_1 rfl dX6_readSign_312 ?_
    obtain ⟨M5, eM5, h⟩ := fm_ltp h
    refine fm_cgm eM5 ?_
    refine fm_vret (pc := 315) rfl ?_ dX6_readSign_315
    cases h
    exact hq
  · replace h := fm_itn c284 h
    refine fl_aload0 (pc := 287) dX6_readSign_287 ?_
    refine fm_geti (pc := 288) lk_6_73 sh_1 rfl dX6_readSign_288 ?_
    refine fm_bipushv (pc := 291) 10 (by decide) dX6_readSign_291 ?_
    refine fm_icmp_eq (pc := 293) 305 (by decide) dX6_readSign_293 (fun c293 => ?_) (fun c293 => ?_)
    · replace h := fm_itp c293 h
      refine fl_aload0 (pc := 305) dX6_readSign_305 ?_
      refine fm_dup (pc := 306) rfl dX6_readSign_306 ?_
      refine fm_geti (pc := 307) lk_6_61 sh_1 rfl dX6_readSign_307 ?_
      refine fm_iconstv (pc := 310) 1 (by decide) dX6_readSign_310 ?_
      refine fm_iadd (pc := 311) dX6_readSign_311 ?_
      refine fm_puti (pc := 312) lp_6_61 sh_1 rfl dX6_readSign_312 ?_
      obtain ⟨M6, eM6, h⟩ := fm_ltp h
      refine fm_cgm eM6 ?_
      refine fm_vret (pc := 315) rfl ?_ dX6_readSign_315
      cases h
      exact hq
    · replace h := fm_itn c293 h
      refine fl_aload0 (pc := 296) dX6_readSign_296 ?_
      refine fm_geti (pc := 297) lk_6_73 sh_1 rfl dX6_readSign_297 ?_
      refine fm_bipushv (pc := 300) 11 (by decide) dX6_readSign_300 ?_
      refine fm_icmp_ne (pc := 302) 315 (by decide) dX6_readSign_302 (fun c302 => ?_) (fun c302 => ?_)
      · replace h := fm_itn c302 h
        refine fm_vret (pc := 315) rfl ?_ dX6_readSign_315
        cases h
        exact hq
      · replace h := fm_itp c302 h
        refine fl_aload0 (pc := 305) dX6_readSign_305 ?_
        refine fm_dup (pc := 306) rfl dX6_readSign_306 ?_
        refine fm_geti (pc := 307) lk_6_61 sh_1 rfl dX6_readSign_307 ?_
        refine fm_iconstv (pc := 310) 1 (by decide) dX6_readSign_310 ?_
        refine fm_iadd (pc := 311) dX6_readSign_311 ?_
        refine fm_puti (pc := 312) lp_6_61 sh_1 rfl dX6_readSign_312 ?_
        obtain ⟨M7, eM7, h⟩ := fm_ltp h
        refine fm_cgm eM7 ?_
        refine fm_vret (pc := 315) rfl ?_ dX6_readSign_315
        cases h
        exact hq
theorem jn_X6_readSign_247 {d : Nat} {Q : Option Value → fm_M → Prop}  (l1 : Int32) (l2 : Int32) (s1 : Int32) {x : Unit × fm_M}  (hq : Q none x.2) (M : fm_M) (h : J_X6_readSign_247 l1 l2 s1 M = some x) : fm_mw d mX6_readSign Q 247 [some (.ref 1), some (.int l1), some (.int l2)] [(.int s1), (.ref 1)] M := by
  rw [J_X6_readSign_247] at h
  refine fm_puti (pc := 247) lp_6_73 sh_1 rfl dX6_readSign_247 ?_
  obtain ⟨M27, eM27, h⟩ := fm_ltp h
  refine fm_cgm eM27 ?_
  refine fm_goto (pc := 250) 278 (by decide) dX6_readSign_250 ?_
  exact jn_X6_readSign_278 _ _  hq _ h
theorem jn_X6_readSign_267 {d : Nat} {Q : Option Value → fm_M → Prop}  (l1 : Int32) (l2 : Int32) (s1 : Int32) {x : Unit × fm_M}  (hq : Q none x.2) (M : fm_M) (h : J_X6_readSign_267 l1 l2 s1 M = some x) : fm_mw d mX6_readSign Q 267 [some (.ref 1), some (.int l1), some (.int l2)] [(.int s1), (.ref 1)] M := by
  rw [J_X6_readSign_267] at h
  refine fm_puti (pc := 267) lp_6_73 sh_1 rfl dX6_readSign_267 ?_
  obtain ⟨M29, eM29, h⟩ := fm_ltp h
  refine fm_cgm eM29 ?_
  refine fm_goto (pc := 270) 278 (by decide) dX6_readSign_270 ?_
  exact jn_X6_readSign_278 _ _  hq _ h
theorem jn_X6_readSign_44 {d : Nat} {Q : Option Value → fm_M → Prop}  (l1 : Int32) (s0 : Int32) {x : Unit × fm_M}  (hq : Q none x.2) (M : fm_M) (h : J_X6_readSign_44 l1 s0 M = some x) : fm_mw d mX6_readSign Q 44 [some (.ref 1), some (.int l1), none] [(.int s0)] M := by
  rw [J_X6_readSign_44] at h
  refine fl_istore2 (pc := 44) rfl (by decide) dX6_readSign_44 ?_
  refine fl_iload1 (pc := 45) dX6_readSign_45 ?_
  by_cases s46_0 : l1 = 40
  · replace h := fm_itp s46_0 h
    refine fm_tswIn (pc := 46) 160 40 (114) (by rw [s46_0]; rfl) (by decide) (by decide) (by decide) (by decide) dX6_readSign_46 ?_
    refine fl_aload0 (pc := 160) dX6_readSign_160 ?_
    refine fm_iconstv (pc := 161) 5 (by decide) dX6_readSign_161 ?_
    refine fm_puti (pc := 162) lp_6_73 sh_1 rfl dX6_readSign_162 ?_
    obtain ⟨M4, eM4, h⟩ := fm_ltp h
    refine fm_cgm eM4 ?_
    refine fm_goto (pc := 165) 278 (by decide) dX6_readSign_165 ?_
    exact jn_X6_readSign_278 _ _  hq _ h
  · replace h := fm_itn s46_0 h
    by_cases s46_1 : l1 = 41
    · replace h := fm_itp s46_1 h
      refine fm_tswIn (pc := 46) 168 41 (122) (by rw [s46_1]; rfl) (by decide) (by decide) (by decide) (by decide) dX6_readSign_46 ?_
      refine fl_aload0 (pc := 168) dX6_readSign_168 ?_
      refine fm_bipushv (pc := 169) 6 (by decide) dX6_readSign_169 ?_
      refine fm_puti (pc := 171) lp_6_73 sh_1 rfl dX6_readSign_171 ?_
      obtain ⟨M8, eM8, h⟩ := fm_ltp h
      refine fm_cgm eM8 ?_
      refine fm_goto (pc := 174) 278 (by decide) dX6_readSign_174 ?_
      exact jn_X6_readSign_278 _ _  hq _ h
    · replace h := fm_itn s46_1 h
      by_cases s46_2 : l1 = 42
      · replace h := fm_itp s46_2 h
        refine fm_tswIn (pc := 46) 195 42 (149) (by rw [s46_2]; rfl) (by decide) (by decide) (by decide) (by decide) dX6_readSign_46 ?_
        refine fl_aload0 (pc := 195) dX6_readSign_195 ?_
        refine fm_bipushv (pc := 196) 15 (by decide) dX6_readSign_196 ?_
        refine fm_puti (pc := 198) lp_6_73 sh_1 rfl dX6_readSign_198 ?_
        obtain ⟨M9, eM9, h⟩ := fm_ltp h
        refine fm_cgm eM9 ?_
        refine fm_goto (pc := 201) 278 (by decide) dX6_readSign_201 ?_
        exact jn_X6_readSign_278 _ _  hq _ h
      · replace h := fm_itn s46_2 h
        by_cases s46_3 : l1 = 43
        · replace h := fm_itp s46_3 h
          refine fm_tswIn (pc := 46) 177 43 (131) (by rw [s46_3]; rfl) (by decide) (by decide) (by decide) (by decide) dX6_readSign_46 ?_
          refine fl_aload0 (pc := 177) dX6_readSign_177 ?_
          refine fm_bipushv (pc := 178) 13 (by decide) dX6_readSign_178 ?_
          refine fm_puti (pc := 180) lp_6_73 sh_1 rfl dX6_readSign_180 ?_
          obtain ⟨M10, eM10, h⟩ := fm_ltp h
          refine fm_cgm eM10 ?_
          refine fm_goto (pc := 183) 278 (by decide) dX6_readSign_183 ?_
          exact jn_X6_readSign_278 _ _  hq _ h
        · replace h := fm_itn s46_3 h
          by_cases s46_4 : l1 = 44
          · replace h := fm_itp s46_4 h
            refine fm_tswIn (pc := 46) 273 44 (227) (by rw [s46_4]; rfl) (by decide) (by decide) (by decide) (by decide) dX6_readSign_46 ?_
            refine fl_aload0 (pc := 273) dX6_readSign_273 ?_
            refine fm_iconstv (pc := 274) 1 (by decide) dX6_readSign_274 ?_
            refine fm_puti (pc := 275) lp_6_73 sh_1 rfl dX6_readSign_275 ?_
            obtain ⟨M11, eM11, h⟩ := fm_ltp h
            refine fm_cgm eM11 ?_
            exact jn_X6_readSign_278 _ _  hq _ h
          · replace h := fm_itn s46_4 h
            by_cases s46_5 : l1 = 45
            · replace h := fm_itp s46_5 h
              refine fm_tswIn (pc := 46) 186 45 (140) (by rw [s46_5]; rfl) (by decide) (by decide) (by decide) (by decide) dX6_readSign_46 ?_
              refine fl_aload0 (pc := 186) dX6_readSign_186 ?_
              refine fm_bipushv (pc := 187) 14 (by decide) dX6_readSign_187 ?_
              refine fm_puti (pc := 189) lp_6_73 sh_1 rfl dX6_readSign_189 ?_
              obtain ⟨M12, eM12, h⟩ := fm_ltp h
              refine fm_cgm eM12 ?_
              refine fm_goto (pc := 192) 278 (by decide) dX6_readSign_192 ?_
              exact jn_X6_readSign_278 _ _  hq _ h
            · replace h := fm_itn s46_5 h
              by_cases s46_6 : l1 = 46
              · replace h := fm_itp s46_6 h
                refine fm_tswIn (pc := 46) 273 46 (227) (by rw [s46_6]; rfl) (by decide) (by decide) (by decide) (by decide) dX6_readSign_46 ?_
                refine fl_aload0 (pc := 273) dX6_readSign_273 ?_
                refine fm_iconstv (pc := 274) 1 (by decide) dX6_readSign_274 ?_
                refine fm_puti (pc := 275) lp_6_73 sh_1 rfl dX6_readSign_275 ?_
                obtain ⟨M13, eM13, h⟩ := fm_ltp h
                refine fm_cgm eM13 ?_
                exact jn_X6_readSign_278 _ _  hq _ h
              · replace h := fm_itn s46_6 h
                by_cases s46_7 : l1 = 47
                · replace h := fm_itp s46_7 h
                  refine fm_tswIn (pc := 46) 204 47 (158) (by rw [s46_7]; rfl) (by decide) (by decide) (by decide) (by decide) dX6_readSign_46 ?_
                  refine fl_aload0 (pc := 204) dX6_readSign_204 ?_
                  refine fm_bipushv (pc := 205) 16 (by decide) dX6_readSign_205 ?_
                  refine fm_puti (pc := 207) lp_6_73 sh_1 rfl dX6_readSign_207 ?_
                  obtain ⟨M14, eM14, h⟩ := fm_ltp h
                  refine fm_cgm eM14 ?_
                  refine fm_goto (pc := 210) 278 (by decide) dX6_readSign_210 ?_
                  exact jn_X6_readSign_278 _ _  hq _ h
                · replace h := fm_itn s46_7 h
                  by_cases s46_8 : l1 = 48
                  · replace h := fm_itp s46_8 h
                    refine fm_tswIn (pc := 46) 273 48 (227) (by rw [s46_8]; rfl) (by decide) (by decide) (by decide) (by decide) dX6_readSign_46 ?_
                    refine fl_aload0 (pc := 273) dX6_readSign_273 ?_
                    refine fm_iconstv (pc := 274) 1 (by decide) dX6_readSign_274 ?_
                    refine fm_puti (pc := 275) lp_6_73 sh_1 rfl dX6_readSign_275 ?_
                    obtain ⟨M15, eM15, h⟩ := fm_ltp h
                    refine fm_cgm eM15 ?_
                    exact jn_X6_readSign_278 _ _  hq _ h
                  · replace h := fm_itn s46_8 h
                    by_cases s46_9 : l1 = 49
                    · replace h := fm_itp s46_9 h
                      refine fm_tswIn (pc := 46) 273 49 (227) (by rw [s46_9]; rfl) (by decide) (by decide) (by decide) (by decide) dX6_readSign_46 ?_
                      refine fl_aload0 (pc := 273) dX6_readSign_273 ?_
                      refine fm_iconstv (pc := 274) 1 (by decide) dX6_readSign_274 ?_
                      refine fm_puti (pc := 275) lp_6_73 sh_1 rfl dX6_readSign_275 ?_
                      obtain ⟨M16, eM16, h⟩ := fm_ltp h
                      refine fm_cgm eM16 ?_
                      exact jn_X6_readSign_278 _ _  hq _ h
                    · replace h := fm_itn s46_9 h
                      by_cases s46_10 : l1 = 50
                      · replace h := fm_itp s46_10 h
                        refine fm_tswIn (pc := 46) 273 50 (227) (by rw [s46_10]; rfl) (by decide) (by decide) (by decide) (by decide) dX6_readSign_46 ?_
                        refine fl_aload0 (pc := 273) dX6_readSign_273 ?_
                        refine fm_iconstv (pc := 274) 1 (by decide) dX6_readSign_274 ?_
                        refine fm_puti (pc := 275) lp_6_73 sh_1 rfl dX6_readSign_275 ?_
                        obtain ⟨M17, eM17, h⟩ := fm_ltp h
                        refine fm_cgm eM17 ?_
                        exact jn_X6_readSign_278 _ _  hq _ h
                      · replace h := fm_itn s46_10 h
                        by_cases s46_11 : l1 = 51
                        · replace h := fm_itp s46_11 h
                          refine fm_tswIn (pc := 46) 273 51 (227) (by rw [s46_11]; rfl) (by decide) (by decide) (by decide) (by decide) dX6_readSign_46 ?_
                          refine fl_aload0 (pc := 273) dX6_readSign_273 ?_
                          refine fm_iconstv (pc := 274) 1 (by decide) dX6_readSign_274 ?_
                          refine fm_puti (pc := 275) lp_6_73 sh_1 rfl dX6_readSign_275 ?_
                          obtain ⟨M18, eM18, h⟩ := fm_ltp h
                          refine fm_cgm eM18 ?_
                          exact jn_X6_readSign_278 _ _  hq _ h
                        · replace h := fm_itn s46_11 h
                          by_cases s46_12 : l1 = 52
                          · replace h := fm_itp s46_12 h
                            refine fm_tswIn (pc := 46) 273 52 (227) (by rw [s46_12]; rfl) (by decide) (by decide) (by decide) (by decide) dX6_readSign_46 ?_
                            refine fl_aload0 (pc := 273) dX6_readSign_273 ?_
                            refine fm_iconstv (pc := 274) 1 (by decide) dX6_readSign_274 ?_
                            refine fm_puti (pc := 275) lp_6_73 sh_1 rfl dX6_readSign_275 ?_
                            obtain ⟨M19, eM19, h⟩ := fm_ltp h
                            refine fm_cgm eM19 ?_
                            exact jn_X6_readSign_278 _ _  hq _ h
                          · replace h := fm_itn s46_12 h
                            by_cases s46_13 : l1 = 53
                            · replace h := fm_itp s46_13 h
                              refine fm_tswIn (pc := 46) 273 53 (227) (by rw [s46_13]; rfl) (by decide) (by decide) (by decide) (by decide) dX6_readSign_46 ?_
                              refine fl_aload0 (pc := 273) dX6_readSign_273 ?_
                              refine fm_iconstv (pc := 274) 1 (by decide) dX6_readSign_274 ?_
                              refine fm_puti (pc := 275) lp_6_73 sh_1 rfl dX6_readSign_275 ?_
                              obtain ⟨M20, eM20, h⟩ := fm_ltp h
                              refine fm_cgm eM20 ?_
                              exact jn_X6_readSign_278 _ _  hq _ h
                            · replace h := fm_itn s46_13 h
                              by_cases s46_14 : l1 = 54
                              · replace h := fm_itp s46_14 h
                                refine fm_tswIn (pc := 46) 273 54 (227) (by rw [s46_14]; rfl) (by decide) (by decide) (by decide) (by decide) dX6_readSign_46 ?_
                                refine fl_aload0 (pc := 273) dX6_readSign_273 ?_
                                refine fm_iconstv (pc := 274) 1 (by decide) dX6_readSign_274 ?_
                                refine fm_puti (pc := 275) lp_6_73 sh_1 rfl dX6_readSign_275 ?_
                                obtain ⟨M21, eM21, h⟩ := fm_ltp h
                                refine fm_cgm eM21 ?_
                                exact jn_X6_readSign_278 _ _  hq _ h
                              · replace h := fm_itn s46_14 h
                                by_cases s46_15 : l1 = 55
                                · replace h := fm_itp s46_15 h
                                  refine fm_tswIn (pc := 46) 273 55 (227) (by rw [s46_15]; rfl) (by decide) (by decide) (by decide) (by decide) dX6_readSign_46 ?_
                                  refine fl_aload0 (pc := 273) dX6_readSign_273 ?_
                                  refine fm_iconstv (pc := 274) 1 (by decide) dX6_readSign_274 ?_
                                  refine fm_puti (pc := 275) lp_6_73 sh_1 rfl dX6_readSign_275 ?_
                                  obtain ⟨M22, eM22, h⟩ := fm_ltp h
                                  refine fm_cgm eM22 ?_
                                  exact jn_X6_readSign_278 _ _  hq _ h
                                · replace h := fm_itn s46_15 h
                                  by_cases s46_16 : l1 = 56
                                  · replace h := fm_itp s46_16 h
                                    refine fm_tswIn (pc := 46) 273 56 (227) (by rw [s46_16]; rfl) (by decide) (by decide) (by decide) (by decide) dX6_readSign_46 ?_
                                    refine fl_aload0 (pc := 273) dX6_readSign_273 ?_
                                    refine fm_iconstv (pc := 274) 1 (by decide) dX6_readSign_274 ?_
                                    refine fm_puti (pc := 275) lp_6_73 sh_1 rfl dX6_readSign_275 ?_
                                    obtain ⟨M23, eM23, h⟩ := fm_ltp h
                                    refine fm_cgm eM23 ?_
                                    exact jn_X6_readSign_278 _ _  hq _ h
                                  · replace h := fm_itn s46_16 h
                                    by_cases s46_17 : l1 = 57
                                    · replace h := fm_itp s46_17 h
                                      refine fm_tswIn (pc := 46) 273 57 (227) (by rw [s46_17]; rfl) (by decide) (by decide) (by decide) (by decide) dX6_readSign_46 ?_
                                      refine fl_aload0 (pc := 273) dX6_readSign_273 ?_
                                      refine fm_iconstv (pc := 274) 1 (by decide) dX6_readSign_274 ?_
                                      refine fm_puti (pc := 275) lp_6_73 sh_1 rfl dX6_readSign_275 ?_
                                      obtain ⟨M24, eM24, h⟩ := fm_ltp h
                                      refine fm_cgm eM24 ?_
                                      exact jn_X6_readSign_278 _ _  hq _ h
                                    · replace h := fm_itn s46_17 h
                                      by_cases s46_18 : l1 = 58
                                      · replace h := fm_itp s46_18 h
                                        refine fm_tswIn (pc := 46) 273 58 (227) (by rw [s46_18]; rfl) (by decide) (by decide) (by decide) (by decide) dX6_readSign_46 ?_
                                        refine fl_aload0 (pc := 273) dX6_readSign_273 ?_
                                        refine fm_iconstv (pc := 274) 1 (by decide) dX6_readSign_274 ?_
                                        refine fm_puti (pc := 275) lp_6_73 sh_1 rfl dX6_readSign_275 ?_
                                        obtain ⟨M25, eM25, h⟩ := fm_ltp h
                                        refine fm_cgm eM25 ?_
                                        exact jn_X6_readSign_278 _ _  hq _ h
                                      · replace h := fm_itn s46_18 h
                                        by_cases s46_19 : l1 = 59
                                        · replace h := fm_itp s46_19 h
                                          refine fm_tswIn (pc := 46) 152 59 (106) (by rw [s46_19]; rfl) (by decide) (by decide) (by decide) (by decide) dX6_readSign_46 ?_
                                          refine fl_aload0 (pc := 152) dX6_readSign_152 ?_
                                          refine fm_iconstv (pc := 153) 4 (by decide) dX6_readSign_153 ?_
                                          refine fm_puti (pc := 154) lp_6_73 sh_1 rfl dX6_readSign_154 ?_
                                          obtain ⟨M26, eM26, h⟩ := fm_ltp h
                                          refine fm_cgm eM26 ?_
                                          refine fm_goto (pc := 157) 278 (by decide) dX6_readSign_157 ?_
                                          exact jn_X6_readSign_278 _ _  hq _ h
                                        · replace h := fm_itn s46_19 h
                                          by_cases s46_20 : l1 = 60
                                          · replace h := fm_itp s46_20 h
                                            refine fm_tswIn (pc := 46) 222 60 (176) (by rw [s46_20]; rfl) (by decide) (by decide) (by decide) (by decide) dX6_readSign_46 ?_
                                            refine fl_aload0 (pc := 222) dX6_readSign_222 ?_
                                            refine fl_iload2 (pc := 223) dX6_readSign_223 ?_
                                            refine fm_bipushv (pc := 224) 61 (by decide) dX6_readSign_224 ?_
                                            refine fm_icmp_ne (pc := 226) 234 (by decide) dX6_readSign_226 (fun c226 => ?_) (fun c226 => ?_)
                                            · replace h := fm_itn c226 h
                                              refine fl_iload2 (pc := 234) dX6_readSign_234 ?_
                                              refine fm_bipushv (pc := 235) 62 (by decide) dX6_readSign_235 ?_
                                              refine fm_icmp_ne (pc := 237) 245 (by decide) dX6_readSign_237 (fun c237 => ?_) (fun c237 => ?_)
                                              · replace h := fm_itn c237 h
                                                refine fm_bipushv (pc := 245) 7 (by decide) dX6_readSign_245 ?_
                                                exact jn_X6_readSign_247 _ _ _  hq _ h
                                              · replace h := fm_itp c237 h
                                                refine fm_bipushv (pc := 240) 10 (by decide) dX6_readSign_240 ?_
                                                refine fm_goto (pc := 242) 247 (by decide) dX6_readSign_242 ?_
                                                exact jn_X6_readSign_247 _ _ _  hq _ h
                                            · replace h := fm_itp c226 h
                                              refine fm_bipushv (pc := 229) 8 (by decide) dX6_readSign_229 ?_
                                              refine fm_goto (pc := 231) 247 (by decide) dX6_readSign_231 ?_
                                              exact jn_X6_readSign_247 _ _ _  hq _ h
                                          · replace h := fm_itn s46_20 h
                                            by_cases s46_21 : l1 = 61
                                            · replace h := fm_itp s46_21 h
                                              refine fm_tswIn (pc := 46) 213 61 (167) (by rw [s46_21]; rfl) (by decide) (by decide) (by decide) (by decide) dX6_readSign_46 ?_
                                              refine fl_aload0 (pc := 213) dX6_readSign_213 ?_
                                              refine fm_bipushv (pc := 214) 9 (by decide) dX6_readSign_214 ?_
                                              refine fm_puti (pc := 216) lp_6_73 sh_1 rfl dX6_readSign_216 ?_
                                              obtain ⟨M28, eM28, h⟩ := fm_ltp h
                                              refine fm_cgm eM28 ?_
                                              refine fm_goto (pc := 219) 278 (by decide) dX6_readSign_219 ?_
                                              exact jn_X6_readSign_278 _ _  hq _ h
                                            · replace h := fm_itn s46_21 h
                                              by_cases s46_22 : l1 = 62
                                              · replace h := fm_itp s46_22 h
                                                refine fm_tswIn (pc := 46) 253 62 (207) (by rw [s46_22]; rfl) (by decide) (by decide) (by decide) (by decide) dX6_readSign_46 ?_
                                                refine fl_aload0 (pc := 253) dX6_readSign_253 ?_
                                                refine fl_iload2 (pc := 254) dX6_readSign_254 ?_
                                                refine fm_bipushv (pc := 255) 61 (by decide) dX6_readSign_255 ?_
                                                refine fm_icmp_ne (pc := 257) 265 (by decide) dX6_readSign_257 (fun c257 => ?_) (fun c257 => ?_)
                                                · replace h := fm_itn c257 h
                                                  refine fm_bipushv (pc := 265) 12 (by decide) dX6_readSign_265 ?_
                                                  exact jn_X6_readSign_267 _ _ _  hq _ h
                                                · replace h := fm_itp c257 h
                                                  refine fm_bipushv (pc := 260) 11 (by decide) dX6_readSign_260 ?_
                                                  refine fm_goto (pc := 262) 267 (by decide) dX6_readSign_262 ?_
                                                  exact jn_X6_readSign_267 _ _ _  hq _ h
                                              · replace h := fm_itn s46_22 h
                                                have q0 : ¬ Int32.toInt l1 = 40 := fun q => s46_0 (Int32.toInt_inj.mp (by rw [q]; rfl))
                                                have q1 : ¬ Int32.toInt l1 = 41 := fun q => s46_1 (Int32.toInt_inj.mp (by rw [q]; rfl))
                                                have q2 : ¬ Int32.toInt l1 = 42 := fun q => s46_2 (Int32.toInt_inj.mp (by rw [q]; rfl))
                                                have q3 : ¬ Int32.toInt l1 = 43 := fun q => s46_3 (Int32.toInt_inj.mp (by rw [q]; rfl))
                                                have q4 : ¬ Int32.toInt l1 = 44 := fun q => s46_4 (Int32.toInt_inj.mp (by rw [q]; rfl))
                                                have q5 : ¬ Int32.toInt l1 = 45 := fun q => s46_5 (Int32.toInt_inj.mp (by rw [q]; rfl))
                                                have q6 : ¬ Int32.toInt l1 = 46 := fun q => s46_6 (Int32.toInt_inj.mp (by rw [q]; rfl))
                                                have q7 : ¬ Int32.toInt l1 = 47 := fun q => s46_7 (Int32.toInt_inj.mp (by rw [q]; rfl))
                                                have q8 : ¬ Int32.toInt l1 = 48 := fun q => s46_8 (Int32.toInt_inj.mp (by rw [q]; rfl))
                                                have q9 : ¬ Int32.toInt l1 = 49 := fun q => s46_9 (Int32.toInt_inj.mp (by rw [q]; rfl))
                                                have q10 : ¬ Int32.toInt l1 = 50 := fun q => s46_10 (Int32.toInt_inj.mp (by rw [q]; rfl))
                                                have q11 : ¬ Int32.toInt l1 = 51 := fun q => s46_11 (Int32.toInt_inj.mp (by rw [q]; rfl))
                                                have q12 : ¬ Int32.toInt l1 = 52 := fun q => s46_12 (Int32.toInt_inj.mp (by rw [q]; rfl))
                                                have q13 : ¬ Int32.toInt l1 = 53 := fun q => s46_13 (Int32.toInt_inj.mp (by rw [q]; rfl))
                                                have q14 : ¬ Int32.toInt l1 = 54 := fun q => s46_14 (Int32.toInt_inj.mp (by rw [q]; rfl))
                                                have q15 : ¬ Int32.toInt l1 = 55 := fun q => s46_15 (Int32.toInt_inj.mp (by rw [q]; rfl))
                                                have q16 : ¬ Int32.toInt l1 = 56 := fun q => s46_16 (Int32.toInt_inj.mp (by rw [q]; rfl))
                                                have q17 : ¬ Int32.toInt l1 = 57 := fun q => s46_17 (Int32.toInt_inj.mp (by rw [q]; rfl))
                                                have q18 : ¬ Int32.toInt l1 = 58 := fun q => s46_18 (Int32.toInt_inj.mp (by rw [q]; rfl))
                                                have q19 : ¬ Int32.toInt l1 = 59 := fun q => s46_19 (Int32.toInt_inj.mp (by rw [q]; rfl))
                                                have q20 : ¬ Int32.toInt l1 = 60 := fun q => s46_20 (Int32.toInt_inj.mp (by rw [q]; rfl))
                                                have q21 : ¬ Int32.toInt l1 = 61 := fun q => s46_21 (Int32.toInt_inj.mp (by rw [q]; rfl))
                                                have q22 : ¬ Int32.toInt l1 = 62 := fun q => s46_22 (Int32.toInt_inj.mp (by rw [q]; rfl))
                                                refine fm_tswOut (pc := 46) 273 (by omega) (by decide) dX6_readSign_46 ?_
                                                refine fl_aload0 (pc := 273) dX6_readSign_273 ?_
                                                refine fm_iconstv (pc := 274) 1 (by decide) dX6_readSign_274 ?_
                                                refine fm_puti (pc := 275) lp_6_73 sh_1 rfl dX6_readSign_275 ?_
                                                obtain ⟨M30, eM30, h⟩ := fm_ltp h
                                                refine fm_cgm eM30 ?_
                                                exact jn_X6_readSign_278 _ _  hq _ h
theorem sp_X6_readSign {d : Nat}  {M : fm_M} {x : Unit × fm_M} {Q : Option Value → fm_M → Prop} (h : F_X6_readSign  M = some x) (hq : Q none x.2) : fm_ct d mX6_readSign [.ref 1] M Q := by
  rw [F_X6_readSign] at h
  show fm_mw d mX6_readSign Q 0 [some (.ref 1), none, none] [] M
  refine fl_aload0 (pc := 0) dX6_readSign_0 ?_
  refine fm_getr (pc := 1) lk_6_9 sh_1 rfl dX6_readSign_1 ?_
  refine fl_aload0 (pc := 4) dX6_readSign_4 ?_
  refine fm_geti (pc := 5) lk_6_61 sh_1 rfl dX6_readSign_5 ?_
  obtain ⟨g1, h⟩ := fm_gdp h
  refine fm_bald (pc := 8) sh_2 (fm_inb_ok g1) dX6_readSign_8 ?_
  obtain ⟨x2, ex2, h⟩ := fm_ltp h
  refine fm_cgi ex2 ?_
  refine fl_istore1 (pc := 9) rfl (by decide) dX6_readSign_9 ?_
  refine fl_aload0 (pc := 10) dX6_readSign_10 ?_
  refine fm_dup (pc := 11) rfl dX6_readSign_11 ?_
  refine fm_geti (pc := 12) lk_6_61 sh_1 rfl dX6_readSign_12 ?_
  refine fm_iconstv (pc := 15) 1 (by decide) dX6_readSign_15 ?_
  refine fm_iadd (pc := 16) dX6_readSign_16 ?_
  refine fm_puti (pc := 17) lp_6_61 sh_1 rfl dX6_readSign_17 ?_
  obtain ⟨M3, eM3, h⟩ := fm_ltp h
  refine fm_cgm eM3 ?_
  refine fl_aload0 (pc := 20) dX6_readSign_20 ?_
  refine fm_geti (pc := 21) lk_6_61 sh_1 rfl dX6_readSign_21 ?_
  refine fl_aload0 (pc := 24) dX6_readSign_24 ?_
  refine fm_geti (pc := 25) lk_6_58 sh_1 rfl dX6_readSign_25 ?_
  refine fm_icmp_ge (pc := 28) 43 (by decide) dX6_readSign_28 (fun c28 => ?_) (fun c28 => ?_)
  · replace h := fm_itp c28 h
    refine fm_iconstv (pc := 43) 0 (by decide) dX6_readSign_43 ?_
    exact jn_X6_readSign_44 _ _  hq _ h
  · replace h := fm_itn c28 h
    refine fl_aload0 (pc := 31) dX6_readSign_31 ?_
    refine fm_getr (pc := 32) lk_6_9 sh_1 rfl dX6_readSign_32 ?_
    refine fl_aload0 (pc := 35) dX6_readSign_35 ?_
    refine fm_geti (pc := 36) lk_6_61 sh_1 rfl dX6_readSign_36 ?_
    obtain ⟨g31, h⟩ := fm_gdp h
    refine fm_bald (pc := 39) sh_2 (fm_inb_ok g31) dX6_readSign_39 ?_
    refine fm_goto (pc := 40) 44 (by decide) dX6_readSign_40 ?_
    exact jn_X6_readSign_44 _ _  hq _ h
/-! X6_wordOf -/
def G_X6_wordOf_2 : Nat → Int32 → Int32 → fm_M → Option (((Int32) ⊕ Int32) × fm_M)
  | 0, _, _, _ => none
  | n + 1, l1, l2, M =>
    if 22 ≤ l2 then (
      some (.inl l2, M)
    ) else (
      fm_gd (fm_inb l2 22) (
      if (M.1 3 (Int32.toNatClampNeg l2)) = l1 then (
        some (.inr (17 + l2), M)
      ) else (
        G_X6_wordOf_2 n l1 (l2 + 1) M
      ))
    )
def F_X6_wordOf (a1 : Int32) (M : fm_M) : Option (Int32 × fm_M) :=
    fm_bs (G_X6_wordOf_2 fm_fuel a1 0 M) (fun w2 M3 =>
      some (3, M3)) (fun r4 M => some (r4, M))
theorem lp_X6_wordOf_2 {d : Nat} {Q : Option Value → fm_M → Prop} {l1 : Int32}   {x : ((Int32) ⊕ Int32) × fm_M} (k1 : ∀ (v : Int32) (M2 : fm_M), x = (.inl v, M2) → fm_mw d mX6_wordOf Q 29 [some (.ref 1), some (.int l1), some (.int v)] [] M2) (k2 : ∀ (r : Int32) (M2 : fm_M), x = (.inr r, M2) → Q (some (.int r)) M2) : ∀ (n : Nat) (l2 : Int32) (M : fm_M), G_X6_wordOf_2 n l1 l2 M = some x → fm_mw d mX6_wordOf Q 2 [some (.ref 1), some (.int l1), some (.int l2)] [] M := by
  intro n
  induction n with
  | zero => intro l2 M h; simp [G_X6_wordOf_2] at h
  | succ n ih =>
    intro l2 M h
    rw [G_X6_wordOf_2] at h
    refine fl_iload2 (pc := 2) dX6_wordOf_2 ?_
    refine fm_bipushv (pc := 3) 22 (by decide) dX6_wordOf_3 ?_
    refine fm_icmp_ge (pc := 5) 29 (by decide) dX6_wordOf_5 (fun c5 => ?_) (fun c5 => ?_)
    · replace h := fm_itp c5 h
      refine fm_fgt [some (.ref 1), some (.int l1), some (.int l2)] (by simp [fm_sub]) ?_
      cases h
      exact k1 _ _ rfl
    · replace h := fm_itn c5 h
      refine fl_aload0 (pc := 8) dX6_wordOf_8 ?_
      refine fm_getr (pc := 9) lk_6_15 sh_1 rfl dX6_wordOf_9 ?_
      refine fl_iload2 (pc := 12) dX6_wordOf_12 ?_
      obtain ⟨g1, h⟩ := fm_gdp h
      refine fm_iald (pc := 13) sh_3 (fm_inb_ok g1) dX6_wordOf_13 ?_
      refine fl_iload1 (pc := 14) dX6_wordOf_14 ?_
      refine fm_icmp_ne (pc := 15) 23 (by decide) dX6_wordOf_15 (fun c15 => ?_) (fun c15 => ?_)
      · replace h := fm_itn c15 h
        refine fl_iinc2 (pc := 23) rfl 1 (by decide) (by decide) dX6_wordOf_23 ?_
        refine fm_goto (pc := 26) 2 (by decide) dX6_wordOf_26 ?_
        refine fm_fgt [some (.ref 1), some (.int l1), some (.int (l2 + 1))] (by simp [fm_sub]) ?_
        exact ih _ _ h
      · replace h := fm_itp c15 h
        refine fm_bipushv (pc := 18) 17 (by decide) dX6_wordOf_18 ?_
        refine fl_iload2 (pc := 20) dX6_wordOf_20 ?_
        refine fm_iadd (pc := 21) dX6_wordOf_21 ?_
        refine fm_iret (pc := 22) rfl ?_ dX6_wordOf_22
        cases h
        exact k2 _ _ rfl
theorem sp_X6_wordOf {d : Nat} {a1 : Int32} {M : fm_M} {x : Int32 × fm_M} {Q : Option Value → fm_M → Prop} (h : F_X6_wordOf a1 M = some x) (hq : Q (some (.int x.1)) x.2) : fm_ct d mX6_wordOf [.ref 1, .int a1] M Q := by
  rw [F_X6_wordOf] at h
  show fm_mw d mX6_wordOf Q 0 [some (.ref 1), some (.int a1), none] [] M
  refine fm_iconstv (pc := 0) 0 (by decide) dX6_wordOf_0 ?_
  refine fl_istore2 (pc := 1) rfl (by decide) dX6_wordOf_1 ?_
  obtain ⟨w9, M3, ew2, hl9, hr9⟩ := fm_bsp h
  refine lp_X6_wordOf_2  ?_ ?_ _ _ _ ew2
  · intro w2 M9 q9
    cases q9
    replace h := hl9 _ rfl
    refine fm_iconstv (pc := 29) 3 (by decide) dX6_wordOf_29 ?_
    refine fm_iret (pc := 30) rfl ?_ dX6_wordOf_30
    cases h
    exact hq
  · intro r9 M9 q9
    cases q9
    replace h := hr9 _ rfl
    cases h
    exact hq
/-! X6_readWord -/
def G_X6_readWord_2 : Nat → Int32 → fm_M → Option ((Int32) × fm_M)
  | 0, _, _ => none
  | n + 1, l1, M =>
    if (M.1 1 6) ≤ (M.1 1 7) then (
      some (l1, M)
    ) else (
      fm_gd (fm_inb (M.1 1 7) 700) (
      fm_bd (F_X6_isLetter (M.1 2 (Int32.toNatClampNeg (M.1 1 7))) M) (fun v2 M3 =>
      if v2 = 0 then (
        some (l1, M3)
      ) else (
        if 6 ≤ ((M3.1 1 7) - (M3.1 1 9)) then (
          fm_lt (fm_up M3 1 7 ((M3.1 1 7) + 1)) (fun M4 =>
          G_X6_readWord_2 n l1 M4)
        ) else (
          fm_gd (fm_inb (M3.1 1 7) 700) (
          fm_lt ((l1 ||| ((((M3.1 2 (Int32.toNatClampNeg (M3.1 1 7))) - 97) + 1) <<< ((5 * (5 - ((M3.1 1 7) - (M3.1 1 9)))) &&& 31)))) (fun x6 =>
          fm_lt (fm_up M3 1 7 ((M3.1 1 7) + 1)) (fun M7 =>
          G_X6_readWord_2 n x6 M7)))
        )
      )))
    )
def F_X6_readWord  (M : fm_M) : Option (Unit × fm_M) :=
    fm_bd (G_X6_readWord_2 fm_fuel 0 M) (fun w8 M9 =>
      fm_lt (fm_up M9 1 10 w8) (fun M10 =>
      if ((M10.1 1 7) - (M10.1 1 9)) ≤ 6 then (
        fm_bd (F_X6_wordOf w8 M10) (fun v11 M12 =>
        fm_lt (fm_up M12 1 8 v11) (fun M13 =>
        some ((), M13)))
      ) else (
        fm_lt (fm_up M10 1 8 1) (fun M14 =>
        some ((), M14))
      )))
theorem lp_X6_readWord_2 {d : Nat} {Q : Option Value → fm_M → Prop}    {x : (Int32) × fm_M} (k1 : ∀ (v : Int32) (M2 : fm_M), x = (v, M2) → fm_mw (d + 1) mX6_readWord Q 86 [some (.ref 1), some (.int v)] [] M2) : ∀ (n : Nat) (l1 : Int32) (M : fm_M), G_X6_readWord_2 n l1 M = some x → fm_mw (d + 1) mX6_readWord Q 2 [some (.ref 1), some (.int l1)] [] M := by
  intro n
  induction n with
  | zero => intro l1 M h; simp [G_X6_readWord_2] at h
  | succ n ih =>
    intro l1 M h
    rw [G_X6_readWord_2] at h
    refine fl_aload0 (pc := 2) dX6_readWord_2 ?_
    refine fm_geti (pc := 3) lk_6_61 sh_1 rfl dX6_readWord_3 ?_
    refine fl_aload0 (pc := 6) dX6_readWord_6 ?_
    refine fm_geti (pc := 7) lk_6_58 sh_1 rfl dX6_readWord_7 ?_
    refine fm_icmp_ge (pc := 10) 86 (by decide) dX6_readWord_10 (fun c10 => ?_) (fun c10 => ?_)
    · replace h := fm_itp c10 h
      refine fm_fgt [some (.ref 1), some (.int l1)] (by simp [fm_sub]) ?_
      cases h
      exact k1 _ _ rfl
    · replace h := fm_itn c10 h
      refine fl_aload0 (pc := 13) dX6_readWord_13 ?_
      refine fm_getr (pc := 14) lk_6_9 sh_1 rfl dX6_readWord_14 ?_
      refine fl_aload0 (pc := 17) dX6_readWord_17 ?_
      refine fm_geti (pc := 18) lk_6_61 sh_1 rfl dX6_readWord_18 ?_
      obtain ⟨g1, h⟩ := fm_gdp h
      refine fm_bald (pc := 21) sh_2 (fm_inb_ok g1) dX6_readWord_21 ?_
      obtain ⟨v2, M3, ev2, h⟩ := fm_bdp h
      refine fm_callS (pc := 22) mX6_isLetter [_] _ rfl csX6_isLetter ml_6_221 rfl (Nat.le_of_ble_eq_true rfl) (Nat.le_of_ble_eq_true rfl) dX6_readWord_22 ?_
      refine sp_X6_isLetter ev2 ?_
      refine fm_ret1 ?_
      refine fm_if_eq (pc := 25) 86 (by decide) dX6_readWord_25 (fun c25 => ?_) (fun c25 => ?_)
      · replace h := fm_itp c25 h
        refine fm_fgt [some (.ref 1), some (.int l1)] (by simp [fm_sub]) ?_
        cases h
        exact k1 _ _ rfl
      · replace h := fm_itn c25 h
        refine fl_aload0 (pc := 28) dX6_readWord_28 ?_
        refine fm_geti (pc := 29) lk_6_61 sh_1 rfl dX6_readWord_29 ?_
        refine fl_aload0 (pc := 32) dX6_readWord_32 ?_
        refine fm_geti (pc := 33) lk_6_76 sh_1 rfl dX6_readWord_33 ?_
        refine fm_isub (pc := 36) dX6_readWord_36 ?_
        refine fm_bipushv (pc := 37) 6 (by decide) dX6_readWord_37 ?_
        refine fm_icmp_ge (pc := 39) 73 (by decide) dX6_readWord_39 (fun c39 => ?_) (fun c39 => ?_)
        · replace h := fm_itp c39 h
          refine fl_aload0 (pc := 73) dX6_readWord_73 ?_
          refine fm_dup (pc := 74) rfl dX6_readWord_74 ?_
          refine fm_geti (pc := 75) lk_6_61 sh_1 rfl dX6_readWord_75 ?_
          refine fm_iconstv (pc := 78) 1 (by decide) dX6_readWord_78 ?_
          refine fm_iadd (pc := 79) dX6_readWord_79 ?_
          refine fm_puti (pc := 80) lp_6_61 sh_1 rfl dX6_readWord_80 ?_
          obtain ⟨M4, eM4, h⟩ := fm_ltp h
          refine fm_cgm eM4 ?_
          refine fm_goto (pc := 83) 2 (by decide) dX6_readWord_83 ?_
          refine fm_fgt [some (.ref 1), some (.int l1)] (by simp [fm_sub]) ?_
          exact ih _ _ h
        · replace h := fm_itn c39 h
          refine fl_iload1 (pc := 42) dX6_readWord_42 ?_
          refine fl_aload0 (pc := 43) dX6_readWord_43 ?_
          refine fm_getr (pc := 44) lk_6_9 sh_1 rfl dX6_readWord_44 ?_
          refine fl_aload0 (pc := 47) dX6_readWord_47 ?_
          refine fm_geti (pc := 48) lk_6_61 sh_1 rfl dX6_readWord_48 ?_
          obtain ⟨g5, h⟩ := fm_gdp h
          refine fm_bald (pc := 51) sh_2 (fm_inb_ok g5) dX6_readWord_51 ?_
          refine fm_bipushv (pc := 52) 97 (by decide) dX6_readWord_52 ?_
          refine fm_isub (pc := 54) dX6_readWord_54 ?_
          refine fm_iconstv (pc := 55) 1 (by decide) dX6_readWord_55 ?_
          refine fm_iadd (pc := 56) dX6_readWord_56 ?_
          refine fm_iconstv (pc := 57) 5 (by decide) dX6_readWord_57 ?_
          refine fm_iconstv (pc := 58) 5 (by decide) dX6_readWord_58 ?_
          refine fl_aload0 (pc := 59) dX6_readWord_59 ?_
          refine fm_geti (pc := 60) lk_6_61 sh_1 rfl dX6_readWord_60 ?_
          refine fl_aload0 (pc := 63) dX6_readWord_63 ?_
          refine fm_geti (pc := 64) lk_6_76 sh_1 rfl dX6_readWord_64 ?_
          refine fm_isub (pc := 67) dX6_readWord_67 ?_
          refine fm_isub (pc := 68) dX6_readWord_68 ?_
          refine fm_imul (pc := 69) dX6_readWord_69 ?_
          refine fm_ishl (pc := 70) dX6_readWord_70 ?_
          refine fm_ior (pc := 71) dX6_readWord_71 ?_
          obtain ⟨x6, ex6, h⟩ := fm_ltp h
          refine fm_cgi ex6 ?_
          refine fl_istore1 (pc := 72) rfl (by decide) dX6_readWord_72 ?_
          refine fl_aload0 (pc := 73) dX6_readWord_73 ?_
          refine fm_dup (pc := 74) rfl dX6_readWord_74 ?_
          refine fm_geti (pc := 75) lk_6_61 sh_1 rfl dX6_readWord_75 ?_
          refine fm_iconstv (pc := 78) 1 (by decide) dX6_readWord_78 ?_
          refine fm_iadd (pc := 79) dX6_readWord_79 ?_
          refine fm_puti (pc := 80) lp_6_61 sh_1 rfl dX6_readWord_80 ?_
          obtain ⟨M7, eM7, h⟩ := fm_ltp h
          refine fm_cgm eM7 ?_
          refine fm_goto (pc := 83) 2 (by decide) dX6_readWord_83 ?_
          refine fm_fgt [some (.ref 1), some (.int x6)] (by simp [fm_sub]) ?_
          exact ih _ _ h
theorem sp_X6_readWord {d : Nat}  {M : fm_M} {x : Unit × fm_M} {Q : Option Value → fm_M → Prop} (h : F_X6_readWord  M = some x) (hq : Q none x.2) : fm_ct (d + 1) mX6_readWord [.ref 1] M Q := by
  rw [F_X6_readWord] at h
  show fm_mw (d + 1) mX6_readWord Q 0 [some (.ref 1), none] [] M
  refine fm_iconstv (pc := 0) 0 (by decide) dX6_readWord_0 ?_
  refine fl_istore1 (pc := 1) rfl (by decide) dX6_readWord_1 ?_
  obtain ⟨w8, M9, ew8, h⟩ := fm_bdp h
  refine lp_X6_readWord_2  ?_ _ _ _ ew8
  intro w89 M99 q9
  cases q9
  refine fl_aload0 (pc := 86) dX6_readWord_86 ?_
  refine fl_iload1 (pc := 87) dX6_readWord_87 ?_
  refine fm_puti (pc := 88) lp_6_126 sh_1 rfl dX6_readWord_88 ?_
  obtain ⟨M10, eM10, h⟩ := fm_ltp h
  refine fm_cgm eM10 ?_
  refine fl_aload0 (pc := 91) dX6_readWord_91 ?_
  refine fl_aload0 (pc := 92) dX6_readWord_92 ?_
  refine fm_geti (pc := 93) lk_6_61 sh_1 rfl dX6_readWord_93 ?_
  refine fl_aload0 (pc := 96) dX6_readWord_96 ?_
  refine fm_geti (pc := 97) lk_6_76 sh_1 rfl dX6_readWord_97 ?_
  refine fm_isub (pc := 100) dX6_readWord_100 ?_
  refine fm_bipushv (pc := 101) 6 (by decide) dX6_readWord_101 ?_
  refine fm_icmp_le (pc := 103) 110 (by decide) dX6_readWord_103 (fun c103 => ?_) (fun c103 => ?_)
  · replace h := fm_itp c103 h
    refine fl_aload0 (pc := 110) dX6_readWord_110 ?_
    refine fl_iload1 (pc := 111) dX6_readWord_111 ?_
    obtain ⟨v11, M12, ev11, h⟩ := fm_bdp h
    refine fm_callV (pc := 112) mX6_wordOf [_] _ rfl cvX6_wordOf ml_6_236 sh_1 rfl rfl (Nat.le_of_ble_eq_true rfl) (Nat.le_of_ble_eq_true rfl) dX6_readWord_112 ?_
    refine sp_X6_wordOf ev11 ?_
    refine fm_ret1 ?_
    refine fm_puti (pc := 115) lp_6_73 sh_1 rfl dX6_readWord_115 ?_
    obtain ⟨M13, eM13, h⟩ := fm_ltp h
    refine fm_cgm eM13 ?_
    refine fm_vret (pc := 118) rfl ?_ dX6_readWord_118
    cases h
    exact hq
  · replace h := fm_itn c103 h
    refine fm_iconstv (pc := 106) 1 (by decide) dX6_readWord_106 ?_
    refine fm_goto (pc := 107) 115 (by decide) dX6_readWord_107 ?_
    refine fm_puti (pc := 115) lp_6_73 sh_1 rfl dX6_readWord_115 ?_
    obtain ⟨M14, eM14, h⟩ := fm_ltp h
    refine fm_cgm eM14 ?_
    refine fm_vret (pc := 118) rfl ?_ dX6_readWord_118
    cases h
    exact hq
/-! X6_advance -/
def G_X6_advance_0 : Nat → fm_M → Option ((Unit) × fm_M)
  | 0, _ => none
  | n + 1, M =>
    if (M.1 1 6) ≤ (M.1 1 7) then (
      some ((), M)
    ) else (
      fm_gd (fm_inb (M.1 1 7) 700) (
      if (M.1 2 (Int32.toNatClampNeg (M.1 1 7))) = 32 then (
        fm_lt (fm_up M 1 7 ((M.1 1 7) + 1)) (fun M2 =>
        G_X6_advance_0 n M2)
      ) else (
        fm_gd (fm_inb (M.1 1 7) 700) (
        if (M.1 2 (Int32.toNatClampNeg (M.1 1 7))) = 10 then (
          fm_lt (fm_up M 1 7 ((M.1 1 7) + 1)) (fun M4 =>
          G_X6_advance_0 n M4)
        ) else (
          some ((), M)
        ))
      ))
    )
def F_X6_advance  (M : fm_M) : Option (Unit × fm_M) :=
    fm_bd (G_X6_advance_0 fm_fuel M) (fun w5 M6 =>
      fm_lt (fm_up M6 1 9 (M6.1 1 7)) (fun M7 =>
      fm_lt (fm_up M7 1 10 0) (fun M8 =>
      if (M8.1 1 7) < (M8.1 1 6) then (
        fm_gd (fm_inb (M8.1 1 7) 700) (
        fm_bd (F_X6_isLetter (M8.1 2 (Int32.toNatClampNeg (M8.1 1 7))) M8) (fun v10 M11 =>
        if v10 = 0 then (
          fm_gd (fm_inb (M11.1 1 7) 700) (
          fm_bd (F_X6_isDigit (M11.1 2 (Int32.toNatClampNeg (M11.1 1 7))) M11) (fun v13 M14 =>
          if v13 = 0 then (
            fm_bd (F_X6_readSign M14) (fun v15 M16 =>
            some ((), M16))
          ) else (
            fm_bd (F_X6_readNumber M14) (fun v17 M18 =>
            some ((), M18))
          )))
        ) else (
          fm_bd (F_X6_readWord M11) (fun v19 M20 =>
          some ((), M20))
        )))
      ) else (
        fm_lt (fm_up M8 1 8 0) (fun M21 =>
        some ((), M21))
      ))))
theorem lp_X6_advance_0 {d : Nat} {Q : Option Value → fm_M → Prop}    {x : (Unit) × fm_M} (k1 : ∀ (v : Unit) (M2 : fm_M), x = (v, M2) → fm_mw (d + 2) mX6_advance Q 52 [some (.ref 1)] [] M2) : ∀ (n : Nat)  (M : fm_M), G_X6_advance_0 n M = some x → fm_mw (d + 2) mX6_advance Q 0 [some (.ref 1)] [] M := by
  intro n
  induction n with
  | zero => intro M h; simp [G_X6_advance_0] at h
  | succ n ih =>
    intro M h
    rw [G_X6_advance_0] at h
    refine fl_aload0 (pc := 0) dX6_advance_0 ?_
    refine fm_geti (pc := 1) lk_6_61 sh_1 rfl dX6_advance_1 ?_
    refine fl_aload0 (pc := 4) dX6_advance_4 ?_
    refine fm_geti (pc := 5) lk_6_58 sh_1 rfl dX6_advance_5 ?_
    refine fm_icmp_ge (pc := 8) 52 (by decide) dX6_advance_8 (fun c8 => ?_) (fun c8 => ?_)
    · replace h := fm_itp c8 h
      refine fm_fgt [some (.ref 1)] (by simp [fm_sub]) ?_
      cases h
      exact k1 _ _ rfl
    · replace h := fm_itn c8 h
      refine fl_aload0 (pc := 11) dX6_advance_11 ?_
      refine fm_getr (pc := 12) lk_6_9 sh_1 rfl dX6_advance_12 ?_
      refine fl_aload0 (pc := 15) dX6_advance_15 ?_
      refine fm_geti (pc := 16) lk_6_61 sh_1 rfl dX6_advance_16 ?_
      obtain ⟨g1, h⟩ := fm_gdp h
      refine fm_bald (pc := 19) sh_2 (fm_inb_ok g1) dX6_advance_19 ?_
      refine fm_bipushv (pc := 20) 32 (by decide) dX6_advance_20 ?_
      refine fm_icmp_eq (pc := 22) 39 (by decide) dX6_advance_22 (fun c22 => ?_) (fun c22 => ?_)
      · replace h := fm_itp c22 h
        refine fl_aload0 (pc := 39) dX6_advance_39 ?_
        refine fm_dup (pc := 40) rfl dX6_advance_40 ?_
        refine fm_geti (pc := 41) lk_6_61 sh_1 rfl dX6_advance_41 ?_
        refine fm_iconstv (pc := 44) 1 (by decide) dX6_advance_44 ?_
        refine fm_iadd (pc := 45) dX6_advance_45 ?_
        refine fm_puti (pc := 46) lp_6_61 sh_1 rfl dX6_advance_46 ?_
        obtain ⟨M2, eM2, h⟩ := fm_ltp h
        refine fm_cgm eM2 ?_
        refine fm_goto (pc := 49) 0 (by decide) dX6_advance_49 ?_
        refine fm_fgt [some (.ref 1)] (by simp [fm_sub]) ?_
        exact ih  _ h
      · replace h := fm_itn c22 h
        refine fl_aload0 (pc := 25) dX6_advance_25 ?_
        refine fm_getr (pc := 26) lk_6_9 sh_1 rfl dX6_advance_26 ?_
        refine fl_aload0 (pc := 29) dX6_advance_29 ?_
        refine fm_geti (pc := 30) lk_6_61 sh_1 rfl dX6_advance_30 ?_
        obtain ⟨g3, h⟩ := fm_gdp h
        refine fm_bald (pc := 33) sh_2 (fm_inb_ok g3) dX6_advance_33 ?_
        refine fm_bipushv (pc := 34) 10 (by decide) dX6_advance_34 ?_
        refine fm_icmp_ne (pc := 36) 52 (by decide) dX6_advance_36 (fun c36 => ?_) (fun c36 => ?_)
        · replace h := fm_itn c36 h
          refine fm_fgt [some (.ref 1)] (by simp [fm_sub]) ?_
          cases h
          exact k1 _ _ rfl
        · replace h := fm_itp c36 h
          refine fl_aload0 (pc := 39) dX6_advance_39 ?_
          refine fm_dup (pc := 40) rfl dX6_advance_40 ?_
          refine fm_geti (pc := 41) lk_6_61 sh_1 rfl dX6_advance_41 ?_
          refine fm_iconstv (pc := 44) 1 (by decide) dX6_advance_44 ?_
          refine fm_iadd (pc := 45) dX6_advance_45 ?_
          refine fm_puti (pc := 46) lp_6_61 sh_1 rfl dX6_advance_46 ?_
          obtain ⟨M4, eM4, h⟩ := fm_ltp h
          refine fm_cgm eM4 ?_
          refine fm_goto (pc := 49) 0 (by decide) dX6_advance_49 ?_
          refine fm_fgt [some (.ref 1)] (by simp [fm_sub]) ?_
          exact ih  _ h
theorem sp_X6_advance {d : Nat}  {M : fm_M} {x : Unit × fm_M} {Q : Option Value → fm_M → Prop} (h : F_X6_advance  M = some x) (hq : Q none x.2) : fm_ct (d + 2) mX6_advance [.ref 1] M Q := by
  rw [F_X6_advance] at h
  show fm_mw (d + 2) mX6_advance Q 0 [some (.ref 1)] [] M
  obtain ⟨w5, M6, ew5, h⟩ := fm_bdp h
  refine lp_X6_advance_0  ?_ _  _ ew5
  intro w59 M69 q9
  cases q9
  refine fl_aload0 (pc := 52) dX6_advance_52 ?_
  refine fl_aload0 (pc := 53) dX6_advance_53 ?_
  refine fm_geti (pc := 54) lk_6_61 sh_1 rfl dX6_advance_54 ?_
  refine fm_puti (pc := 57) lp_6_76 sh_1 rfl dX6_advance_57 ?_
  obtain ⟨M7, eM7, h⟩ := fm_ltp h
  refine fm_cgm eM7 ?_
  refine fl_aload0 (pc := 60) dX6_advance_60 ?_
  refine fm_iconstv (pc := 61) 0 (by decide) dX6_advance_61 ?_
  refine fm_puti (pc := 62) lp_6_126 sh_1 rfl dX6_advance_62 ?_
  obtain ⟨M8, eM8, h⟩ := fm_ltp h
  refine fm_cgm eM8 ?_
  refine fl_aload0 (pc := 65) dX6_advance_65 ?_
  refine fm_geti (pc := 66) lk_6_61 sh_1 rfl dX6_advance_66 ?_
  refine fl_aload0 (pc := 69) dX6_advance_69 ?_
  refine fm_geti (pc := 70) lk_6_58 sh_1 rfl dX6_advance_70 ?_
  refine fm_icmp_lt (pc := 73) 84 (by decide) dX6_advance_73 (fun c73 => ?_) (fun c73 => ?_)
  · replace h := fm_itp c73 h
    refine fl_aload0 (pc := 84) dX6_advance_84 ?_
    refine fm_getr (pc := 85) lk_6_9 sh_1 rfl dX6_advance_85 ?_
    refine fl_aload0 (pc := 88) dX6_advance_88 ?_
    refine fm_geti (pc := 89) lk_6_61 sh_1 rfl dX6_advance_89 ?_
    obtain ⟨g9, h⟩ := fm_gdp h
    refine fm_bald (pc := 92) sh_2 (fm_inb_ok g9) dX6_advance_92 ?_
    obtain ⟨v10, M11, ev10, h⟩ := fm_bdp h
    refine fm_callS (pc := 93) mX6_isLetter [_] _ rfl csX6_isLetter ml_6_221 rfl (Nat.le_of_ble_eq_true rfl) (Nat.le_of_ble_eq_true rfl) dX6_advance_93 ?_
    refine sp_X6_isLetter ev10 ?_
    refine fm_ret1 ?_
    refine fm_if_eq (pc := 96) 106 (by decide) dX6_advance_96 (fun c96 => ?_) (fun c96 => ?_)
    · replace h := fm_itp c96 h
      refine fl_aload0 (pc := 106) dX6_advance_106 ?_
      refine fm_getr (pc := 107) lk_6_9 sh_1 rfl dX6_advance_107 ?_
      refine fl_aload0 (pc := 110) dX6_advance_110 ?_
      refine fm_geti (pc := 111) lk_6_61 sh_1 rfl dX6_advance_111 ?_
      obtain ⟨g12, h⟩ := fm_gdp h
      refine fm_bald (pc := 114) sh_2 (fm_inb_ok g12) dX6_advance_114 ?_
      obtain ⟨v13, M14, ev13, h⟩ := fm_bdp h
      refine fm_callS (pc := 115) mX6_isDigit [_] _ rfl csX6_isDigit ml_6_227 rfl (Nat.le_of_ble_eq_true rfl) (Nat.le_of_ble_eq_true rfl) dX6_advance_115 ?_
      refine sp_X6_isDigit ev13 ?_
      refine fm_ret1 ?_
      refine fm_if_eq (pc := 118) 128 (by decide) dX6_advance_118 (fun c118 => ?_) (fun c118 => ?_)
      · replace h := fm_itp c118 h
        refine fl_aload0 (pc := 128) dX6_advance_128 ?_
        obtain ⟨v15, M16, ev15, h⟩ := fm_bdp h
        refine fm_callV (pc := 129) mX6_readSign [] _ rfl cvX6_readSign ml_6_233 sh_1 rfl rfl (Nat.le_of_ble_eq_true rfl) (Nat.le_of_ble_eq_true rfl) dX6_advance_129 ?_
        refine sp_X6_readSign ev15 ?_
        refine fm_ret0 ?_
        refine fm_vret (pc := 132) rfl ?_ dX6_advance_132
        cases h
        exact hq
      · replace h := fm_itn c118 h
        refine fl_aload0 (pc := 121) dX6_advance_121 ?_
        obtain ⟨v17, M18, ev17, h⟩ := fm_bdp h
        refine fm_callV (pc := 122) mX6_readNumber [] _ rfl cvX6_readNumber ml_6_230 sh_1 rfl rfl (Nat.le_of_ble_eq_true rfl) (Nat.le_of_ble_eq_true rfl) dX6_advance_122 ?_
        refine sp_X6_readNumber ev17 ?_
        refine fm_ret0 ?_
        refine fm_goto (pc := 125) 132 (by decide) dX6_advance_125 ?_
        refine fm_vret (pc := 132) rfl ?_ dX6_advance_132
        cases h
        exact hq
    · replace h := fm_itn c96 h
      refine fl_aload0 (pc := 99) dX6_advance_99 ?_
      obtain ⟨v19, M20, ev19, h⟩ := fm_bdp h
      refine fm_callV (pc := 100) mX6_readWord [] _ rfl cvX6_readWord ml_6_224 sh_1 rfl rfl (Nat.le_of_ble_eq_true rfl) (Nat.le_of_ble_eq_true rfl) dX6_advance_100 ?_
      refine sp_X6_readWord ev19 ?_
      refine fm_ret0 ?_
      refine fm_goto (pc := 103) 132 (by decide) dX6_advance_103 ?_
      refine fm_vret (pc := 132) rfl ?_ dX6_advance_132
      cases h
      exact hq
  · replace h := fm_itn c73 h
    refine fl_aload0 (pc := 76) dX6_advance_76 ?_
    refine fm_iconstv (pc := 77) 0 (by decide) dX6_advance_77 ?_
    refine fm_puti (pc := 78) lp_6_73 sh_1 rfl dX6_advance_78 ?_
    obtain ⟨M21, eM21, h⟩ := fm_ltp h
    refine fm_cgm eM21 ?_
    refine fm_goto (pc := 81) 132 (by decide) dX6_advance_81 ?_
    refine fm_vret (pc := 132) rfl ?_ dX6_advance_132
    cases h
    exact hq
/-! X8_clear -/
def F_X8_clear (a0 : Nat) (M : fm_M) : Option (Unit × fm_M) :=
    fm_gd (fm_isTd a0) (
    fm_lt (fm_up M a0 0 0) (fun M1 =>
    fm_lt (fm_up M1 a0 6 0) (fun M2 =>
    fm_lt (fm_up M2 a0 7 0) (fun M3 =>
    fm_lt (fm_up M3 a0 11 0) (fun M4 =>
    fm_lt (fm_up M4 a0 13 10) (fun M5 =>
    fm_lt (fm_up M5 a0 14 100) (fun M6 =>
    fm_lt (fm_up M6 a0 15 5) (fun M7 =>
    fm_lt (fm_up M7 a0 16 0) (fun M8 =>
    fm_bd (F_X3_clear (a0 + 10) M8) (fun v9 M10 =>
    some ((), M10)))))))))))
theorem sp_X8_clear {d : Nat} {a0 : Nat} {M : fm_M} {x : Unit × fm_M} {Q : Option Value → fm_M → Prop} (h : F_X8_clear a0 M = some x) (hq : Q none x.2) : fm_ct (d + 2) mX8_clear [.ref a0] M Q := by
  rw [F_X8_clear] at h
  show fm_mw (d + 2) mX8_clear Q 0 [some (.ref a0)] [] M
  obtain ⟨ga0, h⟩ := fm_gdp h
  refine fl_aload0 (pc := 0) dX8_clear_0 ?_
  refine fm_iconstv (pc := 1) 0 (by decide) dX8_clear_1 ?_
  refine fm_puti (pc := 2) lp_8_56 (shTd0 ga0) rfl dX8_clear_2 ?_
  obtain ⟨M1, eM1, h⟩ := fm_ltp h
  refine fm_cgm eM1 ?_
  refine fl_aload0 (pc := 5) dX8_clear_5 ?_
  refine fm_iconstv (pc := 6) 0 (by decide) dX8_clear_6 ?_
  refine fm_puti (pc := 7) lp_8_59 (shTd0 ga0) rfl dX8_clear_7 ?_
  obtain ⟨M2, eM2, h⟩ := fm_ltp h
  refine fm_cgm eM2 ?_
  refine fl_aload0 (pc := 10) dX8_clear_10 ?_
  refine fm_iconstv (pc := 11) 0 (by decide) dX8_clear_11 ?_
  refine fm_puti (pc := 12) lp_8_62 (shTd0 ga0) rfl dX8_clear_12 ?_
  obtain ⟨M3, eM3, h⟩ := fm_ltp h
  refine fm_cgm eM3 ?_
  refine fl_aload0 (pc := 15) dX8_clear_15 ?_
  refine fm_iconstv (pc := 16) 0 (by decide) dX8_clear_16 ?_
  refine fm_puti (pc := 17) lp_8_65 (shTd0 ga0) rfl dX8_clear_17 ?_
  obtain ⟨M4, eM4, h⟩ := fm_ltp h
  refine fm_cgm eM4 ?_
  refine fl_aload0 (pc := 20) dX8_clear_20 ?_
  refine fm_bipushv (pc := 21) 10 (by decide) dX8_clear_21 ?_
  refine fm_puti (pc := 23) lp_8_39 (shTd0 ga0) rfl dX8_clear_23 ?_
  obtain ⟨M5, eM5, h⟩ := fm_ltp h
  refine fm_cgm eM5 ?_
  refine fl_aload0 (pc := 26) dX8_clear_26 ?_
  refine fm_bipushv (pc := 27) 100 (by decide) dX8_clear_27 ?_
  refine fm_puti (pc := 29) lp_8_43 (shTd0 ga0) rfl dX8_clear_29 ?_
  obtain ⟨M6, eM6, h⟩ := fm_ltp h
  refine fm_cgm eM6 ?_
  refine fl_aload0 (pc := 32) dX8_clear_32 ?_
  refine fm_iconstv (pc := 33) 5 (by decide) dX8_clear_33 ?_
  refine fm_puti (pc := 34) lp_8_46 (shTd0 ga0) rfl dX8_clear_34 ?_
  obtain ⟨M7, eM7, h⟩ := fm_ltp h
  refine fm_cgm eM7 ?_
  refine fl_aload0 (pc := 37) dX8_clear_37 ?_
  refine fm_iconstv (pc := 38) 0 (by decide) dX8_clear_38 ?_
  refine fm_puti (pc := 39) lp_8_68 (shTd0 ga0) rfl dX8_clear_39 ?_
  obtain ⟨M8, eM8, h⟩ := fm_ltp h
  refine fm_cgm eM8 ?_
  refine fl_aload0 (pc := 42) dX8_clear_42 ?_
  refine fm_getr (pc := 43) lk_8_52 (shTd0 ga0) rfl dX8_clear_43 ?_
  obtain ⟨v9, M10, ev9, h⟩ := fm_bdp h
  refine fm_callV (pc := 46) mX3_clear [] _ rfl cvX3_clear ml_8_71 (shTd10 ga0) rfl rfl (Nat.le_of_ble_eq_true rfl) (Nat.le_of_ble_eq_true rfl) dX8_clear_46 ?_
  refine sp_X3_clear ev9 ?_
  refine fm_ret0 ?_
  refine fm_vret (pc := 49) rfl ?_ dX8_clear_49
  cases h
  exact hq
/-! X6_begin -/
def F_X6_begin (a1 : Int32) (M : fm_M) : Option (Unit × fm_M) :=
    fm_lt (Int32.toNatClampNeg (M.1 1 5)) (fun t1 =>
    fm_gd (fm_isTd t1) (
    fm_bd (F_X8_clear t1 M) (fun v3 M4 =>
    fm_lt (fm_up M4 1 6 (i_min a1 700)) (fun M5 =>
    fm_lt (fm_up M5 1 7 0) (fun M6 =>
    fm_lt (fm_up M6 1 2 0) (fun M7 =>
    fm_lt (fm_up M7 1 11 0) (fun M8 =>
    fm_lt (fm_up M8 1 3 0) (fun M9 =>
    fm_lt (fm_up M9 1 4 (-1)) (fun M10 =>
    fm_bd (F_X6_advance M10) (fun v11 M12 =>
    some ((), M12)))))))))))
theorem sp_X6_begin {d : Nat} {a1 : Int32} {M : fm_M} {x : Unit × fm_M} {Q : Option Value → fm_M → Prop} (h : F_X6_begin a1 M = some x) (hq : Q none x.2) : fm_ct (d + 3) mX6_begin [.ref 1, .int a1] M Q := by
  rw [F_X6_begin] at h
  show fm_mw (d + 3) mX6_begin Q 0 [some (.ref 1), some (.int a1)] [] M
  refine fl_aload0 (pc := 0) dX6_begin_0 ?_
  obtain ⟨t1, et1, h⟩ := fm_ltp h
  obtain ⟨g2, h⟩ := fm_gdp h
  refine fm_getm (pc := 1) (fm_nn et1 g2) lk_6_26 sh_1 rfl dX6_begin_1 ?_
  refine fm_cgr et1 ?_
  obtain ⟨v3, M4, ev3, h⟩ := fm_bdp h
  refine fm_callV (pc := 4) mX8_clear [] _ rfl cvX8_clear ml_6_49 (shTd0 g2) rfl rfl (Nat.le_of_ble_eq_true rfl) (Nat.le_of_ble_eq_true rfl) dX6_begin_4 ?_
  refine sp_X8_clear ev3 ?_
  refine fm_ret0 ?_
  refine fl_aload0 (pc := 7) dX6_begin_7 ?_
  refine fl_iload1 (pc := 8) dX6_begin_8 ?_
  refine fm_sipushv (pc := 9) 700 (by decide) dX6_begin_9 ?_
  refine fq_mmin (pc := 12) ml_6_52 (Nat.le_of_ble_eq_true rfl) dX6_begin_12 ?_
  refine fm_puti (pc := 15) lp_6_58 sh_1 rfl dX6_begin_15 ?_
  obtain ⟨M5, eM5, h⟩ := fm_ltp h
  refine fm_cgm eM5 ?_
  refine fl_aload0 (pc := 18) dX6_begin_18 ?_
  refine fm_iconstv (pc := 19) 0 (by decide) dX6_begin_19 ?_
  refine fm_puti (pc := 20) lp_6_61 sh_1 rfl dX6_begin_20 ?_
  obtain ⟨M6, eM6, h⟩ := fm_ltp h
  refine fm_cgm eM6 ?_
  refine fl_aload0 (pc := 23) dX6_begin_23 ?_
  refine fm_iconstv (pc := 24) 0 (by decide) dX6_begin_24 ?_
  refine fm_puti (pc := 25) lp_6_46 sh_1 rfl dX6_begin_25 ?_
  obtain ⟨M7, eM7, h⟩ := fm_ltp h
  refine fm_cgm eM7 ?_
  refine fl_aload0 (pc := 28) dX6_begin_28 ?_
  refine fm_iconstv (pc := 29) 0 (by decide) dX6_begin_29 ?_
  refine fm_puti (pc := 30) lp_6_64 sh_1 rfl dX6_begin_30 ?_
  obtain ⟨M8, eM8, h⟩ := fm_ltp h
  refine fm_cgm eM8 ?_
  refine fl_aload0 (pc := 33) dX6_begin_33 ?_
  refine fm_iconstv (pc := 34) 0 (by decide) dX6_begin_34 ?_
  refine fm_puti (pc := 35) lp_6_67 sh_1 rfl dX6_begin_35 ?_
  obtain ⟨M9, eM9, h⟩ := fm_ltp h
  refine fm_cgm eM9 ?_
  refine fl_aload0 (pc := 38) dX6_begin_38 ?_
  refine fm_iconstv (pc := 39) (-1) (by decide) dX6_begin_39 ?_
  refine fm_puti (pc := 40) lp_6_19 sh_1 rfl dX6_begin_40 ?_
  obtain ⟨M10, eM10, h⟩ := fm_ltp h
  refine fm_cgm eM10 ?_
  refine fl_aload0 (pc := 43) dX6_begin_43 ?_
  obtain ⟨v11, M12, ev11, h⟩ := fm_bdp h
  refine fm_callV (pc := 44) mX6_advance [] _ rfl cvX6_advance ml_6_70 sh_1 rfl rfl (Nat.le_of_ble_eq_true rfl) (Nat.le_of_ble_eq_true rfl) dX6_begin_44 ?_
  refine sp_X6_advance ev11 ?_
  refine fm_ret0 ?_
  refine fm_vret (pc := 47) rfl ?_ dX6_begin_47
  cases h
  exact hq
/-! X6_exchange -/
def F_X6_exchange (a1 : Nat) (M : fm_M) : Option (Nat × fm_M) :=
    fm_gd (fm_isTd a1) (
    fm_lt (Int32.toNatClampNeg (M.1 1 5)) (fun t1 =>
    fm_gd (fm_isTd t1) (
    fm_lt (fm_up M 1 5 (nI a1)) (fun M3 =>
    some (t1, M3)))))
theorem sp_X6_exchange {d : Nat} {a1 : Nat} {M : fm_M} {x : Nat × fm_M} {Q : Option Value → fm_M → Prop} (h : F_X6_exchange a1 M = some x) (hq : Q (some (.ref x.1)) x.2) : fm_ct d mX6_exchange [.ref 1, .ref a1] M Q := by
  rw [F_X6_exchange] at h
  show fm_mw d mX6_exchange Q 0 [some (.ref 1), some (.ref a1), none] [] M
  obtain ⟨ga1, h⟩ := fm_gdp h
  refine fl_aload0 (pc := 0) dX6_exchange_0 ?_
  obtain ⟨t1, et1, h⟩ := fm_ltp h
  obtain ⟨g2, h⟩ := fm_gdp h
  refine fm_getm (pc := 1) (fm_nn et1 g2) lk_6_26 sh_1 rfl dX6_exchange_1 ?_
  refine fm_cgr et1 ?_
  refine fl_astore2 (pc := 4) rfl (by decide) dX6_exchange_4 ?_
  refine fl_aload0 (pc := 5) dX6_exchange_5 ?_
  refine fl_aload1 (pc := 6) dX6_exchange_6 ?_
  refine fm_putm (pc := 7) (shTd_lt ga1) lp_6_26 sh_1 rfl dX6_exchange_7 ?_
  obtain ⟨M3, eM3, h⟩ := fm_ltp h
  refine fm_cgm eM3 ?_
  refine fl_aload2 (pc := 10) dX6_exchange_10 ?_
  refine fm_aret (pc := 11) rfl ?_ dX6_exchange_11
  cases h
  exact hq
/-! X6_hasMore -/
def F_X6_hasMore  (M : fm_M) : Option (Int32 × fm_M) :=
    if (M.1 1 8) = 0 then (
      some (0, M)
    ) else (
      if (M.1 1 3) = 0 then (
        some (1, M)
      ) else (
        some (0, M)
      )
    )
theorem sp_X6_hasMore {d : Nat}  {M : fm_M} {x : Int32 × fm_M} {Q : Option Value → fm_M → Prop} (h : F_X6_hasMore  M = some x) (hq : Q (some (.int x.1)) x.2) : fm_ct d mX6_hasMore [.ref 1] M Q := by
  rw [F_X6_hasMore] at h
  show fm_mw d mX6_hasMore Q 0 [some (.ref 1)] [] M
  refine fl_aload0 (pc := 0) dX6_hasMore_0 ?_
  refine fm_geti (pc := 1) lk_6_73 sh_1 rfl dX6_hasMore_1 ?_
  refine fm_if_eq (pc := 4) 18 (by decide) dX6_hasMore_4 (fun c4 => ?_) (fun c4 => ?_)
  · replace h := fm_itp c4 h
    refine fm_iconstv (pc := 18) 0 (by decide) dX6_hasMore_18 ?_
    refine fm_zret (pc := 19) rfl (by decide) ?_ dX6_hasMore_19
    cases h
    exact hq
  · replace h := fm_itn c4 h
    refine fl_aload0 (pc := 7) dX6_hasMore_7 ?_
    refine fm_geti (pc := 8) lk_6_67 sh_1 rfl dX6_hasMore_8 ?_
    refine fm_if_ne (pc := 11) 18 (by decide) dX6_hasMore_11 (fun c11 => ?_) (fun c11 => ?_)
    · replace h := fm_itn c11 h
      refine fm_iconstv (pc := 18) 0 (by decide) dX6_hasMore_18 ?_
      refine fm_zret (pc := 19) rfl (by decide) ?_ dX6_hasMore_19
      cases h
      exact hq
    · replace h := fm_itp c11 h
      refine fm_iconstv (pc := 14) 1 (by decide) dX6_hasMore_14 ?_
      refine fm_goto (pc := 15) 19 (by decide) dX6_hasMore_15 ?_
      refine fm_zret (pc := 19) rfl (by decide) ?_ dX6_hasMore_19
      cases h
      exact hq
/-! X6_refuse -/
def F_X6_refuse (a1 : Int32) (M : fm_M) : Option (Unit × fm_M) :=
    if (M.1 1 3) = 0 then (
      fm_lt (fm_up M 1 3 a1) (fun M1 =>
      fm_lt (fm_up M1 1 4 (M1.1 1 9)) (fun M2 =>
      some ((), M2)))
    ) else (
      some ((), M)
    )
theorem sp_X6_refuse {d : Nat} {a1 : Int32} {M : fm_M} {x : Unit × fm_M} {Q : Option Value → fm_M → Prop} (h : F_X6_refuse a1 M = some x) (hq : Q none x.2) : fm_ct d mX6_refuse [.ref 1, .int a1] M Q := by
  rw [F_X6_refuse] at h
  show fm_mw d mX6_refuse Q 0 [some (.ref 1), some (.int a1)] [] M
  refine fl_aload0 (pc := 0) dX6_refuse_0 ?_
  refine fm_geti (pc := 1) lk_6_67 sh_1 rfl dX6_refuse_1 ?_
  refine fm_if_ne (pc := 4) 20 (by decide) dX6_refuse_4 (fun c4 => ?_) (fun c4 => ?_)
  · replace h := fm_itn c4 h
    refine fm_vret (pc := 20) rfl ?_ dX6_refuse_20
    cases h
    exact hq
  · replace h := fm_itp c4 h
    refine fl_aload0 (pc := 7) dX6_refuse_7 ?_
    refine fl_iload1 (pc := 8) dX6_refuse_8 ?_
    refine fm_puti (pc := 9) lp_6_67 sh_1 rfl dX6_refuse_9 ?_
    obtain ⟨M1, eM1, h⟩ := fm_ltp h
    refine fm_cgm eM1 ?_
    refine fl_aload0 (pc := 12) dX6_refuse_12 ?_
    refine fl_aload0 (pc := 13) dX6_refuse_13 ?_
    refine fm_geti (pc := 14) lk_6_76 sh_1 rfl dX6_refuse_14 ?_
    refine fm_puti (pc := 17) lp_6_19 sh_1 rfl dX6_refuse_17 ?_
    obtain ⟨M2, eM2, h⟩ := fm_ltp h
    refine fm_cgm eM2 ?_
    refine fm_vret (pc := 20) rfl ?_ dX6_refuse_20
    cases h
    exact hq
/-! X6_number -/
def F_X6_number (a1 : Int32) (a2 : Int32) (M : fm_M) : Option (Int32 × fm_M) :=
    if (M.1 1 3) = 0 then (
      fm_lt ((M.1 1 10)) (fun x1 =>
      if (M.1 1 8) = 2 then (
        if x1 < a1 then (
          fm_bd (F_X6_refuse 2 M) (fun v2 M3 =>
          some (x1, M3))
        ) else (
          if x1 ≤ a2 then (
            fm_bd (F_X6_advance M) (fun v4 M5 =>
            some (x1, M5))
          ) else (
            fm_bd (F_X6_refuse 2 M) (fun v6 M7 =>
            some (x1, M7))
          )
        )
      ) else (
        fm_bd (F_X6_refuse 1 M) (fun v8 M9 =>
        some (x1, M9))
      ))
    ) else (
      some (0, M)
    )
theorem sp_X6_number {d : Nat} {a1 : Int32} {a2 : Int32} {M : fm_M} {x : Int32 × fm_M} {Q : Option Value → fm_M → Prop} (h : F_X6_number a1 a2 M = some x) (hq : Q (some (.int x.1)) x.2) : fm_ct (d + 3) mX6_number [.ref 1, .int a1, .int a2] M Q := by
  rw [F_X6_number] at h
  show fm_mw (d + 3) mX6_number Q 0 [some (.ref 1), some (.int a1), some (.int a2), none] [] M
  refine fl_aload0 (pc := 0) dX6_number_0 ?_
  refine fm_geti (pc := 1) lk_6_67 sh_1 rfl dX6_number_1 ?_
  refine fm_if_eq (pc := 4) 9 (by decide) dX6_number_4 (fun c4 => ?_) (fun c4 => ?_)
  · replace h := fm_itp c4 h
    refine fl_aload0 (pc := 9) dX6_number_9 ?_
    refine fm_geti (pc := 10) lk_6_126 sh_1 rfl dX6_number_10 ?_
    obtain ⟨x1, ex1, h⟩ := fm_ltp h
    refine fm_cgi ex1 ?_
    refine fl_istore3 (pc := 13) rfl (by decide) dX6_number_13 ?_
    refine fl_aload0 (pc := 14) dX6_number_14 ?_
    refine fm_geti (pc := 15) lk_6_73 sh_1 rfl dX6_number_15 ?_
    refine fm_iconstv (pc := 18) 2 (by decide) dX6_number_18 ?_
    refine fm_icmp_eq (pc := 19) 30 (by decide) dX6_number_19 (fun c19 => ?_) (fun c19 => ?_)
    · replace h := fm_itp c19 h
      refine fl_iload3 (pc := 30) dX6_number_30 ?_
      refine fl_iload1 (pc := 31) dX6_number_31 ?_
      refine fm_icmp_lt (pc := 32) 40 (by decide) dX6_number_32 (fun c32 => ?_) (fun c32 => ?_)
      · replace h := fm_itp c32 h
        refine fl_aload0 (pc := 40) dX6_number_40 ?_
        refine fm_iconstv (pc := 41) 2 (by decide) dX6_number_41 ?_
        obtain ⟨v2, M3, ev2, h⟩ := fm_bdp h
        refine fm_callV (pc := 42) mX6_refuse [_] _ rfl cvX6_refuse ml_6_113 sh_1 rfl rfl (Nat.le_of_ble_eq_true rfl) (Nat.le_of_ble_eq_true rfl) dX6_number_42 ?_
        refine sp_X6_refuse ev2 ?_
        refine fm_ret0 ?_
        refine fm_goto (pc := 45) 52 (by decide) dX6_number_45 ?_
        refine fl_iload3 (pc := 52) dX6_number_52 ?_
        refine fm_iret (pc := 53) rfl ?_ dX6_number_53
        cases h
        exact hq
      · replace h := fm_itn c32 h
        refine fl_iload3 (pc := 35) dX6_number_35 ?_
        refine fl_iload2 (pc := 36) dX6_number_36 ?_
        refine fm_icmp_le (pc := 37) 48 (by decide) dX6_number_37 (fun c37 => ?_) (fun c37 => ?_)
        · replace h := fm_itp c37 h
          refine fl_aload0 (pc := 48) dX6_number_48 ?_
          obtain ⟨v4, M5, ev4, h⟩ := fm_bdp h
          refine fm_callV (pc := 49) mX6_advance [] _ rfl cvX6_advance ml_6_70 sh_1 rfl rfl (Nat.le_of_ble_eq_true rfl) (Nat.le_of_ble_eq_true rfl) dX6_number_49 ?_
          refine sp_X6_advance ev4 ?_
          refine fm_ret0 ?_
          refine fl_iload3 (pc := 52) dX6_number_52 ?_
          refine fm_iret (pc := 53) rfl ?_ dX6_number_53
          cases h
          exact hq
        · replace h := fm_itn c37 h
          refine fl_aload0 (pc := 40) dX6_number_40 ?_
          refine fm_iconstv (pc := 41) 2 (by decide) dX6_number_41 ?_
          obtain ⟨v6, M7, ev6, h⟩ := fm_bdp h
          refine fm_callV (pc := 42) mX6_refuse [_] _ rfl cvX6_refuse ml_6_113 sh_1 rfl rfl (Nat.le_of_ble_eq_true rfl) (Nat.le_of_ble_eq_true rfl) dX6_number_42 ?_
          refine sp_X6_refuse ev6 ?_
          refine fm_ret0 ?_
          refine fm_goto (pc := 45) 52 (by decide) dX6_number_45 ?_
          refine fl_iload3 (pc := 52) dX6_number_52 ?_
          refine fm_iret (pc := 53) rfl ?_ dX6_number_53
          cases h
          exact hq
    · replace h := fm_itn c19 h
      refine fl_aload0 (pc := 22) dX6_number_22 ?_
      refine fm_iconstv (pc := 23) 1 (by decide) dX6_number_23 ?_
      obtain ⟨v8, M9, ev8, h⟩ := fm_bdp h
      refine fm_callV (pc := 24) mX6_refuse [_] _ rfl cvX6_refuse ml_6_113 sh_1 rfl rfl (Nat.le_of_ble_eq_true rfl) (Nat.le_of_ble_eq_true rfl) dX6_number_24 ?_
      refine sp_X6_refuse ev8 ?_
      refine fm_ret0 ?_
      refine fm_goto (pc := 27) 52 (by decide) dX6_number_27 ?_
      refine fl_iload3 (pc := 52) dX6_number_52 ?_
      refine fm_iret (pc := 53) rfl ?_ dX6_number_53
      cases h
      exact hq
  · replace h := fm_itn c4 h
    refine fm_iconstv (pc := 7) 0 (by decide) dX6_number_7 ?_
    refine fm_iret (pc := 8) rfl ?_ dX6_number_8
    cases h
    exact hq
/-! X6_pass -/
def F_X6_pass (a1 : Int32) (M : fm_M) : Option (Unit × fm_M) :=
    if (M.1 1 3) = 0 then (
      if (M.1 1 8) = a1 then (
        fm_bd (F_X6_advance M) (fun v3 M4 =>
        some ((), M4))
      ) else (
        fm_bd (F_X6_refuse 1 M) (fun v1 M2 =>
        some ((), M2))
      )
    ) else (
      some ((), M)
    )
theorem sp_X6_pass {d : Nat} {a1 : Int32} {M : fm_M} {x : Unit × fm_M} {Q : Option Value → fm_M → Prop} (h : F_X6_pass a1 M = some x) (hq : Q none x.2) : fm_ct (d + 3) mX6_pass [.ref 1, .int a1] M Q := by
  rw [F_X6_pass] at h
  show fm_mw (d + 3) mX6_pass Q 0 [some (.ref 1), some (.int a1)] [] M
  refine fl_aload0 (pc := 0) dX6_pass_0 ?_
  refine fm_geti (pc := 1) lk_6_67 sh_1 rfl dX6_pass_1 ?_
  refine fm_if_eq (pc := 4) 8 (by decide) dX6_pass_4 (fun c4 => ?_) (fun c4 => ?_)
  · replace h := fm_itp c4 h
    refine fl_aload0 (pc := 8) dX6_pass_8 ?_
    refine fm_geti (pc := 9) lk_6_73 sh_1 rfl dX6_pass_9 ?_
    refine fl_iload1 (pc := 12) dX6_pass_12 ?_
    refine fm_icmp_ne (pc := 13) 23 (by decide) dX6_pass_13 (fun c13 => ?_) (fun c13 => ?_)
    · replace h := fm_itn c13 h
      refine fl_aload0 (pc := 23) dX6_pass_23 ?_
      refine fm_iconstv (pc := 24) 1 (by decide) dX6_pass_24 ?_
      obtain ⟨v1, M2, ev1, h⟩ := fm_bdp h
      refine fm_callV (pc := 25) mX6_refuse [_] _ rfl cvX6_refuse ml_6_113 sh_1 rfl rfl (Nat.le_of_ble_eq_true rfl) (Nat.le_of_ble_eq_true rfl) dX6_pass_25 ?_
      refine sp_X6_refuse ev1 ?_
      refine fm_ret0 ?_
      refine fm_vret (pc := 28) rfl ?_ dX6_pass_28
      cases h
      exact hq
    · replace h := fm_itp c13 h
      refine fl_aload0 (pc := 16) dX6_pass_16 ?_
      obtain ⟨v3, M4, ev3, h⟩ := fm_bdp h
      refine fm_callV (pc := 17) mX6_advance [] _ rfl cvX6_advance ml_6_70 sh_1 rfl rfl (Nat.le_of_ble_eq_true rfl) (Nat.le_of_ble_eq_true rfl) dX6_pass_17 ?_
      refine sp_X6_advance ev3 ?_
      refine fm_ret0 ?_
      refine fm_goto (pc := 20) 28 (by decide) dX6_pass_20 ?_
      refine fm_vret (pc := 28) rfl ?_ dX6_pass_28
      cases h
      exact hq
  · replace h := fm_itn c4 h
    refine fm_vret (pc := 7) rfl ?_ dX6_pass_7
    cases h
    exact hq
/-! X6_passOnce -/
def F_X6_passOnce  (M : fm_M) : Option (Unit × fm_M) :=
    fm_lt ((1 <<< (((M.1 1 8) - 17) &&& 31))) (fun x1 =>
    if ((M.1 1 11) &&& x1) = 0 then (
      fm_lt (fm_up M 1 11 ((M.1 1 11) ||| x1)) (fun M2 =>
      fm_bd (F_X6_advance M2) (fun v3 M4 =>
      some ((), M4)))
    ) else (
      fm_bd (F_X6_refuse 3 M) (fun v5 M6 =>
      some ((), M6))
    ))
theorem sp_X6_passOnce {d : Nat}  {M : fm_M} {x : Unit × fm_M} {Q : Option Value → fm_M → Prop} (h : F_X6_passOnce  M = some x) (hq : Q none x.2) : fm_ct (d + 3) mX6_passOnce [.ref 1] M Q := by
  rw [F_X6_passOnce] at h
  show fm_mw (d + 3) mX6_passOnce Q 0 [some (.ref 1), none] [] M
  refine fm_iconstv (pc := 0) 1 (by decide) dX6_passOnce_0 ?_
  refine fl_aload0 (pc := 1) dX6_passOnce_1 ?_
  refine fm_geti (pc := 2) lk_6_73 sh_1 rfl dX6_passOnce_2 ?_
  refine fm_bipushv (pc := 5) 17 (by decide) dX6_passOnce_5 ?_
  refine fm_isub (pc := 7) dX6_passOnce_7 ?_
  refine fm_ishl (pc := 8) dX6_passOnce_8 ?_
  obtain ⟨x1, ex1, h⟩ := fm_ltp h
  refine fm_cgi ex1 ?_
  refine fl_istore1 (pc := 9) rfl (by decide) dX6_passOnce_9 ?_
  refine fl_aload0 (pc := 10) dX6_passOnce_10 ?_
  refine fm_geti (pc := 11) lk_6_64 sh_1 rfl dX6_passOnce_11 ?_
  refine fl_iload1 (pc := 14) dX6_passOnce_14 ?_
  refine fm_iand (pc := 15) dX6_passOnce_15 ?_
  refine fm_if_eq (pc := 16) 27 (by decide) dX6_passOnce_16 (fun c16 => ?_) (fun c16 => ?_)
  · replace h := fm_itp c16 h
    refine fl_aload0 (pc := 27) dX6_passOnce_27 ?_
    refine fm_dup (pc := 28) rfl dX6_passOnce_28 ?_
    refine fm_geti (pc := 29) lk_6_64 sh_1 rfl dX6_passOnce_29 ?_
    refine fl_iload1 (pc := 32) dX6_passOnce_32 ?_
    refine fm_ior (pc := 33) dX6_passOnce_33 ?_
    refine fm_puti (pc := 34) lp_6_64 sh_1 rfl dX6_passOnce_34 ?_
    obtain ⟨M2, eM2, h⟩ := fm_ltp h
    refine fm_cgm eM2 ?_
    refine fl_aload0 (pc := 37) dX6_passOnce_37 ?_
    obtain ⟨v3, M4, ev3, h⟩ := fm_bdp h
    refine fm_callV (pc := 38) mX6_advance [] _ rfl cvX6_advance ml_6_70 sh_1 rfl rfl (Nat.le_of_ble_eq_true rfl) (Nat.le_of_ble_eq_true rfl) dX6_passOnce_38 ?_
    refine sp_X6_advance ev3 ?_
    refine fm_ret0 ?_
    refine fm_vret (pc := 41) rfl ?_ dX6_passOnce_41
    cases h
    exact hq
  · replace h := fm_itn c16 h
    refine fl_aload0 (pc := 19) dX6_passOnce_19 ?_
    refine fm_iconstv (pc := 20) 3 (by decide) dX6_passOnce_20 ?_
    obtain ⟨v5, M6, ev5, h⟩ := fm_bdp h
    refine fm_callV (pc := 21) mX6_refuse [_] _ rfl cvX6_refuse ml_6_113 sh_1 rfl rfl (Nat.le_of_ble_eq_true rfl) (Nat.le_of_ble_eq_true rfl) dX6_passOnce_21 ?_
    refine sp_X6_refuse ev5 ?_
    refine fm_ret0 ?_
    refine fm_goto (pc := 24) 41 (by decide) dX6_passOnce_24 ?_
    refine fm_vret (pc := 41) rfl ?_ dX6_passOnce_41
    cases h
    exact hq
