/-! X10_hasLaw -/
def F_X10_hasLaw (a1 : Int32) (M : fm_M) : Option (Int32 × fm_M) :=
    fm_gd (fm_inb a1 6) (
    fm_gd (fm_inb a1 6) (
    if (M.1 89 (Int32.toNatClampNeg a1)) ≤ (M.1 88 (Int32.toNatClampNeg a1)) then (
      some (0, M)
    ) else (
      some (1, M)
    )))
theorem sp_X10_hasLaw {d : Nat} {a1 : Int32} {M : fm_M} {x : Int32 × fm_M} {Q : Option Value → fm_M → Prop} (h : F_X10_hasLaw a1 M = some x) (hq : Q (some (.int x.1)) x.2) : fm_ct d mX10_hasLaw [.ref 76, .int a1] M Q := by
  rw [F_X10_hasLaw] at h
  show fm_mw d mX10_hasLaw Q 0 [some (.ref 76), some (.int a1)] [] M
  refine fl_aload0 (pc := 0) dX10_hasLaw_0 ?_
  refine fm_getr (pc := 1) lk_10_46 sh_76 rfl dX10_hasLaw_1 ?_
  refine fl_iload1 (pc := 4) dX10_hasLaw_4 ?_
  obtain ⟨g1, h⟩ := fm_gdp h
  refine fm_iald (pc := 5) sh_89 (fm_inb_ok g1) dX10_hasLaw_5 ?_
  refine fl_aload0 (pc := 6) dX10_hasLaw_6 ?_
  refine fm_getr (pc := 7) lk_10_43 sh_76 rfl dX10_hasLaw_7 ?_
  refine fl_iload1 (pc := 10) dX10_hasLaw_10 ?_
  obtain ⟨g2, h⟩ := fm_gdp h
  refine fm_iald (pc := 11) sh_88 (fm_inb_ok g2) dX10_hasLaw_11 ?_
  refine fm_icmp_le (pc := 12) 19 (by decide) dX10_hasLaw_12 (fun c12 => ?_) (fun c12 => ?_)
  · replace h := fm_itp c12 h
    refine fm_iconstv (pc := 19) 0 (by decide) dX10_hasLaw_19 ?_
    refine fm_zret (pc := 20) rfl (by decide) ?_ dX10_hasLaw_20
    cases h
    exact hq
  · replace h := fm_itn c12 h
    refine fm_iconstv (pc := 15) 1 (by decide) dX10_hasLaw_15 ?_
    refine fm_goto (pc := 16) 20 (by decide) dX10_hasLaw_16 ?_
    refine fm_zret (pc := 20) rfl (by decide) ?_ dX10_hasLaw_20
    cases h
    exact hq
/-! X10_copies -/
def G_X10_copies_50 : Nat → Int32 → Int32 → Int32 → fm_M → Option ((Int32) × fm_M)
  | 0, _, _, _, _ => none
  | n + 1, l1, l2, l3, M =>
    if 8 ≤ l3 then (
      some (l3, M)
    ) else (
      fm_gd (fm_inb ((8 * l2) + l3) 184) (
      fm_gd (fm_inb ((8 * l1) + l3) 184) (
      fm_lt (fm_up M 98 (Int32.toNatClampNeg ((8 * l1) + l3)) (M.1 98 (Int32.toNatClampNeg ((8 * l2) + l3)))) (fun M15 =>
      G_X10_copies_50 n l1 l2 (l3 + 1) M15)))
    )
def G_X10_copies_86 : Nat → Int32 → Int32 → Int32 → fm_M → Option ((Int32) × fm_M)
  | 0, _, _, _, _ => none
  | n + 1, l1, l2, l3, M =>
    if 10 ≤ l3 then (
      some (l3, M)
    ) else (
      fm_gd (fm_inb ((10 * l2) + l3) 230) (
      fm_gd (fm_inb ((10 * l1) + l3) 230) (
      fm_lt (fm_up M 99 (Int32.toNatClampNeg ((10 * l1) + l3)) (M.1 99 (Int32.toNatClampNeg ((10 * l2) + l3)))) (fun M20 =>
      fm_gd (fm_inb ((10 * l2) + l3) 230) (
      fm_gd (fm_inb ((10 * l1) + l3) 230) (
      fm_lt (fm_up M20 100 (Int32.toNatClampNeg ((10 * l1) + l3)) (M20.1 100 (Int32.toNatClampNeg ((10 * l2) + l3)))) (fun M23 =>
      fm_gd (fm_inb ((10 * l2) + l3) 230) (
      fm_gd (fm_inb ((10 * l1) + l3) 230) (
      fm_lt (fm_up M23 101 (Int32.toNatClampNeg ((10 * l1) + l3)) (M23.1 101 (Int32.toNatClampNeg ((10 * l2) + l3)))) (fun M26 =>
      G_X10_copies_86 n l1 l2 (l3 + 1) M26)))))))))
    )
def F_X10_copies (a1 : Int32) (a2 : Int32) (M : fm_M) : Option (Unit × fm_M) :=
    fm_gd (fm_inb a2 23) (
    fm_gd (fm_inb a1 23) (
    fm_lt (fm_up M 94 (Int32.toNatClampNeg a1) (M.1 94 (Int32.toNatClampNeg a2))) (fun M3 =>
    fm_gd (fm_inb a2 23) (
    fm_gd (fm_inb a1 23) (
    fm_lt (fm_up M3 95 (Int32.toNatClampNeg a1) (M3.1 95 (Int32.toNatClampNeg a2))) (fun M6 =>
    fm_gd (fm_inb a2 23) (
    fm_gd (fm_inb a1 23) (
    fm_lt (fm_up M6 96 (Int32.toNatClampNeg a1) (M6.1 96 (Int32.toNatClampNeg a2))) (fun M9 =>
    fm_gd (fm_inb a2 23) (
    fm_gd (fm_inb a1 23) (
    fm_lt (fm_up M9 97 (Int32.toNatClampNeg a1) (M9.1 97 (Int32.toNatClampNeg a2))) (fun M12 =>
    fm_bd (G_X10_copies_50 fm_fuel a1 a2 0 M12) (fun w16 M17 =>
      fm_bd (G_X10_copies_86 fm_fuel a1 a2 0 M17) (fun w27 M28 =>
        some ((), M28)))))))))))))))
theorem lp_X10_copies_50 {d : Nat} {Q : Option Value → fm_M → Prop} {l1 : Int32} {l2 : Int32}   {x : (Int32) × fm_M} (k1 : ∀ (v : Int32) (M2 : fm_M), x = (v, M2) → fm_mw d mX10_copies Q 84 [some (.ref 76), some (.int l1), some (.int l2), some (.int v)] [] M2) : ∀ (n : Nat) (l3 : Int32) (M : fm_M), G_X10_copies_50 n l1 l2 l3 M = some x → fm_mw d mX10_copies Q 50 [some (.ref 76), some (.int l1), some (.int l2), some (.int l3)] [] M := by
  intro n
  induction n with
  | zero => intro l3 M h; simp [G_X10_copies_50] at h
  | succ n ih =>
    intro l3 M h
    rw [G_X10_copies_50] at h
    refine fl_iload3 (pc := 50) dX10_copies_50 ?_
    refine fm_bipushv (pc := 51) 8 (by decide) dX10_copies_51 ?_
    refine fm_icmp_ge (pc := 53) 84 (by decide) dX10_copies_53 (fun c53 => ?_) (fun c53 => ?_)
    · replace h := fm_itp c53 h
      refine fm_fgt [some (.ref 76), some (.int l1), some (.int l2), some (.int l3)] (by simp [fm_sub]) ?_
      cases h
      exact k1 _ _ rfl
    · replace h := fm_itn c53 h
      refine fl_aload0 (pc := 56) dX10_copies_56 ?_
      refine fm_getr (pc := 57) lk_10_78 sh_76 rfl dX10_copies_57 ?_
      refine fm_bipushv (pc := 60) 8 (by decide) dX10_copies_60 ?_
      refine fl_iload1 (pc := 62) dX10_copies_62 ?_
      refine fm_imul (pc := 63) dX10_copies_63 ?_
      refine fl_iload3 (pc := 64) dX10_copies_64 ?_
      refine fm_iadd (pc := 65) dX10_copies_65 ?_
      refine fl_aload0 (pc := 66) dX10_copies_66 ?_
      refine fm_getr (pc := 67) lk_10_78 sh_76 rfl dX10_copies_67 ?_
      refine fm_bipushv (pc := 70) 8 (by decide) dX10_copies_70 ?_
      refine fl_iload2 (pc := 72) dX10_copies_72 ?_
      refine fm_imul (pc := 73) dX10_copies_73 ?_
      refine fl_iload3 (pc := 74) dX10_copies_74 ?_
      refine fm_iadd (pc := 75) dX10_copies_75 ?_
      obtain ⟨g13, h⟩ := fm_gdp h
      refine fm_iald (pc := 76) sh_98 (fm_inb_ok g13) dX10_copies_76 ?_
      obtain ⟨g14, h⟩ := fm_gdp h
      refine fm_iast (pc := 77) sh_98 (fm_inb_ok g14) dX10_copies_77 ?_
      obtain ⟨M15, eM15, h⟩ := fm_ltp h
      refine fm_cgm eM15 ?_
      refine fl_iinc3 (pc := 78) rfl 1 (by decide) (by decide) dX10_copies_78 ?_
      refine fm_goto (pc := 81) 50 (by decide) dX10_copies_81 ?_
      refine fm_fgt [some (.ref 76), some (.int l1), some (.int l2), some (.int (l3 + 1))] (by simp [fm_sub]) ?_
      exact ih _ _ h
theorem lp_X10_copies_86 {d : Nat} {Q : Option Value → fm_M → Prop} {l1 : Int32} {l2 : Int32}   {x : (Int32) × fm_M} (k1 : ∀ (v : Int32) (M2 : fm_M), x = (v, M2) → fm_mw d mX10_copies Q 164 [some (.ref 76), some (.int l1), some (.int l2), some (.int v)] [] M2) : ∀ (n : Nat) (l3 : Int32) (M : fm_M), G_X10_copies_86 n l1 l2 l3 M = some x → fm_mw d mX10_copies Q 86 [some (.ref 76), some (.int l1), some (.int l2), some (.int l3)] [] M := by
  intro n
  induction n with
  | zero => intro l3 M h; simp [G_X10_copies_86] at h
  | succ n ih =>
    intro l3 M h
    rw [G_X10_copies_86] at h
    refine fl_iload3 (pc := 86) dX10_copies_86 ?_
    refine fm_bipushv (pc := 87) 10 (by decide) dX10_copies_87 ?_
    refine fm_icmp_ge (pc := 89) 164 (by decide) dX10_copies_89 (fun c89 => ?_) (fun c89 => ?_)
    · replace h := fm_itp c89 h
      refine fm_fgt [some (.ref 76), some (.int l1), some (.int l2), some (.int l3)] (by simp [fm_sub]) ?_
      cases h
      exact k1 _ _ rfl
    · replace h := fm_itn c89 h
      refine fl_aload0 (pc := 92) dX10_copies_92 ?_
      refine fm_getr (pc := 93) lk_10_81 sh_76 rfl dX10_copies_93 ?_
      refine fm_bipushv (pc := 96) 10 (by decide) dX10_copies_96 ?_
      refine fl_iload1 (pc := 98) dX10_copies_98 ?_
      refine fm_imul (pc := 99) dX10_copies_99 ?_
      refine fl_iload3 (pc := 100) dX10_copies_100 ?_
      refine fm_iadd (pc := 101) dX10_copies_101 ?_
      refine fl_aload0 (pc := 102) dX10_copies_102 ?_
      refine fm_getr (pc := 103) lk_10_81 sh_76 rfl dX10_copies_103 ?_
      refine fm_bipushv (pc := 106) 10 (by decide) dX10_copies_106 ?_
      refine fl_iload2 (pc := 108) dX10_copies_108 ?_
      refine fm_imul (pc := 109) dX10_copies_109 ?_
      refine fl_iload3 (pc := 110) dX10_copies_110 ?_
      refine fm_iadd (pc := 111) dX10_copies_111 ?_
      obtain ⟨g18, h⟩ := fm_gdp h
      refine fm_iald (pc := 112) sh_99 (fm_inb_ok g18) dX10_copies_112 ?_
      obtain ⟨g19, h⟩ := fm_gdp h
      refine fm_iast (pc := 113) sh_99 (fm_inb_ok g19) dX10_copies_113 ?_
      obtain ⟨M20, eM20, h⟩ := fm_ltp h
      refine fm_cgm eM20 ?_
      refine fl_aload0 (pc := 114) dX10_copies_114 ?_
      refine fm_getr (pc := 115) lk_10_84 sh_76 rfl dX10_copies_115 ?_
      refine fm_bipushv (pc := 118) 10 (by decide) dX10_copies_118 ?_
      refine fl_iload1 (pc := 120) dX10_copies_120 ?_
      refine fm_imul (pc := 121) dX10_copies_121 ?_
      refine fl_iload3 (pc := 122) dX10_copies_122 ?_
      refine fm_iadd (pc := 123) dX10_copies_123 ?_
      refine fl_aload0 (pc := 124) dX10_copies_124 ?_
      refine fm_getr (pc := 125) lk_10_84 sh_76 rfl dX10_copies_125 ?_
      refine fm_bipushv (pc := 128) 10 (by decide) dX10_copies_128 ?_
      refine fl_iload2 (pc := 130) dX10_copies_130 ?_
      refine fm_imul (pc := 131) dX10_copies_131 ?_
      refine fl_iload3 (pc := 132) dX10_copies_132 ?_
      refine fm_iadd (pc := 133) dX10_copies_133 ?_
      obtain ⟨g21, h⟩ := fm_gdp h
      refine fm_iald (pc := 134) sh_100 (fm_inb_ok g21) dX10_copies_134 ?_
      obtain ⟨g22, h⟩ := fm_gdp h
      refine fm_iast (pc := 135) sh_100 (fm_inb_ok g22) dX10_copies_135 ?_
      obtain ⟨M23, eM23, h⟩ := fm_ltp h
      refine fm_cgm eM23 ?_
      refine fl_aload0 (pc := 136) dX10_copies_136 ?_
      refine fm_getr (pc := 137) lk_10_87 sh_76 rfl dX10_copies_137 ?_
      refine fm_bipushv (pc := 140) 10 (by decide) dX10_copies_140 ?_
      refine fl_iload1 (pc := 142) dX10_copies_142 ?_
      refine fm_imul (pc := 143) dX10_copies_143 ?_
      refine fl_iload3 (pc := 144) dX10_copies_144 ?_
      refine fm_iadd (pc := 145) dX10_copies_145 ?_
      refine fl_aload0 (pc := 146) dX10_copies_146 ?_
      refine fm_getr (pc := 147) lk_10_87 sh_76 rfl dX10_copies_147 ?_
      refine fm_bipushv (pc := 150) 10 (by decide) dX10_copies_150 ?_
      refine fl_iload2 (pc := 152) dX10_copies_152 ?_
      refine fm_imul (pc := 153) dX10_copies_153 ?_
      refine fl_iload3 (pc := 154) dX10_copies_154 ?_
      refine fm_iadd (pc := 155) dX10_copies_155 ?_
      obtain ⟨g24, h⟩ := fm_gdp h
      refine fm_iald (pc := 156) sh_101 (fm_inb_ok g24) dX10_copies_156 ?_
      obtain ⟨g25, h⟩ := fm_gdp h
      refine fm_iast (pc := 157) sh_101 (fm_inb_ok g25) dX10_copies_157 ?_
      obtain ⟨M26, eM26, h⟩ := fm_ltp h
      refine fm_cgm eM26 ?_
      refine fl_iinc3 (pc := 158) rfl 1 (by decide) (by decide) dX10_copies_158 ?_
      refine fm_goto (pc := 161) 86 (by decide) dX10_copies_161 ?_
      refine fm_fgt [some (.ref 76), some (.int l1), some (.int l2), some (.int (l3 + 1))] (by simp [fm_sub]) ?_
      exact ih _ _ h
theorem sp_X10_copies {d : Nat} {a1 : Int32} {a2 : Int32} {M : fm_M} {x : Unit × fm_M} {Q : Option Value → fm_M → Prop} (h : F_X10_copies a1 a2 M = some x) (hq : Q none x.2) : fm_ct d mX10_copies [.ref 76, .int a1, .int a2] M Q := by
  rw [F_X10_copies] at h
  show fm_mw d mX10_copies Q 0 [some (.ref 76), some (.int a1), some (.int a2), none] [] M
  refine fl_aload0 (pc := 0) dX10_copies_0 ?_
  refine fm_getr (pc := 1) lk_10_66 sh_76 rfl dX10_copies_1 ?_
  refine fl_iload1 (pc := 4) dX10_copies_4 ?_
  refine fl_aload0 (pc := 5) dX10_copies_5 ?_
  refine fm_getr (pc := 6) lk_10_66 sh_76 rfl dX10_copies_6 ?_
  refine fl_iload2 (pc := 9) dX10_copies_9 ?_
  obtain ⟨g1, h⟩ := fm_gdp h
  refine fm_iald (pc := 10) sh_94 (fm_inb_ok g1) dX10_copies_10 ?_
  obtain ⟨g2, h⟩ := fm_gdp h
  refine fm_iast (pc := 11) sh_94 (fm_inb_ok g2) dX10_copies_11 ?_
  obtain ⟨M3, eM3, h⟩ := fm_ltp h
  refine fm_cgm eM3 ?_
  refine fl_aload0 (pc := 12) dX10_copies_12 ?_
  refine fm_getr (pc := 13) lk_10_69 sh_76 rfl dX10_copies_13 ?_
  refine fl_iload1 (pc := 16) dX10_copies_16 ?_
  refine fl_aload0 (pc := 17) dX10_copies_17 ?_
  refine fm_getr (pc := 18) lk_10_69 sh_76 rfl dX10_copies_18 ?_
  refine fl_iload2 (pc := 21) dX10_copies_21 ?_
  obtain ⟨g4, h⟩ := fm_gdp h
  refine fm_iald (pc := 22) sh_95 (fm_inb_ok g4) dX10_copies_22 ?_
  obtain ⟨g5, h⟩ := fm_gdp h
  refine fm_iast (pc := 23) sh_95 (fm_inb_ok g5) dX10_copies_23 ?_
  obtain ⟨M6, eM6, h⟩ := fm_ltp h
  refine fm_cgm eM6 ?_
  refine fl_aload0 (pc := 24) dX10_copies_24 ?_
  refine fm_getr (pc := 25) lk_10_72 sh_76 rfl dX10_copies_25 ?_
  refine fl_iload1 (pc := 28) dX10_copies_28 ?_
  refine fl_aload0 (pc := 29) dX10_copies_29 ?_
  refine fm_getr (pc := 30) lk_10_72 sh_76 rfl dX10_copies_30 ?_
  refine fl_iload2 (pc := 33) dX10_copies_33 ?_
  obtain ⟨g7, h⟩ := fm_gdp h
  refine fm_iald (pc := 34) sh_96 (fm_inb_ok g7) dX10_copies_34 ?_
  obtain ⟨g8, h⟩ := fm_gdp h
  refine fm_iast (pc := 35) sh_96 (fm_inb_ok g8) dX10_copies_35 ?_
  obtain ⟨M9, eM9, h⟩ := fm_ltp h
  refine fm_cgm eM9 ?_
  refine fl_aload0 (pc := 36) dX10_copies_36 ?_
  refine fm_getr (pc := 37) lk_10_75 sh_76 rfl dX10_copies_37 ?_
  refine fl_iload1 (pc := 40) dX10_copies_40 ?_
  refine fl_aload0 (pc := 41) dX10_copies_41 ?_
  refine fm_getr (pc := 42) lk_10_75 sh_76 rfl dX10_copies_42 ?_
  refine fl_iload2 (pc := 45) dX10_copies_45 ?_
  obtain ⟨g10, h⟩ := fm_gdp h
  refine fm_iald (pc := 46) sh_97 (fm_inb_ok g10) dX10_copies_46 ?_
  obtain ⟨g11, h⟩ := fm_gdp h
  refine fm_iast (pc := 47) sh_97 (fm_inb_ok g11) dX10_copies_47 ?_
  obtain ⟨M12, eM12, h⟩ := fm_ltp h
  refine fm_cgm eM12 ?_
  refine fm_iconstv (pc := 48) 0 (by decide) dX10_copies_48 ?_
  refine fl_istore3 (pc := 49) rfl (by decide) dX10_copies_49 ?_
  obtain ⟨w16, M17, ew16, h⟩ := fm_bdp h
  refine lp_X10_copies_50  ?_ _ _ _ ew16
  intro w169 M179 q9
  cases q9
  refine fm_iconstv (pc := 84) 0 (by decide) dX10_copies_84 ?_
  refine fl_istore3 (pc := 85) rfl (by decide) dX10_copies_85 ?_
  obtain ⟨w27, M28, ew27, h⟩ := fm_bdp h
  refine lp_X10_copies_86  ?_ _ _ _ ew27
  intro w279 M289 q9
  cases q9
  refine fm_vret (pc := 164) rfl ?_ dX10_copies_164
  cases h
  exact hq
/-! X10_isFork -/
def F_X10_isFork (a1 : Int32) (M : fm_M) : Option (Int32 × fm_M) :=
    if a1 < 0 then (
      some (0, M)
    ) else (
      fm_gd (fm_inb 0 20) (
      if (M.1 78 (Int32.toNatClampNeg 0)) ≤ a1 then (
        some (0, M)
      ) else (
        some (1, M)
      ))
    )
theorem sp_X10_isFork {d : Nat} {a1 : Int32} {M : fm_M} {x : Int32 × fm_M} {Q : Option Value → fm_M → Prop} (h : F_X10_isFork a1 M = some x) (hq : Q (some (.int x.1)) x.2) : fm_ct d mX10_isFork [.ref 76, .int a1] M Q := by
  rw [F_X10_isFork] at h
  show fm_mw d mX10_isFork Q 0 [some (.ref 76), some (.int a1)] [] M
  refine fl_iload1 (pc := 0) dX10_isFork_0 ?_
  refine fm_if_lt (pc := 1) 18 (by decide) dX10_isFork_1 (fun c1 => ?_) (fun c1 => ?_)
  · replace h := fm_itp c1 h
    refine fm_iconstv (pc := 18) 0 (by decide) dX10_isFork_18 ?_
    refine fm_zret (pc := 19) rfl (by decide) ?_ dX10_isFork_19
    cases h
    exact hq
  · replace h := fm_itn c1 h
    refine fl_iload1 (pc := 4) dX10_isFork_4 ?_
    refine fl_aload0 (pc := 5) dX10_isFork_5 ?_
    refine fm_getr (pc := 6) lk_10_13 sh_76 rfl dX10_isFork_6 ?_
    refine fm_iconstv (pc := 9) 0 (by decide) dX10_isFork_9 ?_
    obtain ⟨g1, h⟩ := fm_gdp h
    refine fm_iald (pc := 10) sh_78 (fm_inb_ok g1) dX10_isFork_10 ?_
    refine fm_icmp_ge (pc := 11) 18 (by decide) dX10_isFork_11 (fun c11 => ?_) (fun c11 => ?_)
    · replace h := fm_itp c11 h
      refine fm_iconstv (pc := 18) 0 (by decide) dX10_isFork_18 ?_
      refine fm_zret (pc := 19) rfl (by decide) ?_ dX10_isFork_19
      cases h
      exact hq
    · replace h := fm_itn c11 h
      refine fm_iconstv (pc := 14) 1 (by decide) dX10_isFork_14 ?_
      refine fm_goto (pc := 15) 19 (by decide) dX10_isFork_15 ?_
      refine fm_zret (pc := 19) rfl (by decide) ?_ dX10_isFork_19
      cases h
      exact hq
/-! X10_isMotion -/
def F_X10_isMotion (a1 : Int32) (M : fm_M) : Option (Int32 × fm_M) :=
    if a1 < 0 then (
      some (0, M)
    ) else (
      fm_gd (fm_inb 1 20) (
      if (M.1 78 (Int32.toNatClampNeg 1)) ≤ a1 then (
        some (0, M)
      ) else (
        some (1, M)
      ))
    )
theorem sp_X10_isMotion {d : Nat} {a1 : Int32} {M : fm_M} {x : Int32 × fm_M} {Q : Option Value → fm_M → Prop} (h : F_X10_isMotion a1 M = some x) (hq : Q (some (.int x.1)) x.2) : fm_ct d mX10_isMotion [.ref 76, .int a1] M Q := by
  rw [F_X10_isMotion] at h
  show fm_mw d mX10_isMotion Q 0 [some (.ref 76), some (.int a1)] [] M
  refine fl_iload1 (pc := 0) dX10_isMotion_0 ?_
  refine fm_if_lt (pc := 1) 18 (by decide) dX10_isMotion_1 (fun c1 => ?_) (fun c1 => ?_)
  · replace h := fm_itp c1 h
    refine fm_iconstv (pc := 18) 0 (by decide) dX10_isMotion_18 ?_
    refine fm_zret (pc := 19) rfl (by decide) ?_ dX10_isMotion_19
    cases h
    exact hq
  · replace h := fm_itn c1 h
    refine fl_iload1 (pc := 4) dX10_isMotion_4 ?_
    refine fl_aload0 (pc := 5) dX10_isMotion_5 ?_
    refine fm_getr (pc := 6) lk_10_13 sh_76 rfl dX10_isMotion_6 ?_
    refine fm_iconstv (pc := 9) 1 (by decide) dX10_isMotion_9 ?_
    obtain ⟨g1, h⟩ := fm_gdp h
    refine fm_iald (pc := 10) sh_78 (fm_inb_ok g1) dX10_isMotion_10 ?_
    refine fm_icmp_ge (pc := 11) 18 (by decide) dX10_isMotion_11 (fun c11 => ?_) (fun c11 => ?_)
    · replace h := fm_itp c11 h
      refine fm_iconstv (pc := 18) 0 (by decide) dX10_isMotion_18 ?_
      refine fm_zret (pc := 19) rfl (by decide) ?_ dX10_isMotion_19
      cases h
      exact hq
    · replace h := fm_itn c11 h
      refine fm_iconstv (pc := 14) 1 (by decide) dX10_isMotion_14 ?_
      refine fm_goto (pc := 15) 19 (by decide) dX10_isMotion_15 ?_
      refine fm_zret (pc := 19) rfl (by decide) ?_ dX10_isMotion_19
      cases h
      exact hq
/-! X10_isNote -/
def F_X10_isNote (a0 : Int32) (M : fm_M) : Option (Int32 × fm_M) :=
    if a0 < 100 then (
      some (0, M)
    ) else (
      if 999 < a0 then (
        some (0, M)
      ) else (
        some (1, M)
      )
    )
theorem sp_X10_isNote {d : Nat} {a0 : Int32} {M : fm_M} {x : Int32 × fm_M} {Q : Option Value → fm_M → Prop} (h : F_X10_isNote a0 M = some x) (hq : Q (some (.int x.1)) x.2) : fm_ct d mX10_isNote [.int a0] M Q := by
  rw [F_X10_isNote] at h
  show fm_mw d mX10_isNote Q 0 [some (.int a0)] [] M
  refine fl_iload0 (pc := 0) dX10_isNote_0 ?_
  refine fm_bipushv (pc := 1) 100 (by decide) dX10_isNote_1 ?_
  refine fm_icmp_lt (pc := 3) 17 (by decide) dX10_isNote_3 (fun c3 => ?_) (fun c3 => ?_)
  · replace h := fm_itp c3 h
    refine fm_iconstv (pc := 17) 0 (by decide) dX10_isNote_17 ?_
    refine fm_zret (pc := 18) rfl (by decide) ?_ dX10_isNote_18
    cases h
    exact hq
  · replace h := fm_itn c3 h
    refine fl_iload0 (pc := 6) dX10_isNote_6 ?_
    refine fm_sipushv (pc := 7) 999 (by decide) dX10_isNote_7 ?_
    refine fm_icmp_gt (pc := 10) 17 (by decide) dX10_isNote_10 (fun c10 => ?_) (fun c10 => ?_)
    · replace h := fm_itp c10 h
      refine fm_iconstv (pc := 17) 0 (by decide) dX10_isNote_17 ?_
      refine fm_zret (pc := 18) rfl (by decide) ?_ dX10_isNote_18
      cases h
      exact hq
    · replace h := fm_itn c10 h
      refine fm_iconstv (pc := 13) 1 (by decide) dX10_isNote_13 ?_
      refine fm_goto (pc := 14) 18 (by decide) dX10_isNote_14 ?_
      refine fm_zret (pc := 18) rfl (by decide) ?_ dX10_isNote_18
      cases h
      exact hq
/-! X10_wetAt -/
def F_X10_wetAt (a1 : Int32) (M : fm_M) : Option (Int32 × fm_M) :=
    fm_gd (fm_inb 3 20) (
    if (M.1 78 (Int32.toNatClampNeg 3)) = 0 then (
      some (0, M)
    ) else (
      fm_gd (fm_inb 3 20) (
      fm_gd (fm_nz (M.1 78 (Int32.toNatClampNeg 3))) (
      fm_gd (fm_inb (i_rem a1 (M.1 78 (Int32.toNatClampNeg 3))) 16) (
      some ((M.1 87 (Int32.toNatClampNeg (i_rem a1 (M.1 78 (Int32.toNatClampNeg 3))))), M))))
    ))
theorem sp_X10_wetAt {d : Nat} {a1 : Int32} {M : fm_M} {x : Int32 × fm_M} {Q : Option Value → fm_M → Prop} (h : F_X10_wetAt a1 M = some x) (hq : Q (some (.int x.1)) x.2) : fm_ct d mX10_wetAt [.ref 76, .int a1] M Q := by
  rw [F_X10_wetAt] at h
  show fm_mw d mX10_wetAt Q 0 [some (.ref 76), some (.int a1)] [] M
  refine fl_aload0 (pc := 0) dX10_wetAt_0 ?_
  refine fm_getr (pc := 1) lk_10_13 sh_76 rfl dX10_wetAt_1 ?_
  refine fm_iconstv (pc := 4) 3 (by decide) dX10_wetAt_4 ?_
  obtain ⟨g1, h⟩ := fm_gdp h
  refine fm_iald (pc := 5) sh_78 (fm_inb_ok g1) dX10_wetAt_5 ?_
  refine fm_if_ne (pc := 6) 13 (by decide) dX10_wetAt_6 (fun c6 => ?_) (fun c6 => ?_)
  · replace h := fm_itn c6 h
    refine fl_aload0 (pc := 13) dX10_wetAt_13 ?_
    refine fm_getr (pc := 14) lk_10_40 sh_76 rfl dX10_wetAt_14 ?_
    refine fl_iload1 (pc := 17) dX10_wetAt_17 ?_
    refine fl_aload0 (pc := 18) dX10_wetAt_18 ?_
    refine fm_getr (pc := 19) lk_10_13 sh_76 rfl dX10_wetAt_19 ?_
    refine fm_iconstv (pc := 22) 3 (by decide) dX10_wetAt_22 ?_
    obtain ⟨g2, h⟩ := fm_gdp h
    refine fm_iald (pc := 23) sh_78 (fm_inb_ok g2) dX10_wetAt_23 ?_
    obtain ⟨g3, h⟩ := fm_gdp h
    refine fq_irem (pc := 24) (fm_nz_ok g3) dX10_wetAt_24 ?_
    obtain ⟨g4, h⟩ := fm_gdp h
    refine fm_iald (pc := 25) sh_87 (fm_inb_ok g4) dX10_wetAt_25 ?_
    refine fm_iret (pc := 26) rfl ?_ dX10_wetAt_26
    cases h
    exact hq
  · replace h := fm_itp c6 h
    refine fm_iconstv (pc := 9) 0 (by decide) dX10_wetAt_9 ?_
    refine fm_goto (pc := 10) 26 (by decide) dX10_wetAt_10 ?_
    refine fm_iret (pc := 26) rfl ?_ dX10_wetAt_26
    cases h
    exact hq
/-! X10_dampIn -/
def F_X10_dampIn (a1 : Int32) (M : fm_M) : Option (Int32 × fm_M) :=
    if (M.1 76 43) = 1 then (
      some (0, M)
    ) else (
      if (M.1 76 45) = (-1) then (
        fm_gd (fm_inb a1 23) (
        fm_bd (F_X10_wetAt (M.1 94 (Int32.toNatClampNeg a1)) M) (fun v2 M3 =>
        some (v2, M3)))
      ) else (
        some ((M.1 76 45), M)
      )
    )
theorem sp_X10_dampIn {d : Nat} {a1 : Int32} {M : fm_M} {x : Int32 × fm_M} {Q : Option Value → fm_M → Prop} (h : F_X10_dampIn a1 M = some x) (hq : Q (some (.int x.1)) x.2) : fm_ct (d + 1) mX10_dampIn [.ref 76, .int a1] M Q := by
  rw [F_X10_dampIn] at h
  show fm_mw (d + 1) mX10_dampIn Q 0 [some (.ref 76), some (.int a1)] [] M
  refine fl_aload0 (pc := 0) dX10_dampIn_0 ?_
  refine fm_geti (pc := 1) lk_10_316 sh_76 rfl dX10_dampIn_1 ?_
  refine fm_iconstv (pc := 4) 1 (by decide) dX10_dampIn_4 ?_
  refine fm_icmp_ne (pc := 5) 12 (by decide) dX10_dampIn_5 (fun c5 => ?_) (fun c5 => ?_)
  · replace h := fm_itn c5 h
    refine fl_aload0 (pc := 12) dX10_dampIn_12 ?_
    refine fm_geti (pc := 13) lk_10_93 sh_76 rfl dX10_dampIn_13 ?_
    refine fm_iconstv (pc := 16) (-1) (by decide) dX10_dampIn_16 ?_
    refine fm_icmp_eq (pc := 17) 27 (by decide) dX10_dampIn_17 (fun c17 => ?_) (fun c17 => ?_)
    · replace h := fm_itp c17 h
      refine fl_aload0 (pc := 27) dX10_dampIn_27 ?_
      refine fl_aload0 (pc := 28) dX10_dampIn_28 ?_
      refine fm_getr (pc := 29) lk_10_66 sh_76 rfl dX10_dampIn_29 ?_
      refine fl_iload1 (pc := 32) dX10_dampIn_32 ?_
      obtain ⟨g1, h⟩ := fm_gdp h
      refine fm_iald (pc := 33) sh_94 (fm_inb_ok g1) dX10_dampIn_33 ?_
      obtain ⟨v2, M3, ev2, h⟩ := fm_bdp h
      refine fm_callV (pc := 34) mX10_wetAt [_] _ rfl cvX10_wetAt ml_10_319 sh_76 rfl rfl (Nat.le_of_ble_eq_true rfl) (Nat.le_of_ble_eq_true rfl) dX10_dampIn_34 ?_
      refine sp_X10_wetAt ev2 ?_
      refine fm_ret1 ?_
      refine fm_iret (pc := 37) rfl ?_ dX10_dampIn_37
      cases h
      exact hq
    · replace h := fm_itn c17 h
      refine fl_aload0 (pc := 20) dX10_dampIn_20 ?_
      refine fm_geti (pc := 21) lk_10_93 sh_76 rfl dX10_dampIn_21 ?_
      refine fm_goto (pc := 24) 37 (by decide) dX10_dampIn_24 ?_
      refine fm_iret (pc := 37) rfl ?_ dX10_dampIn_37
      cases h
      exact hq
  · replace h := fm_itp c5 h
    refine fm_iconstv (pc := 8) 0 (by decide) dX10_dampIn_8 ?_
    refine fm_goto (pc := 9) 37 (by decide) dX10_dampIn_9 ?_
    refine fm_iret (pc := 37) rfl ?_ dX10_dampIn_37
    cases h
    exact hq
/-! X10_widthIn -/
def F_X10_widthIn (a1 : Int32) (M : fm_M) : Option (Int32 × fm_M) :=
    if a1 = (M.1 76 46) then (
      some ((M.1 76 47), M)
    ) else (
      fm_gd (fm_inb a1 16) (
      some ((M.1 81 (Int32.toNatClampNeg a1)), M))
    )
theorem sp_X10_widthIn {d : Nat} {a1 : Int32} {M : fm_M} {x : Int32 × fm_M} {Q : Option Value → fm_M → Prop} (h : F_X10_widthIn a1 M = some x) (hq : Q (some (.int x.1)) x.2) : fm_ct d mX10_widthIn [.ref 76, .int a1] M Q := by
  rw [F_X10_widthIn] at h
  show fm_mw d mX10_widthIn Q 0 [some (.ref 76), some (.int a1)] [] M
  refine fl_iload1 (pc := 0) dX10_widthIn_0 ?_
  refine fl_aload0 (pc := 1) dX10_widthIn_1 ?_
  refine fm_geti (pc := 2) lk_10_96 sh_76 rfl dX10_widthIn_2 ?_
  refine fm_icmp_ne (pc := 5) 15 (by decide) dX10_widthIn_5 (fun c5 => ?_) (fun c5 => ?_)
  · replace h := fm_itn c5 h
    refine fl_aload0 (pc := 15) dX10_widthIn_15 ?_
    refine fm_getr (pc := 16) lk_10_22 sh_76 rfl dX10_widthIn_16 ?_
    refine fl_iload1 (pc := 19) dX10_widthIn_19 ?_
    obtain ⟨g1, h⟩ := fm_gdp h
    refine fm_iald (pc := 20) sh_81 (fm_inb_ok g1) dX10_widthIn_20 ?_
    refine fm_iret (pc := 21) rfl ?_ dX10_widthIn_21
    cases h
    exact hq
  · replace h := fm_itp c5 h
    refine fl_aload0 (pc := 8) dX10_widthIn_8 ?_
    refine fm_geti (pc := 9) lk_10_322 sh_76 rfl dX10_widthIn_9 ?_
    refine fm_goto (pc := 12) 21 (by decide) dX10_widthIn_12 ?_
    refine fm_iret (pc := 21) rfl ?_ dX10_widthIn_21
    cases h
    exact hq
/-! X10_isThere -/
def F_X10_isThere (a1 : Int32) (M : fm_M) : Option (Int32 × fm_M) :=
    if (M.1 76 43) = 2 then (
      if a1 = (M.1 76 44) then (
        some (0, M)
      ) else (
        some (1, M)
      )
    ) else (
      some (1, M)
    )
theorem sp_X10_isThere {d : Nat} {a1 : Int32} {M : fm_M} {x : Int32 × fm_M} {Q : Option Value → fm_M → Prop} (h : F_X10_isThere a1 M = some x) (hq : Q (some (.int x.1)) x.2) : fm_ct d mX10_isThere [.ref 76, .int a1] M Q := by
  rw [F_X10_isThere] at h
  show fm_mw d mX10_isThere Q 0 [some (.ref 76), some (.int a1)] [] M
  refine fl_aload0 (pc := 0) dX10_isThere_0 ?_
  refine fm_geti (pc := 1) lk_10_316 sh_76 rfl dX10_isThere_1 ?_
  refine fm_iconstv (pc := 4) 2 (by decide) dX10_isThere_4 ?_
  refine fm_icmp_ne (pc := 5) 16 (by decide) dX10_isThere_5 (fun c5 => ?_) (fun c5 => ?_)
  · replace h := fm_itn c5 h
    refine fm_iconstv (pc := 16) 1 (by decide) dX10_isThere_16 ?_
    refine fm_goto (pc := 17) 21 (by decide) dX10_isThere_17 ?_
    refine fm_zret (pc := 21) rfl (by decide) ?_ dX10_isThere_21
    cases h
    exact hq
  · replace h := fm_itp c5 h
    refine fl_iload1 (pc := 8) dX10_isThere_8 ?_
    refine fl_aload0 (pc := 9) dX10_isThere_9 ?_
    refine fm_geti (pc := 10) lk_10_90 sh_76 rfl dX10_isThere_10 ?_
    refine fm_icmp_eq (pc := 13) 20 (by decide) dX10_isThere_13 (fun c13 => ?_) (fun c13 => ?_)
    · replace h := fm_itp c13 h
      refine fm_iconstv (pc := 20) 0 (by decide) dX10_isThere_20 ?_
      refine fm_zret (pc := 21) rfl (by decide) ?_ dX10_isThere_21
      cases h
      exact hq
    · replace h := fm_itn c13 h
      refine fm_iconstv (pc := 16) 1 (by decide) dX10_isThere_16 ?_
      refine fm_goto (pc := 17) 21 (by decide) dX10_isThere_17 ?_
      refine fm_zret (pc := 21) rfl (by decide) ?_ dX10_isThere_21
      cases h
      exact hq
/-! X10_isCracked -/
def F_X10_isCracked (a1 : Int32) (M : fm_M) : Option (Int32 × fm_M) :=
    if (M.1 76 43) = 4 then (
      some (0, M)
    ) else (
      fm_gd (fm_inb 9 20) (
      if (((M.1 78 (Int32.toNatClampNeg 9)) >>> (a1 &&& 31)) &&& 1) = 1 then (
        some (1, M)
      ) else (
        some (0, M)
      ))
    )
theorem sp_X10_isCracked {d : Nat} {a1 : Int32} {M : fm_M} {x : Int32 × fm_M} {Q : Option Value → fm_M → Prop} (h : F_X10_isCracked a1 M = some x) (hq : Q (some (.int x.1)) x.2) : fm_ct d mX10_isCracked [.ref 76, .int a1] M Q := by
  rw [F_X10_isCracked] at h
  show fm_mw d mX10_isCracked Q 0 [some (.ref 76), some (.int a1)] [] M
  refine fl_aload0 (pc := 0) dX10_isCracked_0 ?_
  refine fm_geti (pc := 1) lk_10_316 sh_76 rfl dX10_isCracked_1 ?_
  refine fm_iconstv (pc := 4) 4 (by decide) dX10_isCracked_4 ?_
  refine fm_icmp_eq (pc := 5) 27 (by decide) dX10_isCracked_5 (fun c5 => ?_) (fun c5 => ?_)
  · replace h := fm_itp c5 h
    refine fm_iconstv (pc := 27) 0 (by decide) dX10_isCracked_27 ?_
    refine fm_zret (pc := 28) rfl (by decide) ?_ dX10_isCracked_28
    cases h
    exact hq
  · replace h := fm_itn c5 h
    refine fl_aload0 (pc := 8) dX10_isCracked_8 ?_
    refine fm_getr (pc := 9) lk_10_13 sh_76 rfl dX10_isCracked_9 ?_
    refine fm_bipushv (pc := 12) 9 (by decide) dX10_isCracked_12 ?_
    obtain ⟨g1, h⟩ := fm_gdp h
    refine fm_iald (pc := 14) sh_78 (fm_inb_ok g1) dX10_isCracked_14 ?_
    refine fl_iload1 (pc := 15) dX10_isCracked_15 ?_
    refine fm_ishr (pc := 16) dX10_isCracked_16 ?_
    refine fm_iconstv (pc := 17) 1 (by decide) dX10_isCracked_17 ?_
    refine fm_iand (pc := 18) dX10_isCracked_18 ?_
    refine fm_iconstv (pc := 19) 1 (by decide) dX10_isCracked_19 ?_
    refine fm_icmp_ne (pc := 20) 27 (by decide) dX10_isCracked_20 (fun c20 => ?_) (fun c20 => ?_)
    · replace h := fm_itn c20 h
      refine fm_iconstv (pc := 27) 0 (by decide) dX10_isCracked_27 ?_
      refine fm_zret (pc := 28) rfl (by decide) ?_ dX10_isCracked_28
      cases h
      exact hq
    · replace h := fm_itp c20 h
      refine fm_iconstv (pc := 23) 1 (by decide) dX10_isCracked_23 ?_
      refine fm_goto (pc := 24) 28 (by decide) dX10_isCracked_24 ?_
      refine fm_zret (pc := 28) rfl (by decide) ?_ dX10_isCracked_28
      cases h
      exact hq
/-! X10_isTouched -/
def F_X10_isTouched (a1 : Int32) (a2 : Int32) (M : fm_M) : Option (Int32 × fm_M) :=
    if (M.1 76 43) = 5 then (
      some (0, M)
    ) else (
      fm_gd (fm_inb a1 23) (
      if (((M.1 97 (Int32.toNatClampNeg a1)) >>> (a2 &&& 31)) &&& 1) = 1 then (
        some (1, M)
      ) else (
        some (0, M)
      ))
    )
theorem sp_X10_isTouched {d : Nat} {a1 : Int32} {a2 : Int32} {M : fm_M} {x : Int32 × fm_M} {Q : Option Value → fm_M → Prop} (h : F_X10_isTouched a1 a2 M = some x) (hq : Q (some (.int x.1)) x.2) : fm_ct d mX10_isTouched [.ref 76, .int a1, .int a2] M Q := by
  rw [F_X10_isTouched] at h
  show fm_mw d mX10_isTouched Q 0 [some (.ref 76), some (.int a1), some (.int a2)] [] M
  refine fl_aload0 (pc := 0) dX10_isTouched_0 ?_
  refine fm_geti (pc := 1) lk_10_316 sh_76 rfl dX10_isTouched_1 ?_
  refine fm_iconstv (pc := 4) 5 (by decide) dX10_isTouched_4 ?_
  refine fm_icmp_eq (pc := 5) 26 (by decide) dX10_isTouched_5 (fun c5 => ?_) (fun c5 => ?_)
  · replace h := fm_itp c5 h
    refine fm_iconstv (pc := 26) 0 (by decide) dX10_isTouched_26 ?_
    refine fm_zret (pc := 27) rfl (by decide) ?_ dX10_isTouched_27
    cases h
    exact hq
  · replace h := fm_itn c5 h
    refine fl_aload0 (pc := 8) dX10_isTouched_8 ?_
    refine fm_getr (pc := 9) lk_10_75 sh_76 rfl dX10_isTouched_9 ?_
    refine fl_iload1 (pc := 12) dX10_isTouched_12 ?_
    obtain ⟨g1, h⟩ := fm_gdp h
    refine fm_iald (pc := 13) sh_97 (fm_inb_ok g1) dX10_isTouched_13 ?_
    refine fl_iload2 (pc := 14) dX10_isTouched_14 ?_
    refine fm_ishr (pc := 15) dX10_isTouched_15 ?_
    refine fm_iconstv (pc := 16) 1 (by decide) dX10_isTouched_16 ?_
    refine fm_iand (pc := 17) dX10_isTouched_17 ?_
    refine fm_iconstv (pc := 18) 1 (by decide) dX10_isTouched_18 ?_
    refine fm_icmp_ne (pc := 19) 26 (by decide) dX10_isTouched_19 (fun c19 => ?_) (fun c19 => ?_)
    · replace h := fm_itn c19 h
      refine fm_iconstv (pc := 26) 0 (by decide) dX10_isTouched_26 ?_
      refine fm_zret (pc := 27) rfl (by decide) ?_ dX10_isTouched_27
      cases h
      exact hq
    · replace h := fm_itp c19 h
      refine fm_iconstv (pc := 22) 1 (by decide) dX10_isTouched_22 ?_
      refine fm_goto (pc := 23) 27 (by decide) dX10_isTouched_23 ?_
      refine fm_zret (pc := 27) rfl (by decide) ?_ dX10_isTouched_27
      cases h
      exact hq
/-! X10_wetPitch -/
def F_X10_wetPitch (a1 : Int32) (a2 : Int32) (M : fm_M) : Option (Int32 × fm_M) :=
    fm_bd (F_X10_dampIn a1 M) (fun v1 M2 =>
    some ((i_max 1 (a2 - v1)), M2))
theorem sp_X10_wetPitch {d : Nat} {a1 : Int32} {a2 : Int32} {M : fm_M} {x : Int32 × fm_M} {Q : Option Value → fm_M → Prop} (h : F_X10_wetPitch a1 a2 M = some x) (hq : Q (some (.int x.1)) x.2) : fm_ct (d + 2) mX10_wetPitch [.ref 76, .int a1, .int a2] M Q := by
  rw [F_X10_wetPitch] at h
  show fm_mw (d + 2) mX10_wetPitch Q 0 [some (.ref 76), some (.int a1), some (.int a2)] [] M
  refine fm_iconstv (pc := 0) 1 (by decide) dX10_wetPitch_0 ?_
  refine fl_iload2 (pc := 1) dX10_wetPitch_1 ?_
  refine fl_aload0 (pc := 2) dX10_wetPitch_2 ?_
  refine fl_iload1 (pc := 3) dX10_wetPitch_3 ?_
  obtain ⟨v1, M2, ev1, h⟩ := fm_bdp h
  refine fm_callV (pc := 4) mX10_dampIn [_] _ rfl cvX10_dampIn ml_10_325 sh_76 rfl rfl (Nat.le_of_ble_eq_true rfl) (Nat.le_of_ble_eq_true rfl) dX10_wetPitch_4 ?_
  refine sp_X10_dampIn ev1 ?_
  refine fm_ret1 ?_
  refine fm_isub (pc := 7) dX10_wetPitch_7 ?_
  refine fq_mmax (pc := 8) ml_10_328 (Nat.le_of_ble_eq_true rfl) dX10_wetPitch_8 ?_
  refine fm_iret (pc := 11) rfl ?_ dX10_wetPitch_11
  cases h
  exact hq
/-! X10_beatsOf -/
def F_X10_beatsOf (a1 : Int32) (a2 : Int32) (a3 : Int32) (M : fm_M) : Option (Int32 × fm_M) :=
    fm_bd (F_X10_wetPitch a1 a2 M) (fun v1 M2 =>
    some ((i_min (i_abs (v1 - a3)) (i_min (i_abs ((2 * v1) - a3)) (i_abs (v1 - (2 * a3))))), M2))
theorem sp_X10_beatsOf {d : Nat} {a1 : Int32} {a2 : Int32} {a3 : Int32} {M : fm_M} {x : Int32 × fm_M} {Q : Option Value → fm_M → Prop} (h : F_X10_beatsOf a1 a2 a3 M = some x) (hq : Q (some (.int x.1)) x.2) : fm_ct (d + 3) mX10_beatsOf [.ref 76, .int a1, .int a2, .int a3] M Q := by
  rw [F_X10_beatsOf] at h
  show fm_mw (d + 3) mX10_beatsOf Q 0 [some (.ref 76), some (.int a1), some (.int a2), some (.int a3), none] [] M
  refine fl_aload0 (pc := 0) dX10_beatsOf_0 ?_
  refine fl_iload1 (pc := 1) dX10_beatsOf_1 ?_
  refine fl_iload2 (pc := 2) dX10_beatsOf_2 ?_
  obtain ⟨v1, M2, ev1, h⟩ := fm_bdp h
  refine fm_callV (pc := 3) mX10_wetPitch [_, _] _ rfl cvX10_wetPitch ml_10_331 sh_76 rfl rfl (Nat.le_of_ble_eq_true rfl) (Nat.le_of_ble_eq_true rfl) dX10_beatsOf_3 ?_
  refine sp_X10_wetPitch ev1 ?_
  refine fm_ret1 ?_
  refine fl_istore4 (pc := 6) rfl (by decide) dX10_beatsOf_6 ?_
  refine fl_iload4 (pc := 8) dX10_beatsOf_8 ?_
  refine fl_iload3 (pc := 10) dX10_beatsOf_10 ?_
  refine fm_isub (pc := 11) dX10_beatsOf_11 ?_
  refine fq_mabs (pc := 12) ml_10_334 (Nat.le_of_ble_eq_true rfl) dX10_beatsOf_12 ?_
  refine fm_iconstv (pc := 15) 2 (by decide) dX10_beatsOf_15 ?_
  refine fl_iload4 (pc := 16) dX10_beatsOf_16 ?_
  refine fm_imul (pc := 18) dX10_beatsOf_18 ?_
  refine fl_iload3 (pc := 19) dX10_beatsOf_19 ?_
  refine fm_isub (pc := 20) dX10_beatsOf_20 ?_
  refine fq_mabs (pc := 21) ml_10_334 (Nat.le_of_ble_eq_true rfl) dX10_beatsOf_21 ?_
  refine fl_iload4 (pc := 24) dX10_beatsOf_24 ?_
  refine fm_iconstv (pc := 26) 2 (by decide) dX10_beatsOf_26 ?_
  refine fl_iload3 (pc := 27) dX10_beatsOf_27 ?_
  refine fm_imul (pc := 28) dX10_beatsOf_28 ?_
  refine fm_isub (pc := 29) dX10_beatsOf_29 ?_
  refine fq_mabs (pc := 30) ml_10_334 (Nat.le_of_ble_eq_true rfl) dX10_beatsOf_30 ?_
  refine fq_mmin (pc := 33) ml_10_336 (Nat.le_of_ble_eq_true rfl) dX10_beatsOf_33 ?_
  refine fq_mmin (pc := 36) ml_10_336 (Nat.le_of_ble_eq_true rfl) dX10_beatsOf_36 ?_
  refine fm_iret (pc := 39) rfl ?_ dX10_beatsOf_39
  cases h
  exact hq
/-! X10_calls -/
def F_X10_calls (a1 : Int32) (a2 : Int32) (a3 : Int32) (a4 : Int32) (a5 : Int32) (a6 : Int32) (M : fm_M) : Option (Unit × fm_M) :=
    fm_gd (fm_inb 0 7) (
    fm_lt (fm_upL M 92 (Int32.toNatClampNeg 0) (Int32.toInt64 a2)) (fun M2 =>
    fm_gd (fm_inb 1 7) (
    fm_lt (fm_upL M2 92 (Int32.toNatClampNeg 1) (Int32.toInt64 a3)) (fun M4 =>
    fm_gd (fm_inb 2 7) (
    fm_lt (fm_upL M4 92 (Int32.toNatClampNeg 2) (Int32.toInt64 a4)) (fun M6 =>
    fm_gd (fm_inb 3 7) (
    fm_lt (fm_upL M6 92 (Int32.toNatClampNeg 3) (Int32.toInt64 a5)) (fun M8 =>
    fm_gd (fm_inb 4 7) (
    fm_lt (fm_upL M8 92 (Int32.toNatClampNeg 4) (Int32.toInt64 a6)) (fun M10 =>
    fm_bd (F_X10_dampIn a1 M10) (fun v11 M12 =>
    fm_gd (fm_inb 5 7) (
    fm_lt (fm_upL M12 92 (Int32.toNatClampNeg 5) (Int32.toInt64 v11)) (fun M14 =>
    fm_gd (fm_inb a1 23) (
    fm_gd (fm_inb 6 7) (
    fm_lt (fm_upL M14 92 (Int32.toNatClampNeg 6) (Int32.toInt64 (M14.1 94 (Int32.toNatClampNeg a1)))) (fun M17 =>
    some ((), M17)))))))))))))))))
theorem sp_X10_calls {d : Nat} {a1 : Int32} {a2 : Int32} {a3 : Int32} {a4 : Int32} {a5 : Int32} {a6 : Int32} {M : fm_M} {x : Unit × fm_M} {Q : Option Value → fm_M → Prop} (h : F_X10_calls a1 a2 a3 a4 a5 a6 M = some x) (hq : Q none x.2) : fm_ct (d + 2) mX10_calls [.ref 76, .int a1, .int a2, .int a3, .int a4, .int a5, .int a6] M Q := by
  rw [F_X10_calls] at h
  show fm_mw (d + 2) mX10_calls Q 0 [some (.ref 76), some (.int a1), some (.int a2), some (.int a3), some (.int a4), some (.int a5), some (.int a6)] [] M
  refine fl_aload0 (pc := 0) dX10_calls_0 ?_
  refine fm_getr (pc := 1) lk_10_59 sh_76 rfl dX10_calls_1 ?_
  refine fm_iconstv (pc := 4) 0 (by decide) dX10_calls_4 ?_
  refine fl_iload2 (pc := 5) dX10_calls_5 ?_
  refine fm_i2l (pc := 6) dX10_calls_6 ?_
  obtain ⟨g1, h⟩ := fm_gdp h
  refine fm_last (pc := 7) sh_92 (fm_inb_ok g1) dX10_calls_7 ?_
  obtain ⟨M2, eM2, h⟩ := fm_ltp h
  refine fm_cgm eM2 ?_
  refine fl_aload0 (pc := 8) dX10_calls_8 ?_
  refine fm_getr (pc := 9) lk_10_59 sh_76 rfl dX10_calls_9 ?_
  refine fm_iconstv (pc := 12) 1 (by decide) dX10_calls_12 ?_
  refine fl_iload3 (pc := 13) dX10_calls_13 ?_
  refine fm_i2l (pc := 14) dX10_calls_14 ?_
  obtain ⟨g3, h⟩ := fm_gdp h
  refine fm_last (pc := 15) sh_92 (fm_inb_ok g3) dX10_calls_15 ?_
  obtain ⟨M4, eM4, h⟩ := fm_ltp h
  refine fm_cgm eM4 ?_
  refine fl_aload0 (pc := 16) dX10_calls_16 ?_
  refine fm_getr (pc := 17) lk_10_59 sh_76 rfl dX10_calls_17 ?_
  refine fm_iconstv (pc := 20) 2 (by decide) dX10_calls_20 ?_
  refine fl_iload4 (pc := 21) dX10_calls_21 ?_
  refine fm_i2l (pc := 23) dX10_calls_23 ?_
  obtain ⟨g5, h⟩ := fm_gdp h
  refine fm_last (pc := 24) sh_92 (fm_inb_ok g5) dX10_calls_24 ?_
  obtain ⟨M6, eM6, h⟩ := fm_ltp h
  refine fm_cgm eM6 ?_
  refine fl_aload0 (pc := 25) dX10_calls_25 ?_
  refine fm_getr (pc := 26) lk_10_59 sh_76 rfl dX10_calls_26 ?_
  refine fm_iconstv (pc := 29) 3 (by decide) dX10_calls_29 ?_
  refine fl_iload5 (pc := 30) dX10_calls_30 ?_
  refine fm_i2l (pc := 32) dX10_calls_32 ?_
  obtain ⟨g7, h⟩ := fm_gdp h
  refine fm_last (pc := 33) sh_92 (fm_inb_ok g7) dX10_calls_33 ?_
  obtain ⟨M8, eM8, h⟩ := fm_ltp h
  refine fm_cgm eM8 ?_
  refine fl_aload0 (pc := 34) dX10_calls_34 ?_
  refine fm_getr (pc := 35) lk_10_59 sh_76 rfl dX10_calls_35 ?_
  refine fm_iconstv (pc := 38) 4 (by decide) dX10_calls_38 ?_
  refine fl_iload6 (pc := 39) dX10_calls_39 ?_
  refine fm_i2l (pc := 41) dX10_calls_41 ?_
  obtain ⟨g9, h⟩ := fm_gdp h
  refine fm_last (pc := 42) sh_92 (fm_inb_ok g9) dX10_calls_42 ?_
  obtain ⟨M10, eM10, h⟩ := fm_ltp h
  refine fm_cgm eM10 ?_
  refine fl_aload0 (pc := 43) dX10_calls_43 ?_
  refine fm_getr (pc := 44) lk_10_59 sh_76 rfl dX10_calls_44 ?_
  refine fm_iconstv (pc := 47) 5 (by decide) dX10_calls_47 ?_
  refine fl_aload0 (pc := 48) dX10_calls_48 ?_
  refine fl_iload1 (pc := 49) dX10_calls_49 ?_
  obtain ⟨v11, M12, ev11, h⟩ := fm_bdp h
  refine fm_callV (pc := 50) mX10_dampIn [_] _ rfl cvX10_dampIn ml_10_325 sh_76 rfl rfl (Nat.le_of_ble_eq_true rfl) (Nat.le_of_ble_eq_true rfl) dX10_calls_50 ?_
  refine sp_X10_dampIn ev11 ?_
  refine fm_ret1 ?_
  refine fm_i2l (pc := 53) dX10_calls_53 ?_
  obtain ⟨g13, h⟩ := fm_gdp h
  refine fm_last (pc := 54) sh_92 (fm_inb_ok g13) dX10_calls_54 ?_
  obtain ⟨M14, eM14, h⟩ := fm_ltp h
  refine fm_cgm eM14 ?_
  refine fl_aload0 (pc := 55) dX10_calls_55 ?_
  refine fm_getr (pc := 56) lk_10_59 sh_76 rfl dX10_calls_56 ?_
  refine fm_bipushv (pc := 59) 6 (by decide) dX10_calls_59 ?_
  refine fl_aload0 (pc := 61) dX10_calls_61 ?_
  refine fm_getr (pc := 62) lk_10_66 sh_76 rfl dX10_calls_62 ?_
  refine fl_iload1 (pc := 65) dX10_calls_65 ?_
  obtain ⟨g15, h⟩ := fm_gdp h
  refine fm_iald (pc := 66) sh_94 (fm_inb_ok g15) dX10_calls_66 ?_
  refine fm_i2l (pc := 67) dX10_calls_67 ?_
  obtain ⟨g16, h⟩ := fm_gdp h
  refine fm_last (pc := 68) sh_92 (fm_inb_ok g16) dX10_calls_68 ?_
  obtain ⟨M17, eM17, h⟩ := fm_ltp h
  refine fm_cgm eM17 ?_
  refine fm_vret (pc := 69) rfl ?_ dX10_calls_69
  cases h
  exact hq
/-! X10_callsHum -/
def F_X10_callsHum (a1 : Int32) (a2 : Int32) (a3 : Int32) (a4 : Int32) (M : fm_M) : Option (Unit × fm_M) :=
    fm_bd (F_X10_wetPitch a1 a3 M) (fun v1 M2 =>
    fm_bd (F_X10_widthIn a2 M2) (fun v3 M4 =>
    fm_gd (fm_inb a2 16) (
    fm_bd (F_X10_beatsOf a1 a3 a4 M4) (fun v6 M7 =>
    fm_bd (F_X10_calls a1 v1 a4 v3 (M4.1 82 (Int32.toNatClampNeg a2)) v6 M7) (fun v8 M9 =>
    some ((), M9))))))
theorem sp_X10_callsHum {d : Nat} {a1 : Int32} {a2 : Int32} {a3 : Int32} {a4 : Int32} {M : fm_M} {x : Unit × fm_M} {Q : Option Value → fm_M → Prop} (h : F_X10_callsHum a1 a2 a3 a4 M = some x) (hq : Q none x.2) : fm_ct (d + 4) mX10_callsHum [.ref 76, .int a1, .int a2, .int a3, .int a4] M Q := by
  rw [F_X10_callsHum] at h
  show fm_mw (d + 4) mX10_callsHum Q 0 [some (.ref 76), some (.int a1), some (.int a2), some (.int a3), some (.int a4)] [] M
  refine fl_aload0 (pc := 0) dX10_callsHum_0 ?_
  refine fl_iload1 (pc := 1) dX10_callsHum_1 ?_
  refine fl_aload0 (pc := 2) dX10_callsHum_2 ?_
  refine fl_iload1 (pc := 3) dX10_callsHum_3 ?_
  refine fl_iload3 (pc := 4) dX10_callsHum_4 ?_
  obtain ⟨v1, M2, ev1, h⟩ := fm_bdp h
  refine fm_callV (pc := 5) mX10_wetPitch [_, _] _ rfl cvX10_wetPitch ml_10_331 sh_76 rfl rfl (Nat.le_of_ble_eq_true rfl) (Nat.le_of_ble_eq_true rfl) dX10_callsHum_5 ?_
  refine sp_X10_wetPitch ev1 ?_
  refine fm_ret1 ?_
  refine fl_iload4 (pc := 8) dX10_callsHum_8 ?_
  refine fl_aload0 (pc := 10) dX10_callsHum_10 ?_
  refine fl_iload2 (pc := 11) dX10_callsHum_11 ?_
  obtain ⟨v3, M4, ev3, h⟩ := fm_bdp h
  refine fm_callV (pc := 12) mX10_widthIn [_] _ rfl cvX10_widthIn ml_10_339 sh_76 rfl rfl (Nat.le_of_ble_eq_true rfl) (Nat.le_of_ble_eq_true rfl) dX10_callsHum_12 ?_
  refine sp_X10_widthIn ev3 ?_
  refine fm_ret1 ?_
  refine fl_aload0 (pc := 15) dX10_callsHum_15 ?_
  refine fm_getr (pc := 16) lk_10_25 sh_76 rfl dX10_callsHum_16 ?_
  refine fl_iload2 (pc := 19) dX10_callsHum_19 ?_
  obtain ⟨g5, h⟩ := fm_gdp h
  refine fm_iald (pc := 20) sh_82 (fm_inb_ok g5) dX10_callsHum_20 ?_
  refine fl_aload0 (pc := 21) dX10_callsHum_21 ?_
  refine fl_iload1 (pc := 22) dX10_callsHum_22 ?_
  refine fl_iload3 (pc := 23) dX10_callsHum_23 ?_
  refine fl_iload4 (pc := 24) dX10_callsHum_24 ?_
  obtain ⟨v6, M7, ev6, h⟩ := fm_bdp h
  refine fm_callV (pc := 26) mX10_beatsOf [_, _, _] _ rfl cvX10_beatsOf ml_10_342 sh_76 rfl rfl (Nat.le_of_ble_eq_true rfl) (Nat.le_of_ble_eq_true rfl) dX10_callsHum_26 ?_
  refine sp_X10_beatsOf ev6 ?_
  refine fm_ret1 ?_
  obtain ⟨v8, M9, ev8, h⟩ := fm_bdp h
  refine fm_callV (pc := 29) mX10_calls [_, _, _, _, _, _] _ rfl cvX10_calls ml_10_346 sh_76 rfl rfl (Nat.le_of_ble_eq_true rfl) (Nat.le_of_ble_eq_true rfl) dX10_callsHum_29 ?_
  refine sp_X10_calls ev8 ?_
  refine fm_ret0 ?_
  refine fm_vret (pc := 32) rfl ?_ dX10_callsHum_32
  cases h
  exact hq
/-! X10_callsRust -/
def F_X10_callsRust (a1 : Int32) (a2 : Int32) (M : fm_M) : Option (Unit × fm_M) :=
    fm_gd (fm_inb ((8 * a1) + a2) 184) (
    fm_bd (F_X10_wetPitch a1 (M.1 98 (Int32.toNatClampNeg ((8 * a1) + a2))) M) (fun v2 M3 =>
    fm_bd (F_X10_widthIn a2 M3) (fun v4 M5 =>
    fm_gd (fm_inb a2 16) (
    fm_bd (F_X10_calls a1 v2 0 v4 (M5.1 82 (Int32.toNatClampNeg a2)) 0 M5) (fun v7 M8 =>
    some ((), M8))))))
theorem sp_X10_callsRust {d : Nat} {a1 : Int32} {a2 : Int32} {M : fm_M} {x : Unit × fm_M} {Q : Option Value → fm_M → Prop} (h : F_X10_callsRust a1 a2 M = some x) (hq : Q none x.2) : fm_ct (d + 3) mX10_callsRust [.ref 76, .int a1, .int a2] M Q := by
  rw [F_X10_callsRust] at h
  show fm_mw (d + 3) mX10_callsRust Q 0 [some (.ref 76), some (.int a1), some (.int a2)] [] M
  refine fl_aload0 (pc := 0) dX10_callsRust_0 ?_
  refine fl_iload1 (pc := 1) dX10_callsRust_1 ?_
  refine fl_aload0 (pc := 2) dX10_callsRust_2 ?_
  refine fl_iload1 (pc := 3) dX10_callsRust_3 ?_
  refine fl_aload0 (pc := 4) dX10_callsRust_4 ?_
  refine fm_getr (pc := 5) lk_10_78 sh_76 rfl dX10_callsRust_5 ?_
  refine fm_bipushv (pc := 8) 8 (by decide) dX10_callsRust_8 ?_
  refine fl_iload1 (pc := 10) dX10_callsRust_10 ?_
  refine fm_imul (pc := 11) dX10_callsRust_11 ?_
  refine fl_iload2 (pc := 12) dX10_callsRust_12 ?_
  refine fm_iadd (pc := 13) dX10_callsRust_13 ?_
  obtain ⟨g1, h⟩ := fm_gdp h
  refine fm_iald (pc := 14) sh_98 (fm_inb_ok g1) dX10_callsRust_14 ?_
  obtain ⟨v2, M3, ev2, h⟩ := fm_bdp h
  refine fm_callV (pc := 15) mX10_wetPitch [_, _] _ rfl cvX10_wetPitch ml_10_331 sh_76 rfl rfl (Nat.le_of_ble_eq_true rfl) (Nat.le_of_ble_eq_true rfl) dX10_callsRust_15 ?_
  refine sp_X10_wetPitch ev2 ?_
  refine fm_ret1 ?_
  refine fm_iconstv (pc := 18) 0 (by decide) dX10_callsRust_18 ?_
  refine fl_aload0 (pc := 19) dX10_callsRust_19 ?_
  refine fl_iload2 (pc := 20) dX10_callsRust_20 ?_
  obtain ⟨v4, M5, ev4, h⟩ := fm_bdp h
  refine fm_callV (pc := 21) mX10_widthIn [_] _ rfl cvX10_widthIn ml_10_339 sh_76 rfl rfl (Nat.le_of_ble_eq_true rfl) (Nat.le_of_ble_eq_true rfl) dX10_callsRust_21 ?_
  refine sp_X10_widthIn ev4 ?_
  refine fm_ret1 ?_
  refine fl_aload0 (pc := 24) dX10_callsRust_24 ?_
  refine fm_getr (pc := 25) lk_10_25 sh_76 rfl dX10_callsRust_25 ?_
  refine fl_iload2 (pc := 28) dX10_callsRust_28 ?_
  obtain ⟨g6, h⟩ := fm_gdp h
  refine fm_iald (pc := 29) sh_82 (fm_inb_ok g6) dX10_callsRust_29 ?_
  refine fm_iconstv (pc := 30) 0 (by decide) dX10_callsRust_30 ?_
  obtain ⟨v7, M8, ev7, h⟩ := fm_bdp h
  refine fm_callV (pc := 31) mX10_calls [_, _, _, _, _, _] _ rfl cvX10_calls ml_10_346 sh_76 rfl rfl (Nat.le_of_ble_eq_true rfl) (Nat.le_of_ble_eq_true rfl) dX10_callsRust_31 ?_
  refine sp_X10_calls ev7 ?_
  refine fm_ret0 ?_
  refine fm_vret (pc := 34) rfl ?_ dX10_callsRust_34
  cases h
  exact hq
/-! X10_within -/
def F_X10_within (a1 : Int32) (a2 : Int32) (a3 : Int32) (M : fm_M) : Option (Int32 × fm_M) :=
    fm_bd (F_X10_hasLaw a1 M) (fun v1 M2 =>
    if v1 = 0 then (
      some (a3, M2)
    ) else (
      fm_bd (F_X10_goes a1 M2) (fun v3 M4 =>
      if v3 = 0 then (
        some (a3, M4)
      ) else (
        fm_gd (fm_inb 0 64) (
        some ((Int64.toInt32 (l_max 0 (l_min (Int32.toInt64 a2) (M4.2 93 (Int32.toNatClampNeg 0))))), M4))
      ))
    ))
theorem sp_X10_within {d : Nat} {a1 : Int32} {a2 : Int32} {a3 : Int32} {M : fm_M} {x : Int32 × fm_M} {Q : Option Value → fm_M → Prop} (h : F_X10_within a1 a2 a3 M = some x) (hq : Q (some (.int x.1)) x.2) : fm_ct (d + 3) mX10_within [.ref 76, .int a1, .int a2, .int a3] M Q := by
  rw [F_X10_within] at h
  show fm_mw (d + 3) mX10_within Q 0 [some (.ref 76), some (.int a1), some (.int a2), some (.int a3)] [] M
  refine fl_aload0 (pc := 0) dX10_within_0 ?_
  refine fl_iload1 (pc := 1) dX10_within_1 ?_
  obtain ⟨v1, M2, ev1, h⟩ := fm_bdp h
  refine fm_callV (pc := 2) mX10_hasLaw [_] _ rfl cvX10_hasLaw ml_10_350 sh_76 rfl rfl (Nat.le_of_ble_eq_true rfl) (Nat.le_of_ble_eq_true rfl) dX10_within_2 ?_
  refine sp_X10_hasLaw ev1 ?_
  refine fm_ret1 ?_
  refine fm_if_eq (pc := 5) 16 (by decide) dX10_within_5 (fun c5 => ?_) (fun c5 => ?_)
  · replace h := fm_itp c5 h
    refine fl_iload3 (pc := 16) dX10_within_16 ?_
    refine fm_iret (pc := 17) rfl ?_ dX10_within_17
    cases h
    exact hq
  · replace h := fm_itn c5 h
    refine fl_aload0 (pc := 8) dX10_within_8 ?_
    refine fl_iload1 (pc := 9) dX10_within_9 ?_
    obtain ⟨v3, M4, ev3, h⟩ := fm_bdp h
    refine fm_callV (pc := 10) mX10_goes [_] _ rfl cvX10_goes ml_10_353 sh_76 rfl rfl (Nat.le_of_ble_eq_true rfl) (Nat.le_of_ble_eq_true rfl) dX10_within_10 ?_
    refine sp_X10_goes ev3 ?_
    refine fm_ret1 ?_
    refine fm_if_ne (pc := 13) 18 (by decide) dX10_within_13 (fun c13 => ?_) (fun c13 => ?_)
    · replace h := fm_itn c13 h
      refine fm_lconstv (pc := 18) 0 (by decide) dX10_within_18 ?_
      refine fl_iload2 (pc := 19) dX10_within_19 ?_
      refine fm_i2l (pc := 20) dX10_within_20 ?_
      refine fl_aload0 (pc := 21) dX10_within_21 ?_
      refine fm_getr (pc := 22) lk_10_63 sh_76 rfl dX10_within_22 ?_
      refine fm_iconstv (pc := 25) 0 (by decide) dX10_within_25 ?_
      obtain ⟨g5, h⟩ := fm_gdp h
      refine fm_lald (pc := 26) sh_93 (fm_inb_ok g5) dX10_within_26 ?_
      refine fq_mminl (pc := 27) ml_10_356 (Nat.le_of_ble_eq_true rfl) dX10_within_27 ?_
      refine fq_mmaxl (pc := 30) ml_10_359 (Nat.le_of_ble_eq_true rfl) dX10_within_30 ?_
      refine fm_l2i (pc := 33) dX10_within_33 ?_
      refine fm_iret (pc := 34) rfl ?_ dX10_within_34
      cases h
      exact hq
    · replace h := fm_itp c13 h
      refine fl_iload3 (pc := 16) dX10_within_16 ?_
      refine fm_iret (pc := 17) rfl ?_ dX10_within_17
      cases h
      exact hq
/-! X10_loudAt -/
def J_X10_loudAt_38 (l1 : Int32) (l2 : Int32) (l3 : Int32) (l4 : Int32) (s0 : Int32) (M : fm_M) : Option (Int32 × fm_M) :=
    if s0 = 0 then (
      fm_bd (F_X10_within 0 99 0 M) (fun v5 M6 =>
      some (v5, M6))
    ) else (
      fm_gd (fm_inb l2 16) (
      fm_bd (F_X10_within 0 99 (M.1 82 (Int32.toNatClampNeg l2)) M) (fun v8 M9 =>
      some (v8, M9)))
    )
def J_X10_loudAt_33 (l1 : Int32) (l2 : Int32) (l3 : Int32) (l4 : Int32) (M : fm_M) : Option (Int32 × fm_M) :=
    J_X10_loudAt_38 l1 l2 l3 l4 1 M
def F_X10_loudAt (a1 : Int32) (a2 : Int32) (a3 : Int32) (a4 : Int32) (M : fm_M) : Option (Int32 × fm_M) :=
    fm_bd (F_X10_callsHum a1 a2 a3 a4 M) (fun v1 M2 =>
    fm_bd (F_X10_isCracked a2 M2) (fun v3 M4 =>
    if v3 = 0 then (
      fm_bd (F_X10_beatsOf a1 a3 a4 M4) (fun v10 M11 =>
      fm_bd (F_X10_widthIn a2 M11) (fun v12 M13 =>
      if v12 < v10 then (
        J_X10_loudAt_38 a1 a2 a3 a4 0 M13
      ) else (
        J_X10_loudAt_33 a1 a2 a3 a4 M13
      )))
    ) else (
      J_X10_loudAt_33 a1 a2 a3 a4 M4
    )))
theorem jn_X10_loudAt_38 {d : Nat} {Q : Option Value → fm_M → Prop}  (l1 : Int32) (l2 : Int32) (l3 : Int32) (l4 : Int32) (s0 : Int32) {x : Int32 × fm_M}  (hq : Q (some (.int x.1)) x.2) (M : fm_M) (h : J_X10_loudAt_38 l1 l2 l3 l4 s0 M = some x) : fm_mw (d + 5) mX10_loudAt Q 38 [some (.ref 76), some (.int l1), some (.int l2), some (.int l3), some (.int l4), none] [(.int s0)] M := by
  rw [J_X10_loudAt_38] at h
  refine fl_istore5 (pc := 38) rfl (by decide) dX10_loudAt_38 ?_
  refine fl_aload0 (pc := 40) dX10_loudAt_40 ?_
  refine fm_iconstv (pc := 41) 0 (by decide) dX10_loudAt_41 ?_
  refine fm_bipushv (pc := 42) 99 (by decide) dX10_loudAt_42 ?_
  refine fl_iload5 (pc := 44) dX10_loudAt_44 ?_
  refine fm_if_eq (pc := 46) 58 (by decide) dX10_loudAt_46 (fun c46 => ?_) (fun c46 => ?_)
  · replace h := fm_itp c46 h
    refine fm_iconstv (pc := 58) 0 (by decide) dX10_loudAt_58 ?_
    obtain ⟨v5, M6, ev5, h⟩ := fm_bdp h
    refine fm_callV (pc := 59) mX10_within [_, _, _] _ rfl cvX10_within ml_10_368 sh_76 rfl rfl (Nat.le_of_ble_eq_true rfl) (Nat.le_of_ble_eq_true rfl) dX10_loudAt_59 ?_
    refine sp_X10_within ev5 ?_
    refine fm_ret1 ?_
    refine fm_iret (pc := 62) rfl ?_ dX10_loudAt_62
    cases h
    exact hq
  · replace h := fm_itn c46 h
    refine fl_aload0 (pc := 49) dX10_loudAt_49 ?_
    refine fm_getr (pc := 50) lk_10_25 sh_76 rfl dX10_loudAt_50 ?_
    refine fl_iload2 (pc := 53) dX10_loudAt_53 ?_
    obtain ⟨g7, h⟩ := fm_gdp h
    refine fm_iald (pc := 54) sh_82 (fm_inb_ok g7) dX10_loudAt_54 ?_
    refine fm_goto (pc := 55) 59 (by decide) dX10_loudAt_55 ?_
    obtain ⟨v8, M9, ev8, h⟩ := fm_bdp h
    refine fm_callV (pc := 59) mX10_within [_, _, _] _ rfl cvX10_within ml_10_368 sh_76 rfl rfl (Nat.le_of_ble_eq_true rfl) (Nat.le_of_ble_eq_true rfl) dX10_loudAt_59 ?_
    refine sp_X10_within ev8 ?_
    refine fm_ret1 ?_
    refine fm_iret (pc := 62) rfl ?_ dX10_loudAt_62
    cases h
    exact hq
theorem jn_X10_loudAt_33 {d : Nat} {Q : Option Value → fm_M → Prop}  (l1 : Int32) (l2 : Int32) (l3 : Int32) (l4 : Int32) {x : Int32 × fm_M}  (hq : Q (some (.int x.1)) x.2) (M : fm_M) (h : J_X10_loudAt_33 l1 l2 l3 l4 M = some x) : fm_mw (d + 5) mX10_loudAt Q 33 [some (.ref 76), some (.int l1), some (.int l2), some (.int l3), some (.int l4), none] [] M := by
  rw [J_X10_loudAt_33] at h
  refine fm_iconstv (pc := 33) 1 (by decide) dX10_loudAt_33 ?_
  refine fm_goto (pc := 34) 38 (by decide) dX10_loudAt_34 ?_
  exact jn_X10_loudAt_38 _ _ _ _ _  hq _ h
theorem sp_X10_loudAt {d : Nat} {a1 : Int32} {a2 : Int32} {a3 : Int32} {a4 : Int32} {M : fm_M} {x : Int32 × fm_M} {Q : Option Value → fm_M → Prop} (h : F_X10_loudAt a1 a2 a3 a4 M = some x) (hq : Q (some (.int x.1)) x.2) : fm_ct (d + 5) mX10_loudAt [.ref 76, .int a1, .int a2, .int a3, .int a4] M Q := by
  rw [F_X10_loudAt] at h
  show fm_mw (d + 5) mX10_loudAt Q 0 [some (.ref 76), some (.int a1), some (.int a2), some (.int a3), some (.int a4), none] [] M
  refine fl_aload0 (pc := 0) dX10_loudAt_0 ?_
  refine fl_iload1 (pc := 1) dX10_loudAt_1 ?_
  refine fl_iload2 (pc := 2) dX10_loudAt_2 ?_
  refine fl_iload3 (pc := 3) dX10_loudAt_3 ?_
  refine fl_iload4 (pc := 4) dX10_loudAt_4 ?_
  obtain ⟨v1, M2, ev1, h⟩ := fm_bdp h
  refine fm_callV (pc := 6) mX10_callsHum [_, _, _, _] _ rfl cvX10_callsHum ml_10_361 sh_76 rfl rfl (Nat.le_of_ble_eq_true rfl) (Nat.le_of_ble_eq_true rfl) dX10_loudAt_6 ?_
  refine sp_X10_callsHum ev1 ?_
  refine fm_ret0 ?_
  refine fl_aload0 (pc := 9) dX10_loudAt_9 ?_
  refine fl_iload2 (pc := 10) dX10_loudAt_10 ?_
  obtain ⟨v3, M4, ev3, h⟩ := fm_bdp h
  refine fm_callV (pc := 11) mX10_isCracked [_] _ rfl cvX10_isCracked ml_10_365 sh_76 rfl rfl (Nat.le_of_ble_eq_true rfl) (Nat.le_of_ble_eq_true rfl) dX10_loudAt_11 ?_
  refine sp_X10_isCracked ev3 ?_
  refine fm_ret1 ?_
  refine fm_if_ne (pc := 14) 33 (by decide) dX10_loudAt_14 (fun c14 => ?_) (fun c14 => ?_)
  · replace h := fm_itn c14 h
    exact jn_X10_loudAt_33 _ _ _ _  hq _ h
  · replace h := fm_itp c14 h
    refine fl_aload0 (pc := 17) dX10_loudAt_17 ?_
    refine fl_iload1 (pc := 18) dX10_loudAt_18 ?_
    refine fl_iload3 (pc := 19) dX10_loudAt_19 ?_
    refine fl_iload4 (pc := 20) dX10_loudAt_20 ?_
    obtain ⟨v10, M11, ev10, h⟩ := fm_bdp h
    refine fm_callV (pc := 22) mX10_beatsOf [_, _, _] _ rfl cvX10_beatsOf ml_10_342 sh_76 rfl rfl (Nat.le_of_ble_eq_true rfl) (Nat.le_of_ble_eq_true rfl) dX10_loudAt_22 ?_
    refine sp_X10_beatsOf ev10 ?_
    refine fm_ret1 ?_
    refine fl_aload0 (pc := 25) dX10_loudAt_25 ?_
    refine fl_iload2 (pc := 26) dX10_loudAt_26 ?_
    obtain ⟨v12, M13, ev12, h⟩ := fm_bdp h
    refine fm_callV (pc := 27) mX10_widthIn [_] _ rfl cvX10_widthIn ml_10_339 sh_76 rfl rfl (Nat.le_of_ble_eq_true rfl) (Nat.le_of_ble_eq_true rfl) dX10_loudAt_27 ?_
    refine sp_X10_widthIn ev12 ?_
    refine fm_ret1 ?_
    refine fm_icmp_gt (pc := 30) 37 (by decide) dX10_loudAt_30 (fun c30 => ?_) (fun c30 => ?_)
    · replace h := fm_itp c30 h
      refine fm_iconstv (pc := 37) 0 (by decide) dX10_loudAt_37 ?_
      exact jn_X10_loudAt_38 _ _ _ _ _  hq _ h
    · replace h := fm_itn c30 h
      exact jn_X10_loudAt_33 _ _ _ _  hq _ h
/-! X10_humOf -/
def F_X10_humOf (a1 : Int32) (a2 : Int32) (a3 : Int32) (M : fm_M) : Option (Int32 × fm_M) :=
    fm_bd (F_X10_isThere a2 M) (fun v1 M2 =>
    if v1 = 0 then (
      some (0, M2)
    ) else (
      fm_bd (F_X10_isTouched a1 a2 M2) (fun v3 M4 =>
      if v3 = 0 then (
        fm_gd (fm_inb ((8 * a1) + a2) 184) (
        fm_bd (F_X10_loudAt a1 a2 (M4.1 98 (Int32.toNatClampNeg ((8 * a1) + a2))) a3 M4) (fun v6 M7 =>
        some (v6, M7)))
      ) else (
        some (0, M4)
      ))
    ))
theorem sp_X10_humOf {d : Nat} {a1 : Int32} {a2 : Int32} {a3 : Int32} {M : fm_M} {x : Int32 × fm_M} {Q : Option Value → fm_M → Prop} (h : F_X10_humOf a1 a2 a3 M = some x) (hq : Q (some (.int x.1)) x.2) : fm_ct (d + 6) mX10_humOf [.ref 76, .int a1, .int a2, .int a3] M Q := by
  rw [F_X10_humOf] at h
  show fm_mw (d + 6) mX10_humOf Q 0 [some (.ref 76), some (.int a1), some (.int a2), some (.int a3)] [] M
  refine fl_aload0 (pc := 0) dX10_humOf_0 ?_
  refine fl_iload2 (pc := 1) dX10_humOf_1 ?_
  obtain ⟨v1, M2, ev1, h⟩ := fm_bdp h
  refine fm_callV (pc := 2) mX10_isThere [_] _ rfl cvX10_isThere ml_10_371 sh_76 rfl rfl (Nat.le_of_ble_eq_true rfl) (Nat.le_of_ble_eq_true rfl) dX10_humOf_2 ?_
  refine sp_X10_isThere ev1 ?_
  refine fm_ret1 ?_
  refine fm_if_eq (pc := 5) 17 (by decide) dX10_humOf_5 (fun c5 => ?_) (fun c5 => ?_)
  · replace h := fm_itp c5 h
    refine fm_iconstv (pc := 17) 0 (by decide) dX10_humOf_17 ?_
    refine fm_goto (pc := 18) 39 (by decide) dX10_humOf_18 ?_
    refine fm_iret (pc := 39) rfl ?_ dX10_humOf_39
    cases h
    exact hq
  · replace h := fm_itn c5 h
    refine fl_aload0 (pc := 8) dX10_humOf_8 ?_
    refine fl_iload1 (pc := 9) dX10_humOf_9 ?_
    refine fl_iload2 (pc := 10) dX10_humOf_10 ?_
    obtain ⟨v3, M4, ev3, h⟩ := fm_bdp h
    refine fm_callV (pc := 11) mX10_isTouched [_, _] _ rfl cvX10_isTouched ml_10_374 sh_76 rfl rfl (Nat.le_of_ble_eq_true rfl) (Nat.le_of_ble_eq_true rfl) dX10_humOf_11 ?_
    refine sp_X10_isTouched ev3 ?_
    refine fm_ret1 ?_
    refine fm_if_eq (pc := 14) 21 (by decide) dX10_humOf_14 (fun c14 => ?_) (fun c14 => ?_)
    · replace h := fm_itp c14 h
      refine fl_aload0 (pc := 21) dX10_humOf_21 ?_
      refine fl_iload1 (pc := 22) dX10_humOf_22 ?_
      refine fl_iload2 (pc := 23) dX10_humOf_23 ?_
      refine fl_aload0 (pc := 24) dX10_humOf_24 ?_
      refine fm_getr (pc := 25) lk_10_78 sh_76 rfl dX10_humOf_25 ?_
      refine fm_bipushv (pc := 28) 8 (by decide) dX10_humOf_28 ?_
      refine fl_iload1 (pc := 30) dX10_humOf_30 ?_
      refine fm_imul (pc := 31) dX10_humOf_31 ?_
      refine fl_iload2 (pc := 32) dX10_humOf_32 ?_
      refine fm_iadd (pc := 33) dX10_humOf_33 ?_
      obtain ⟨g5, h⟩ := fm_gdp h
      refine fm_iald (pc := 34) sh_98 (fm_inb_ok g5) dX10_humOf_34 ?_
      refine fl_iload3 (pc := 35) dX10_humOf_35 ?_
      obtain ⟨v6, M7, ev6, h⟩ := fm_bdp h
      refine fm_callV (pc := 36) mX10_loudAt [_, _, _, _] _ rfl cvX10_loudAt ml_10_378 sh_76 rfl rfl (Nat.le_of_ble_eq_true rfl) (Nat.le_of_ble_eq_true rfl) dX10_humOf_36 ?_
      refine sp_X10_loudAt ev6 ?_
      refine fm_ret1 ?_
      refine fm_iret (pc := 39) rfl ?_ dX10_humOf_39
      cases h
      exact hq
    · replace h := fm_itn c14 h
      refine fm_iconstv (pc := 17) 0 (by decide) dX10_humOf_17 ?_
      refine fm_goto (pc := 18) 39 (by decide) dX10_humOf_18 ?_
      refine fm_iret (pc := 39) rfl ?_ dX10_humOf_39
      cases h
      exact hq
/-! X10_humAll -/
def G_X10_humAll_5 : Nat → Int32 → Int32 → Int32 → Int32 → fm_M → Option ((Int32 × Int32) × fm_M)
  | 0, _, _, _, _, _ => none
  | n + 1, l1, l2, l3, l4, M =>
    fm_gd (fm_inb 0 20) (
    if (M.1 78 (Int32.toNatClampNeg 0)) ≤ l4 then (
      some ((l3, l4), M)
    ) else (
      fm_bd (F_X10_humOf l1 l4 l2 M) (fun v2 M3 =>
      fm_lt ((l3 + v2)) (fun x4 =>
      G_X10_humAll_5 n l1 l2 x4 (l4 + 1) M3))
    ))
def F_X10_humAll (a1 : Int32) (a2 : Int32) (M : fm_M) : Option (Int32 × fm_M) :=
    fm_bd (G_X10_humAll_5 fm_fuel a1 a2 0 0 M) (fun w5 M6 =>
      some (w5.1, M6))
theorem lp_X10_humAll_5 {d : Nat} {Q : Option Value → fm_M → Prop} {l1 : Int32} {l2 : Int32}   {x : (Int32 × Int32) × fm_M} (k1 : ∀ (v : Int32 × Int32) (M2 : fm_M), x = (v, M2) → fm_mw (d + 7) mX10_humAll Q 33 [some (.ref 76), some (.int l1), some (.int l2), some (.int v.1), some (.int v.2)] [] M2) : ∀ (n : Nat) (l3 : Int32) (l4 : Int32) (M : fm_M), G_X10_humAll_5 n l1 l2 l3 l4 M = some x → fm_mw (d + 7) mX10_humAll Q 5 [some (.ref 76), some (.int l1), some (.int l2), some (.int l3), some (.int l4)] [] M := by
  intro n
  induction n with
  | zero => intro l3 l4 M h; simp [G_X10_humAll_5] at h
  | succ n ih =>
    intro l3 l4 M h
    rw [G_X10_humAll_5] at h
    refine fl_iload4 (pc := 5) dX10_humAll_5 ?_
    refine fl_aload0 (pc := 7) dX10_humAll_7 ?_
    refine fm_getr (pc := 8) lk_10_13 sh_76 rfl dX10_humAll_8 ?_
    refine fm_iconstv (pc := 11) 0 (by decide) dX10_humAll_11 ?_
    obtain ⟨g1, h⟩ := fm_gdp h
    refine fm_iald (pc := 12) sh_78 (fm_inb_ok g1) dX10_humAll_12 ?_
    refine fm_icmp_ge (pc := 13) 33 (by decide) dX10_humAll_13 (fun c13 => ?_) (fun c13 => ?_)
    · replace h := fm_itp c13 h
      refine fm_fgt [some (.ref 76), some (.int l1), some (.int l2), some (.int l3), some (.int l4)] (by simp [fm_sub]) ?_
      cases h
      exact k1 _ _ rfl
    · replace h := fm_itn c13 h
      refine fl_iload3 (pc := 16) dX10_humAll_16 ?_
      refine fl_aload0 (pc := 17) dX10_humAll_17 ?_
      refine fl_iload1 (pc := 18) dX10_humAll_18 ?_
      refine fl_iload4 (pc := 19) dX10_humAll_19 ?_
      refine fl_iload2 (pc := 21) dX10_humAll_21 ?_
      obtain ⟨v2, M3, ev2, h⟩ := fm_bdp h
      refine fm_callV (pc := 22) mX10_humOf [_, _, _] _ rfl cvX10_humOf ml_10_382 sh_76 rfl rfl (Nat.le_of_ble_eq_true rfl) (Nat.le_of_ble_eq_true rfl) dX10_humAll_22 ?_
      refine sp_X10_humOf ev2 ?_
      refine fm_ret1 ?_
      refine fm_iadd (pc := 25) dX10_humAll_25 ?_
      obtain ⟨x4, ex4, h⟩ := fm_ltp h
      refine fm_cgi ex4 ?_
      refine fl_istore3 (pc := 26) rfl (by decide) dX10_humAll_26 ?_
      refine fl_iinc4 (pc := 27) rfl 1 (by decide) (by decide) dX10_humAll_27 ?_
      refine fm_goto (pc := 30) 5 (by decide) dX10_humAll_30 ?_
      refine fm_fgt [some (.ref 76), some (.int l1), some (.int l2), some (.int x4), some (.int (l4 + 1))] (by simp [fm_sub]) ?_
      exact ih _ _ _ h
theorem sp_X10_humAll {d : Nat} {a1 : Int32} {a2 : Int32} {M : fm_M} {x : Int32 × fm_M} {Q : Option Value → fm_M → Prop} (h : F_X10_humAll a1 a2 M = some x) (hq : Q (some (.int x.1)) x.2) : fm_ct (d + 7) mX10_humAll [.ref 76, .int a1, .int a2] M Q := by
  rw [F_X10_humAll] at h
  show fm_mw (d + 7) mX10_humAll Q 0 [some (.ref 76), some (.int a1), some (.int a2), none, none] [] M
  refine fm_iconstv (pc := 0) 0 (by decide) dX10_humAll_0 ?_
  refine fl_istore3 (pc := 1) rfl (by decide) dX10_humAll_1 ?_
  refine fm_iconstv (pc := 2) 0 (by decide) dX10_humAll_2 ?_
  refine fl_istore4 (pc := 3) rfl (by decide) dX10_humAll_3 ?_
  obtain ⟨w5, M6, ew5, h⟩ := fm_bdp h
  refine lp_X10_humAll_5  ?_ _ _ _ _ ew5
  intro w59 M69 q9
  cases q9
  refine fl_iload3 (pc := 33) dX10_humAll_33 ?_
  refine fm_iret (pc := 34) rfl ?_ dX10_humAll_34
  cases h
  exact hq
/-! X10_passes -/
def J_X10_passes_45 (l1 : Int32) (l2 : Int32) (l3 : Int32) (M : fm_M) : Option (Int32 × fm_M) :=
    fm_gd (fm_inb 2 20) (
    if l3 < (M.1 78 (Int32.toNatClampNeg 2)) then (
      some (0, M)
    ) else (
      some (1, M)
    ))
def F_X10_passes (a1 : Int32) (a2 : Int32) (a3 : Int32) (M : fm_M) : Option (Int32 × fm_M) :=
    fm_bd (F_X10_calls a1 0 a2 0 a3 0 M) (fun v1 M2 =>
    fm_bd (F_X10_hasLaw 2 M2) (fun v3 M4 =>
    if v3 = 0 then (
      J_X10_passes_45 a1 a2 a3 M4
    ) else (
      fm_bd (F_X10_goes 2 M4) (fun v6 M7 =>
      if v6 = 0 then (
        J_X10_passes_45 a1 a2 a3 M7
      ) else (
        fm_gd (fm_inb 0 64) (
        if (lg_cmp (M7.2 93 (Int32.toNatClampNeg 0)) 0) = 0 then (
          some (0, M7)
        ) else (
          some (1, M7)
        ))
      ))
    )))
theorem jn_X10_passes_45 {d : Nat} {Q : Option Value → fm_M → Prop}  (l1 : Int32) (l2 : Int32) (l3 : Int32) {x : Int32 × fm_M}  (hq : Q (some (.int x.1)) x.2) (M : fm_M) (h : J_X10_passes_45 l1 l2 l3 M = some x) : fm_mw (d + 3) mX10_passes Q 45 [some (.ref 76), some (.int l1), some (.int l2), some (.int l3)] [] M := by
  rw [J_X10_passes_45] at h
  refine fl_iload3 (pc := 45) dX10_passes_45 ?_
  refine fl_aload0 (pc := 46) dX10_passes_46 ?_
  refine fm_getr (pc := 47) lk_10_13 sh_76 rfl dX10_passes_47 ?_
  refine fm_iconstv (pc := 50) 2 (by decide) dX10_passes_50 ?_
  obtain ⟨g5, h⟩ := fm_gdp h
  refine fm_iald (pc := 51) sh_78 (fm_inb_ok g5) dX10_passes_51 ?_
  refine fm_icmp_lt (pc := 52) 59 (by decide) dX10_passes_52 (fun c52 => ?_) (fun c52 => ?_)
  · replace h := fm_itp c52 h
    refine fm_iconstv (pc := 59) 0 (by decide) dX10_passes_59 ?_
    refine fm_zret (pc := 60) rfl (by decide) ?_ dX10_passes_60
    cases h
    exact hq
  · replace h := fm_itn c52 h
    refine fm_iconstv (pc := 55) 1 (by decide) dX10_passes_55 ?_
    refine fm_goto (pc := 56) 60 (by decide) dX10_passes_56 ?_
    refine fm_zret (pc := 60) rfl (by decide) ?_ dX10_passes_60
    cases h
    exact hq
theorem sp_X10_passes {d : Nat} {a1 : Int32} {a2 : Int32} {a3 : Int32} {M : fm_M} {x : Int32 × fm_M} {Q : Option Value → fm_M → Prop} (h : F_X10_passes a1 a2 a3 M = some x) (hq : Q (some (.int x.1)) x.2) : fm_ct (d + 3) mX10_passes [.ref 76, .int a1, .int a2, .int a3] M Q := by
  rw [F_X10_passes] at h
  show fm_mw (d + 3) mX10_passes Q 0 [some (.ref 76), some (.int a1), some (.int a2), some (.int a3)] [] M
  refine fl_aload0 (pc := 0) dX10_passes_0 ?_
  refine fl_iload1 (pc := 1) dX10_passes_1 ?_
  refine fm_iconstv (pc := 2) 0 (by decide) dX10_passes_2 ?_
  refine fl_iload2 (pc := 3) dX10_passes_3 ?_
  refine fm_iconstv (pc := 4) 0 (by decide) dX10_passes_4 ?_
  refine fl_iload3 (pc := 5) dX10_passes_5 ?_
  refine fm_iconstv (pc := 6) 0 (by decide) dX10_passes_6 ?_
  obtain ⟨v1, M2, ev1, h⟩ := fm_bdp h
  refine fm_callV (pc := 7) mX10_calls [_, _, _, _, _, _] _ rfl cvX10_calls ml_10_346 sh_76 rfl rfl (Nat.le_of_ble_eq_true rfl) (Nat.le_of_ble_eq_true rfl) dX10_passes_7 ?_
  refine sp_X10_calls ev1 ?_
  refine fm_ret0 ?_
  refine fl_aload0 (pc := 10) dX10_passes_10 ?_
  refine fm_iconstv (pc := 11) 2 (by decide) dX10_passes_11 ?_
  obtain ⟨v3, M4, ev3, h⟩ := fm_bdp h
  refine fm_callV (pc := 12) mX10_hasLaw [_] _ rfl cvX10_hasLaw ml_10_350 sh_76 rfl rfl (Nat.le_of_ble_eq_true rfl) (Nat.le_of_ble_eq_true rfl) dX10_passes_12 ?_
  refine sp_X10_hasLaw ev3 ?_
  refine fm_ret1 ?_
  refine fm_if_eq (pc := 15) 45 (by decide) dX10_passes_15 (fun c15 => ?_) (fun c15 => ?_)
  · replace h := fm_itp c15 h
    exact jn_X10_passes_45 _ _ _  hq _ h
  · replace h := fm_itn c15 h
    refine fl_aload0 (pc := 18) dX10_passes_18 ?_
    refine fm_iconstv (pc := 19) 2 (by decide) dX10_passes_19 ?_
    obtain ⟨v6, M7, ev6, h⟩ := fm_bdp h
    refine fm_callV (pc := 20) mX10_goes [_] _ rfl cvX10_goes ml_10_353 sh_76 rfl rfl (Nat.le_of_ble_eq_true rfl) (Nat.le_of_ble_eq_true rfl) dX10_passes_20 ?_
    refine sp_X10_goes ev6 ?_
    refine fm_ret1 ?_
    refine fm_if_eq (pc := 23) 45 (by decide) dX10_passes_23 (fun c23 => ?_) (fun c23 => ?_)
    · replace h := fm_itp c23 h
      exact jn_X10_passes_45 _ _ _  hq _ h
    · replace h := fm_itn c23 h
      refine fl_aload0 (pc := 26) dX10_passes_26 ?_
      refine fm_getr (pc := 27) lk_10_63 sh_76 rfl dX10_passes_27 ?_
      refine fm_iconstv (pc := 30) 0 (by decide) dX10_passes_30 ?_
      obtain ⟨g8, h⟩ := fm_gdp h
      refine fm_lald (pc := 31) sh_93 (fm_inb_ok g8) dX10_passes_31 ?_
      refine fm_lconstv (pc := 32) 0 (by decide) dX10_passes_32 ?_
      refine fm_lcmp (pc := 33) dX10_passes_33 ?_
      refine fm_if_eq (pc := 34) 41 (by decide) dX10_passes_34 (fun c34 => ?_) (fun c34 => ?_)
      · replace h := fm_itp c34 h
        refine fm_iconstv (pc := 41) 0 (by decide) dX10_passes_41 ?_
        refine fm_goto (pc := 42) 60 (by decide) dX10_passes_42 ?_
        refine fm_zret (pc := 60) rfl (by decide) ?_ dX10_passes_60
        cases h
        exact hq
      · replace h := fm_itn c34 h
        refine fm_iconstv (pc := 37) 1 (by decide) dX10_passes_37 ?_
        refine fm_goto (pc := 38) 60 (by decide) dX10_passes_38 ?_
        refine fm_zret (pc := 60) rfl (by decide) ?_ dX10_passes_60
        cases h
        exact hq
/-! X10_strikes -/
def F_X10_strikes (a1 : Int32) (a2 : Int32) (M : fm_M) : Option (Unit × fm_M) :=
    fm_lt (((10 * a1) + a2)) (fun x1 =>
    fm_gd (fm_inb a2 20) (
    fm_bd (F_X10_humAll a1 (M.1 85 (Int32.toNatClampNeg a2)) M) (fun v3 M4 =>
    fm_gd (fm_inb x1 230) (
    fm_lt (fm_up M4 101 (Int32.toNatClampNeg x1) v3) (fun M6 =>
    fm_gd (fm_inb a2 20) (
    fm_gd (fm_inb x1 230) (
    fm_bd (F_X10_passes a1 (M6.1 85 (Int32.toNatClampNeg a2)) (M6.1 101 (Int32.toNatClampNeg x1)) M6) (fun v9 M10 =>
    if v9 = 0 then (
      fm_gd (fm_inb x1 230) (
      fm_lt (fm_up M10 100 (Int32.toNatClampNeg x1) 0) (fun M12 =>
      some ((), M12)))
    ) else (
      fm_gd (fm_inb x1 230) (
      fm_lt (fm_up M10 100 (Int32.toNatClampNeg x1) 1) (fun M14 =>
      some ((), M14)))
    )))))))))
theorem sp_X10_strikes {d : Nat} {a1 : Int32} {a2 : Int32} {M : fm_M} {x : Unit × fm_M} {Q : Option Value → fm_M → Prop} (h : F_X10_strikes a1 a2 M = some x) (hq : Q none x.2) : fm_ct (d + 8) mX10_strikes [.ref 76, .int a1, .int a2] M Q := by
  rw [F_X10_strikes] at h
  show fm_mw (d + 8) mX10_strikes Q 0 [some (.ref 76), some (.int a1), some (.int a2), none] [] M
  refine fm_bipushv (pc := 0) 10 (by decide) dX10_strikes_0 ?_
  refine fl_iload1 (pc := 2) dX10_strikes_2 ?_
  refine fm_imul (pc := 3) dX10_strikes_3 ?_
  refine fl_iload2 (pc := 4) dX10_strikes_4 ?_
  refine fm_iadd (pc := 5) dX10_strikes_5 ?_
  obtain ⟨x1, ex1, h⟩ := fm_ltp h
  refine fm_cgi ex1 ?_
  refine fl_istore3 (pc := 6) rfl (by decide) dX10_strikes_6 ?_
  refine fl_aload0 (pc := 7) dX10_strikes_7 ?_
  refine fm_getr (pc := 8) lk_10_87 sh_76 rfl dX10_strikes_8 ?_
  refine fl_iload3 (pc := 11) dX10_strikes_11 ?_
  refine fl_aload0 (pc := 12) dX10_strikes_12 ?_
  refine fl_iload1 (pc := 13) dX10_strikes_13 ?_
  refine fl_aload0 (pc := 14) dX10_strikes_14 ?_
  refine fm_getr (pc := 15) lk_10_34 sh_76 rfl dX10_strikes_15 ?_
  refine fl_iload2 (pc := 18) dX10_strikes_18 ?_
  obtain ⟨g2, h⟩ := fm_gdp h
  refine fm_iald (pc := 19) sh_85 (fm_inb_ok g2) dX10_strikes_19 ?_
  obtain ⟨v3, M4, ev3, h⟩ := fm_bdp h
  refine fm_callV (pc := 20) mX10_humAll [_, _] _ rfl cvX10_humAll ml_10_385 sh_76 rfl rfl (Nat.le_of_ble_eq_true rfl) (Nat.le_of_ble_eq_true rfl) dX10_strikes_20 ?_
  refine sp_X10_humAll ev3 ?_
  refine fm_ret1 ?_
  obtain ⟨g5, h⟩ := fm_gdp h
  refine fm_iast (pc := 23) sh_101 (fm_inb_ok g5) dX10_strikes_23 ?_
  obtain ⟨M6, eM6, h⟩ := fm_ltp h
  refine fm_cgm eM6 ?_
  refine fl_aload0 (pc := 24) dX10_strikes_24 ?_
  refine fm_getr (pc := 25) lk_10_84 sh_76 rfl dX10_strikes_25 ?_
  refine fl_iload3 (pc := 28) dX10_strikes_28 ?_
  refine fl_aload0 (pc := 29) dX10_strikes_29 ?_
  refine fl_iload1 (pc := 30) dX10_strikes_30 ?_
  refine fl_aload0 (pc := 31) dX10_strikes_31 ?_
  refine fm_getr (pc := 32) lk_10_34 sh_76 rfl dX10_strikes_32 ?_
  refine fl_iload2 (pc := 35) dX10_strikes_35 ?_
  obtain ⟨g7, h⟩ := fm_gdp h
  refine fm_iald (pc := 36) sh_85 (fm_inb_ok g7) dX10_strikes_36 ?_
  refine fl_aload0 (pc := 37) dX10_strikes_37 ?_
  refine fm_getr (pc := 38) lk_10_87 sh_76 rfl dX10_strikes_38 ?_
  refine fl_iload3 (pc := 41) dX10_strikes_41 ?_
  obtain ⟨g8, h⟩ := fm_gdp h
  refine fm_iald (pc := 42) sh_101 (fm_inb_ok g8) dX10_strikes_42 ?_
  obtain ⟨v9, M10, ev9, h⟩ := fm_bdp h
  refine fm_callV (pc := 43) mX10_passes [_, _, _] _ rfl cvX10_passes ml_10_388 sh_76 rfl rfl (Nat.le_of_ble_eq_true rfl) (Nat.le_of_ble_eq_true rfl) dX10_strikes_43 ?_
  refine sp_X10_passes ev9 ?_
  refine fm_ret1 ?_
  refine fm_if_eq (pc := 46) 53 (by decide) dX10_strikes_46 (fun c46 => ?_) (fun c46 => ?_)
  · replace h := fm_itp c46 h
    refine fm_iconstv (pc := 53) 0 (by decide) dX10_strikes_53 ?_
    obtain ⟨g11, h⟩ := fm_gdp h
    refine fm_iast (pc := 54) sh_100 (fm_inb_ok g11) dX10_strikes_54 ?_
    obtain ⟨M12, eM12, h⟩ := fm_ltp h
    refine fm_cgm eM12 ?_
    refine fm_vret (pc := 55) rfl ?_ dX10_strikes_55
    cases h
    exact hq
  · replace h := fm_itn c46 h
    refine fm_iconstv (pc := 49) 1 (by decide) dX10_strikes_49 ?_
    refine fm_goto (pc := 50) 54 (by decide) dX10_strikes_50 ?_
    obtain ⟨g13, h⟩ := fm_gdp h
    refine fm_iast (pc := 54) sh_100 (fm_inb_ok g13) dX10_strikes_54 ?_
    obtain ⟨M14, eM14, h⟩ := fm_ltp h
    refine fm_cgm eM14 ?_
    refine fm_vret (pc := 55) rfl ?_ dX10_strikes_55
    cases h
    exact hq
/-! X10_dayGoes -/
def G_X10_dayGoes_2 : Nat → Int32 → Int32 → fm_M → Option ((Int32) × fm_M)
  | 0, _, _, _ => none
  | n + 1, l1, l2, M =>
    fm_gd (fm_inb 1 20) (
    if (M.1 78 (Int32.toNatClampNeg 1)) ≤ l2 then (
      some (l2, M)
    ) else (
      fm_lt (((10 * l1) + l2)) (fun x2 =>
      fm_gd (fm_inb x2 230) (
      if (M.1 100 (Int32.toNatClampNeg x2)) = (-1) then (
        fm_gd (fm_inb x2 230) (
        fm_gd (fm_inb l1 23) (
        if (M.1 99 (Int32.toNatClampNeg x2)) = (M.1 94 (Int32.toNatClampNeg l1)) then (
          fm_bd (F_X10_strikes l1 l2 M) (fun v6 M7 =>
          G_X10_dayGoes_2 n l1 (l2 + 1) M7)
        ) else (
          G_X10_dayGoes_2 n l1 (l2 + 1) M
        )))
      ) else (
        G_X10_dayGoes_2 n l1 (l2 + 1) M
      )))
    ))
def G_X10_dayGoes_58 : Nat → Int32 → Int32 → fm_M → Option ((Int32) × fm_M)
  | 0, _, _, _ => none
  | n + 1, l1, l2, M =>
    fm_gd (fm_inb 0 20) (
    if (M.1 78 (Int32.toNatClampNeg 0)) ≤ l2 then (
      some (l2, M)
    ) else (
      if (M.1 76 43) = 3 then (
        some (l2, M)
      ) else (
        fm_bd (F_X10_callsRust l1 l2 M) (fun v11 M12 =>
        fm_lt (((8 * l1) + l2)) (fun x13 =>
        fm_gd (fm_inb x13 184) (
        fm_gd (fm_inb 6 20) (
        fm_bd (F_X10_within 1 9 (M12.1 78 (Int32.toNatClampNeg 6)) M12) (fun v16 M17 =>
        fm_gd (fm_inb x13 184) (
        fm_lt (fm_up M17 98 (Int32.toNatClampNeg x13) (i_max 100 ((M12.1 98 (Int32.toNatClampNeg x13)) - v16))) (fun M19 =>
        G_X10_dayGoes_58 n l1 (l2 + 1) M19)))))))
      )
    ))
def F_X10_dayGoes (a1 : Int32) (M : fm_M) : Option (Unit × fm_M) :=
    fm_bd (G_X10_dayGoes_2 fm_fuel a1 0 M) (fun w8 M9 =>
      fm_bd (G_X10_dayGoes_58 fm_fuel a1 0 M9) (fun w20 M21 =>
        fm_gd (fm_inb a1 23) (
        fm_lt (fm_up M21 97 (Int32.toNatClampNeg a1) 0) (fun M23 =>
        fm_gd (fm_inb a1 23) (
        fm_gd (fm_inb a1 23) (
        fm_lt (fm_up M23 94 (Int32.toNatClampNeg a1) ((M23.1 94 (Int32.toNatClampNeg a1)) + 1)) (fun M26 =>
        some ((), M26))))))))
theorem lp_X10_dayGoes_2 {d : Nat} {Q : Option Value → fm_M → Prop} {l1 : Int32}   {x : (Int32) × fm_M} (k1 : ∀ (v : Int32) (M2 : fm_M), x = (v, M2) → fm_mw (d + 9) mX10_dayGoes Q 56 [some (.ref 76), some (.int l1), some (.int v), none] [] M2) : ∀ (n : Nat) (l2 : Int32) (M : fm_M), G_X10_dayGoes_2 n l1 l2 M = some x → fm_mw (d + 9) mX10_dayGoes Q 2 [some (.ref 76), some (.int l1), some (.int l2), none] [] M := by
  intro n
  induction n with
  | zero => intro l2 M h; simp [G_X10_dayGoes_2] at h
  | succ n ih =>
    intro l2 M h
    rw [G_X10_dayGoes_2] at h
    refine fl_iload2 (pc := 2) dX10_dayGoes_2 ?_
    refine fl_aload0 (pc := 3) dX10_dayGoes_3 ?_
    refine fm_getr (pc := 4) lk_10_13 sh_76 rfl dX10_dayGoes_4 ?_
    refine fm_iconstv (pc := 7) 1 (by decide) dX10_dayGoes_7 ?_
    obtain ⟨g1, h⟩ := fm_gdp h
    refine fm_iald (pc := 8) sh_78 (fm_inb_ok g1) dX10_dayGoes_8 ?_
    refine fm_icmp_ge (pc := 9) 56 (by decide) dX10_dayGoes_9 (fun c9 => ?_) (fun c9 => ?_)
    · replace h := fm_itp c9 h
      refine fm_fgt [some (.ref 76), some (.int l1), some (.int l2), none] (by simp [fm_sub]) ?_
      cases h
      exact k1 _ _ rfl
    · replace h := fm_itn c9 h
      refine fm_bipushv (pc := 12) 10 (by decide) dX10_dayGoes_12 ?_
      refine fl_iload1 (pc := 14) dX10_dayGoes_14 ?_
      refine fm_imul (pc := 15) dX10_dayGoes_15 ?_
      refine fl_iload2 (pc := 16) dX10_dayGoes_16 ?_
      refine fm_iadd (pc := 17) dX10_dayGoes_17 ?_
      obtain ⟨x2, ex2, h⟩ := fm_ltp h
      refine fm_cgi ex2 ?_
      refine fl_istore3 (pc := 18) rfl (by decide) dX10_dayGoes_18 ?_
      refine fl_aload0 (pc := 19) dX10_dayGoes_19 ?_
      refine fm_getr (pc := 20) lk_10_84 sh_76 rfl dX10_dayGoes_20 ?_
      refine fl_iload3 (pc := 23) dX10_dayGoes_23 ?_
      obtain ⟨g3, h⟩ := fm_gdp h
      refine fm_iald (pc := 24) sh_100 (fm_inb_ok g3) dX10_dayGoes_24 ?_
      refine fm_iconstv (pc := 25) (-1) (by decide) dX10_dayGoes_25 ?_
      refine fm_icmp_ne (pc := 26) 50 (by decide) dX10_dayGoes_26 (fun c26 => ?_) (fun c26 => ?_)
      · replace h := fm_itn c26 h
        refine fl_iinc2 (pc := 50) rfl 1 (by decide) (by decide) dX10_dayGoes_50 ?_
        refine fm_goto (pc := 53) 2 (by decide) dX10_dayGoes_53 ?_
        refine fm_fgt [some (.ref 76), some (.int l1), some (.int (l2 + 1)), none] (by simp [fm_sub]) ?_
        exact ih _ _ h
      · replace h := fm_itp c26 h
        refine fl_aload0 (pc := 29) dX10_dayGoes_29 ?_
        refine fm_getr (pc := 30) lk_10_81 sh_76 rfl dX10_dayGoes_30 ?_
        refine fl_iload3 (pc := 33) dX10_dayGoes_33 ?_
        obtain ⟨g4, h⟩ := fm_gdp h
        refine fm_iald (pc := 34) sh_99 (fm_inb_ok g4) dX10_dayGoes_34 ?_
        refine fl_aload0 (pc := 35) dX10_dayGoes_35 ?_
        refine fm_getr (pc := 36) lk_10_66 sh_76 rfl dX10_dayGoes_36 ?_
        refine fl_iload1 (pc := 39) dX10_dayGoes_39 ?_
        obtain ⟨g5, h⟩ := fm_gdp h
        refine fm_iald (pc := 40) sh_94 (fm_inb_ok g5) dX10_dayGoes_40 ?_
        refine fm_icmp_ne (pc := 41) 50 (by decide) dX10_dayGoes_41 (fun c41 => ?_) (fun c41 => ?_)
        · replace h := fm_itn c41 h
          refine fl_iinc2 (pc := 50) rfl 1 (by decide) (by decide) dX10_dayGoes_50 ?_
          refine fm_goto (pc := 53) 2 (by decide) dX10_dayGoes_53 ?_
          refine fm_fgt [some (.ref 76), some (.int l1), some (.int (l2 + 1)), none] (by simp [fm_sub]) ?_
          exact ih _ _ h
        · replace h := fm_itp c41 h
          refine fl_aload0 (pc := 44) dX10_dayGoes_44 ?_
          refine fl_iload1 (pc := 45) dX10_dayGoes_45 ?_
          refine fl_iload2 (pc := 46) dX10_dayGoes_46 ?_
          obtain ⟨v6, M7, ev6, h⟩ := fm_bdp h
          refine fm_callV (pc := 47) mX10_strikes [_, _] _ rfl cvX10_strikes ml_10_392 sh_76 rfl rfl (Nat.le_of_ble_eq_true rfl) (Nat.le_of_ble_eq_true rfl) dX10_dayGoes_47 ?_
          refine sp_X10_strikes ev6 ?_
          refine fm_ret0 ?_
          refine fl_iinc2 (pc := 50) rfl 1 (by decide) (by decide) dX10_dayGoes_50 ?_
          refine fm_goto (pc := 53) 2 (by decide) dX10_dayGoes_53 ?_
          refine fm_fgt [some (.ref 76), some (.int l1), some (.int (l2 + 1)), none] (by simp [fm_sub]) ?_
          exact ih _ _ h
theorem lp_X10_dayGoes_58 {d : Nat} {Q : Option Value → fm_M → Prop} {l1 : Int32}   {x : (Int32) × fm_M} (k1 : ∀ (v : Int32) (M2 : fm_M), x = (v, M2) → fm_mw (d + 9) mX10_dayGoes Q 127 [some (.ref 76), some (.int l1), some (.int v), none] [] M2) : ∀ (n : Nat) (l2 : Int32) (M : fm_M), G_X10_dayGoes_58 n l1 l2 M = some x → fm_mw (d + 9) mX10_dayGoes Q 58 [some (.ref 76), some (.int l1), some (.int l2), none] [] M := by
  intro n
  induction n with
  | zero => intro l2 M h; simp [G_X10_dayGoes_58] at h
  | succ n ih =>
    intro l2 M h
    rw [G_X10_dayGoes_58] at h
    refine fl_iload2 (pc := 58) dX10_dayGoes_58 ?_
    refine fl_aload0 (pc := 59) dX10_dayGoes_59 ?_
    refine fm_getr (pc := 60) lk_10_13 sh_76 rfl dX10_dayGoes_60 ?_
    refine fm_iconstv (pc := 63) 0 (by decide) dX10_dayGoes_63 ?_
    obtain ⟨g10, h⟩ := fm_gdp h
    refine fm_iald (pc := 64) sh_78 (fm_inb_ok g10) dX10_dayGoes_64 ?_
    refine fm_icmp_ge (pc := 65) 127 (by decide) dX10_dayGoes_65 (fun c65 => ?_) (fun c65 => ?_)
    · replace h := fm_itp c65 h
      refine fm_fgt [some (.ref 76), some (.int l1), some (.int l2), none] (by simp [fm_sub]) ?_
      cases h
      exact k1 _ _ rfl
    · replace h := fm_itn c65 h
      refine fl_aload0 (pc := 68) dX10_dayGoes_68 ?_
      refine fm_geti (pc := 69) lk_10_316 sh_76 rfl dX10_dayGoes_69 ?_
      refine fm_iconstv (pc := 72) 3 (by decide) dX10_dayGoes_72 ?_
      refine fm_icmp_eq (pc := 73) 127 (by decide) dX10_dayGoes_73 (fun c73 => ?_) (fun c73 => ?_)
      · replace h := fm_itp c73 h
        refine fm_fgt [some (.ref 76), some (.int l1), some (.int l2), none] (by simp [fm_sub]) ?_
        cases h
        exact k1 _ _ rfl
      · replace h := fm_itn c73 h
        refine fl_aload0 (pc := 76) dX10_dayGoes_76 ?_
        refine fl_iload1 (pc := 77) dX10_dayGoes_77 ?_
        refine fl_iload2 (pc := 78) dX10_dayGoes_78 ?_
        obtain ⟨v11, M12, ev11, h⟩ := fm_bdp h
        refine fm_callV (pc := 79) mX10_callsRust [_, _] _ rfl cvX10_callsRust ml_10_395 sh_76 rfl rfl (Nat.le_of_ble_eq_true rfl) (Nat.le_of_ble_eq_true rfl) dX10_dayGoes_79 ?_
        refine sp_X10_callsRust ev11 ?_
        refine fm_ret0 ?_
        refine fm_bipushv (pc := 82) 8 (by decide) dX10_dayGoes_82 ?_
        refine fl_iload1 (pc := 84) dX10_dayGoes_84 ?_
        refine fm_imul (pc := 85) dX10_dayGoes_85 ?_
        refine fl_iload2 (pc := 86) dX10_dayGoes_86 ?_
        refine fm_iadd (pc := 87) dX10_dayGoes_87 ?_
        obtain ⟨x13, ex13, h⟩ := fm_ltp h
        refine fm_cgi ex13 ?_
        refine fl_istore3 (pc := 88) rfl (by decide) dX10_dayGoes_88 ?_
        refine fl_aload0 (pc := 89) dX10_dayGoes_89 ?_
        refine fm_getr (pc := 90) lk_10_78 sh_76 rfl dX10_dayGoes_90 ?_
        refine fl_iload3 (pc := 93) dX10_dayGoes_93 ?_
        refine fm_bipushv (pc := 94) 100 (by decide) dX10_dayGoes_94 ?_
        refine fl_aload0 (pc := 96) dX10_dayGoes_96 ?_
        refine fm_getr (pc := 97) lk_10_78 sh_76 rfl dX10_dayGoes_97 ?_
        refine fl_iload3 (pc := 100) dX10_dayGoes_100 ?_
        obtain ⟨g14, h⟩ := fm_gdp h
        refine fm_iald (pc := 101) sh_98 (fm_inb_ok g14) dX10_dayGoes_101 ?_
        refine fl_aload0 (pc := 102) dX10_dayGoes_102 ?_
        refine fm_iconstv (pc := 103) 1 (by decide) dX10_dayGoes_103 ?_
        refine fm_bipushv (pc := 104) 9 (by decide) dX10_dayGoes_104 ?_
        refine fl_aload0 (pc := 106) dX10_dayGoes_106 ?_
        refine fm_getr (pc := 107) lk_10_13 sh_76 rfl dX10_dayGoes_107 ?_
        refine fm_bipushv (pc := 110) 6 (by decide) dX10_dayGoes_110 ?_
        obtain ⟨g15, h⟩ := fm_gdp h
        refine fm_iald (pc := 112) sh_78 (fm_inb_ok g15) dX10_dayGoes_112 ?_
        obtain ⟨v16, M17, ev16, h⟩ := fm_bdp h
        refine fm_callV (pc := 113) mX10_within [_, _, _] _ rfl cvX10_within ml_10_368 sh_76 rfl rfl (Nat.le_of_ble_eq_true rfl) (Nat.le_of_ble_eq_true rfl) dX10_dayGoes_113 ?_
        refine sp_X10_within ev16 ?_
        refine fm_ret1 ?_
        refine fm_isub (pc := 116) dX10_dayGoes_116 ?_
        refine fq_mmax (pc := 117) ml_10_328 (Nat.le_of_ble_eq_true rfl) dX10_dayGoes_117 ?_
        obtain ⟨g18, h⟩ := fm_gdp h
        refine fm_iast (pc := 120) sh_98 (fm_inb_ok g18) dX10_dayGoes_120 ?_
        obtain ⟨M19, eM19, h⟩ := fm_ltp h
        refine fm_cgm eM19 ?_
        refine fl_iinc2 (pc := 121) rfl 1 (by decide) (by decide) dX10_dayGoes_121 ?_
        refine fm_goto (pc := 124) 58 (by decide) dX10_dayGoes_124 ?_
        refine fm_fgt [some (.ref 76), some (.int l1), some (.int (l2 + 1)), none] (by simp [fm_sub]) ?_
        exact ih _ _ h
theorem sp_X10_dayGoes {d : Nat} {a1 : Int32} {M : fm_M} {x : Unit × fm_M} {Q : Option Value → fm_M → Prop} (h : F_X10_dayGoes a1 M = some x) (hq : Q none x.2) : fm_ct (d + 9) mX10_dayGoes [.ref 76, .int a1] M Q := by
  rw [F_X10_dayGoes] at h
  show fm_mw (d + 9) mX10_dayGoes Q 0 [some (.ref 76), some (.int a1), none, none] [] M
  refine fm_iconstv (pc := 0) 0 (by decide) dX10_dayGoes_0 ?_
  refine fl_istore2 (pc := 1) rfl (by decide) dX10_dayGoes_1 ?_
  obtain ⟨w8, M9, ew8, h⟩ := fm_bdp h
  refine lp_X10_dayGoes_2  ?_ _ _ _ ew8
  intro w89 M99 q9
  cases q9
  refine fm_iconstv (pc := 56) 0 (by decide) dX10_dayGoes_56 ?_
  refine fl_istore2 (pc := 57) rfl (by decide) dX10_dayGoes_57 ?_
  obtain ⟨w20, M21, ew20, h⟩ := fm_bdp h
  refine lp_X10_dayGoes_58  ?_ _ _ _ ew20
  intro w209 M219 q9
  cases q9
  refine fl_aload0 (pc := 127) dX10_dayGoes_127 ?_
  refine fm_getr (pc := 128) lk_10_75 sh_76 rfl dX10_dayGoes_128 ?_
  refine fl_iload1 (pc := 131) dX10_dayGoes_131 ?_
  refine fm_iconstv (pc := 132) 0 (by decide) dX10_dayGoes_132 ?_
  obtain ⟨g22, h⟩ := fm_gdp h
  refine fm_iast (pc := 133) sh_97 (fm_inb_ok g22) dX10_dayGoes_133 ?_
  obtain ⟨M23, eM23, h⟩ := fm_ltp h
  refine fm_cgm eM23 ?_
  refine fl_aload0 (pc := 134) dX10_dayGoes_134 ?_
  refine fm_getr (pc := 135) lk_10_66 sh_76 rfl dX10_dayGoes_135 ?_
  refine fl_iload1 (pc := 138) dX10_dayGoes_138 ?_
  refine fm_dup2 (pc := 139) rfl rfl dX10_dayGoes_139 ?_
  obtain ⟨g24, h⟩ := fm_gdp h
  refine fm_iald (pc := 140) sh_94 (fm_inb_ok g24) dX10_dayGoes_140 ?_
  refine fm_iconstv (pc := 141) 1 (by decide) dX10_dayGoes_141 ?_
  refine fm_iadd (pc := 142) dX10_dayGoes_142 ?_
  obtain ⟨g25, h⟩ := fm_gdp h
  refine fm_iast (pc := 143) sh_94 (fm_inb_ok g25) dX10_dayGoes_143 ?_
  obtain ⟨M26, eM26, h⟩ := fm_ltp h
  refine fm_cgm eM26 ?_
  refine fm_vret (pc := 144) rfl ?_ dX10_dayGoes_144
  cases h
  exact hq
/-! X10_goesOn -/
def G_X10_goesOn_2 : Nat → Int32 → Int32 → fm_M → Option ((Int32) × fm_M)
  | 0, _, _, _ => none
  | n + 1, l1, l2, M =>
    if l1 ≤ l2 then (
      some (l2, M)
    ) else (
      fm_bd (F_X10_dayGoes 1 M) (fun v1 M2 =>
      G_X10_goesOn_2 n l1 (l2 + 1) M2)
    )
def F_X10_goesOn (a1 : Int32) (M : fm_M) : Option (Unit × fm_M) :=
    fm_bd (G_X10_goesOn_2 fm_fuel a1 0 M) (fun w3 M4 =>
      some ((), M4))
theorem lp_X10_goesOn_2 {d : Nat} {Q : Option Value → fm_M → Prop} {l1 : Int32}   {x : (Int32) × fm_M} (k1 : ∀ (v : Int32) (M2 : fm_M), x = (v, M2) → fm_mw (d + 10) mX10_goesOn Q 18 [some (.ref 76), some (.int l1), some (.int v)] [] M2) : ∀ (n : Nat) (l2 : Int32) (M : fm_M), G_X10_goesOn_2 n l1 l2 M = some x → fm_mw (d + 10) mX10_goesOn Q 2 [some (.ref 76), some (.int l1), some (.int l2)] [] M := by
  intro n
  induction n with
  | zero => intro l2 M h; simp [G_X10_goesOn_2] at h
  | succ n ih =>
    intro l2 M h
    rw [G_X10_goesOn_2] at h
    refine fl_iload2 (pc := 2) dX10_goesOn_2 ?_
    refine fl_iload1 (pc := 3) dX10_goesOn_3 ?_
    refine fm_icmp_ge (pc := 4) 18 (by decide) dX10_goesOn_4 (fun c4 => ?_) (fun c4 => ?_)
    · replace h := fm_itp c4 h
      refine fm_fgt [some (.ref 76), some (.int l1), some (.int l2)] (by simp [fm_sub]) ?_
      cases h
      exact k1 _ _ rfl
    · replace h := fm_itn c4 h
      refine fl_aload0 (pc := 7) dX10_goesOn_7 ?_
      refine fm_iconstv (pc := 8) 1 (by decide) dX10_goesOn_8 ?_
      obtain ⟨v1, M2, ev1, h⟩ := fm_bdp h
      refine fm_callV (pc := 9) mX10_dayGoes [_] _ rfl cvX10_dayGoes ml_10_398 sh_76 rfl rfl (Nat.le_of_ble_eq_true rfl) (Nat.le_of_ble_eq_true rfl) dX10_goesOn_9 ?_
      refine sp_X10_dayGoes ev1 ?_
      refine fm_ret0 ?_
      refine fl_iinc2 (pc := 12) rfl 1 (by decide) (by decide) dX10_goesOn_12 ?_
      refine fm_goto (pc := 15) 2 (by decide) dX10_goesOn_15 ?_
      refine fm_fgt [some (.ref 76), some (.int l1), some (.int (l2 + 1))] (by simp [fm_sub]) ?_
      exact ih _ _ h
theorem sp_X10_goesOn {d : Nat} {a1 : Int32} {M : fm_M} {x : Unit × fm_M} {Q : Option Value → fm_M → Prop} (h : F_X10_goesOn a1 M = some x) (hq : Q none x.2) : fm_ct (d + 10) mX10_goesOn [.ref 76, .int a1] M Q := by
  rw [F_X10_goesOn] at h
  show fm_mw (d + 10) mX10_goesOn Q 0 [some (.ref 76), some (.int a1), none] [] M
  refine fm_iconstv (pc := 0) 0 (by decide) dX10_goesOn_0 ?_
  refine fl_istore2 (pc := 1) rfl (by decide) dX10_goesOn_1 ?_
  obtain ⟨w3, M4, ew3, h⟩ := fm_bdp h
  refine lp_X10_goesOn_2  ?_ _ _ _ ew3
  intro w39 M49 q9
  cases q9
  refine fm_vret (pc := 18) rfl ?_ dX10_goesOn_18
  cases h
  exact hq
/-! X10_manyOf -/
def G_X10_manyOf_5 : Nat → Int32 → Int32 → Int32 → Int32 → fm_M → Option ((Int32 × Int32) × fm_M)
  | 0, _, _, _, _, _ => none
  | n + 1, l1, l2, l3, l4, M =>
    fm_gd (fm_inb 1 20) (
    if (M.1 78 (Int32.toNatClampNeg 1)) ≤ l4 then (
      some ((l3, l4), M)
    ) else (
      fm_gd (fm_inb ((10 * l1) + l4) 230) (
      if (M.1 100 (Int32.toNatClampNeg ((10 * l1) + l4))) = l2 then (
        fm_lt ((l3 + 1)) (fun x4 =>
        G_X10_manyOf_5 n l1 l2 x4 (l4 + 1) M)
      ) else (
        fm_lt ((l3 + 0)) (fun x3 =>
        G_X10_manyOf_5 n l1 l2 x3 (l4 + 1) M)
      ))
    ))
def F_X10_manyOf (a1 : Int32) (a2 : Int32) (M : fm_M) : Option (Int32 × fm_M) :=
    fm_bd (G_X10_manyOf_5 fm_fuel a1 a2 0 0 M) (fun w5 M6 =>
      some (w5.1, M6))
theorem lp_X10_manyOf_5 {d : Nat} {Q : Option Value → fm_M → Prop} {l1 : Int32} {l2 : Int32}   {x : (Int32 × Int32) × fm_M} (k1 : ∀ (v : Int32 × Int32) (M2 : fm_M), x = (v, M2) → fm_mw d mX10_manyOf Q 46 [some (.ref 76), some (.int l1), some (.int l2), some (.int v.1), some (.int v.2)] [] M2) : ∀ (n : Nat) (l3 : Int32) (l4 : Int32) (M : fm_M), G_X10_manyOf_5 n l1 l2 l3 l4 M = some x → fm_mw d mX10_manyOf Q 5 [some (.ref 76), some (.int l1), some (.int l2), some (.int l3), some (.int l4)] [] M := by
  intro n
  induction n with
  | zero => intro l3 l4 M h; simp [G_X10_manyOf_5] at h
  | succ n ih =>
    intro l3 l4 M h
    rw [G_X10_manyOf_5] at h
    refine fl_iload4 (pc := 5) dX10_manyOf_5 ?_
    refine fl_aload0 (pc := 7) dX10_manyOf_7 ?_
    refine fm_getr (pc := 8) lk_10_13 sh_76 rfl dX10_manyOf_8 ?_
    refine fm_iconstv (pc := 11) 1 (by decide) dX10_manyOf_11 ?_
    obtain ⟨g1, h⟩ := fm_gdp h
    refine fm_iald (pc := 12) sh_78 (fm_inb_ok g1) dX10_manyOf_12 ?_
    refine fm_icmp_ge (pc := 13) 46 (by decide) dX10_manyOf_13 (fun c13 => ?_) (fun c13 => ?_)
    · replace h := fm_itp c13 h
      refine fm_fgt [some (.ref 76), some (.int l1), some (.int l2), some (.int l3), some (.int l4)] (by simp [fm_sub]) ?_
      cases h
      exact k1 _ _ rfl
    · replace h := fm_itn c13 h
      refine fl_iload3 (pc := 16) dX10_manyOf_16 ?_
      refine fl_aload0 (pc := 17) dX10_manyOf_17 ?_
      refine fm_getr (pc := 18) lk_10_84 sh_76 rfl dX10_manyOf_18 ?_
      refine fm_bipushv (pc := 21) 10 (by decide) dX10_manyOf_21 ?_
      refine fl_iload1 (pc := 23) dX10_manyOf_23 ?_
      refine fm_imul (pc := 24) dX10_manyOf_24 ?_
      refine fl_iload4 (pc := 25) dX10_manyOf_25 ?_
      refine fm_iadd (pc := 27) dX10_manyOf_27 ?_
      obtain ⟨g2, h⟩ := fm_gdp h
      refine fm_iald (pc := 28) sh_100 (fm_inb_ok g2) dX10_manyOf_28 ?_
      refine fl_iload2 (pc := 29) dX10_manyOf_29 ?_
      refine fm_icmp_ne (pc := 30) 37 (by decide) dX10_manyOf_30 (fun c30 => ?_) (fun c30 => ?_)
      · replace h := fm_itn c30 h
        refine fm_iconstv (pc := 37) 0 (by decide) dX10_manyOf_37 ?_
        refine fm_iadd (pc := 38) dX10_manyOf_38 ?_
        obtain ⟨x3, ex3, h⟩ := fm_ltp h
        refine fm_cgi ex3 ?_
        refine fl_istore3 (pc := 39) rfl (by decide) dX10_manyOf_39 ?_
        refine fl_iinc4 (pc := 40) rfl 1 (by decide) (by decide) dX10_manyOf_40 ?_
        refine fm_goto (pc := 43) 5 (by decide) dX10_manyOf_43 ?_
        refine fm_fgt [some (.ref 76), some (.int l1), some (.int l2), some (.int x3), some (.int (l4 + 1))] (by simp [fm_sub]) ?_
        exact ih _ _ _ h
      · replace h := fm_itp c30 h
        refine fm_iconstv (pc := 33) 1 (by decide) dX10_manyOf_33 ?_
        refine fm_goto (pc := 34) 38 (by decide) dX10_manyOf_34 ?_
        refine fm_iadd (pc := 38) dX10_manyOf_38 ?_
        obtain ⟨x4, ex4, h⟩ := fm_ltp h
        refine fm_cgi ex4 ?_
        refine fl_istore3 (pc := 39) rfl (by decide) dX10_manyOf_39 ?_
        refine fl_iinc4 (pc := 40) rfl 1 (by decide) (by decide) dX10_manyOf_40 ?_
        refine fm_goto (pc := 43) 5 (by decide) dX10_manyOf_43 ?_
        refine fm_fgt [some (.ref 76), some (.int l1), some (.int l2), some (.int x4), some (.int (l4 + 1))] (by simp [fm_sub]) ?_
        exact ih _ _ _ h
theorem sp_X10_manyOf {d : Nat} {a1 : Int32} {a2 : Int32} {M : fm_M} {x : Int32 × fm_M} {Q : Option Value → fm_M → Prop} (h : F_X10_manyOf a1 a2 M = some x) (hq : Q (some (.int x.1)) x.2) : fm_ct d mX10_manyOf [.ref 76, .int a1, .int a2] M Q := by
  rw [F_X10_manyOf] at h
  show fm_mw d mX10_manyOf Q 0 [some (.ref 76), some (.int a1), some (.int a2), none, none] [] M
  refine fm_iconstv (pc := 0) 0 (by decide) dX10_manyOf_0 ?_
  refine fl_istore3 (pc := 1) rfl (by decide) dX10_manyOf_1 ?_
  refine fm_iconstv (pc := 2) 0 (by decide) dX10_manyOf_2 ?_
  refine fl_istore4 (pc := 3) rfl (by decide) dX10_manyOf_3 ?_
  obtain ⟨w5, M6, ew5, h⟩ := fm_bdp h
  refine lp_X10_manyOf_5  ?_ _ _ _ _ ew5
  intro w59 M69 q9
  cases q9
  refine fl_iload3 (pc := 46) dX10_manyOf_46 ?_
  refine fm_iret (pc := 47) rfl ?_ dX10_manyOf_47
  cases h
  exact hq
/-! X10_heardAll -/
def G_X10_heardAll_4 : Nat → Int32 → Int32 → Int32 → fm_M → Option ((Int32 × Int32) × fm_M)
  | 0, _, _, _, _ => none
  | n + 1, l1, l2, l3, M =>
    fm_gd (fm_inb 1 20) (
    if (M.1 78 (Int32.toNatClampNeg 1)) ≤ l3 then (
      some ((l2, l3), M)
    ) else (
      fm_gd (fm_inb ((10 * l1) + l3) 230) (
      fm_lt ((l2 + (i_max 0 (M.1 101 (Int32.toNatClampNeg ((10 * l1) + l3)))))) (fun x3 =>
      G_X10_heardAll_4 n l1 x3 (l3 + 1) M))
    ))
def F_X10_heardAll (a1 : Int32) (M : fm_M) : Option (Int32 × fm_M) :=
    fm_bd (G_X10_heardAll_4 fm_fuel a1 0 0 M) (fun w4 M5 =>
      some (w4.1, M5))
theorem lp_X10_heardAll_4 {d : Nat} {Q : Option Value → fm_M → Prop} {l1 : Int32}   {x : (Int32 × Int32) × fm_M} (k1 : ∀ (v : Int32 × Int32) (M2 : fm_M), x = (v, M2) → fm_mw (d + 1) mX10_heardAll Q 38 [some (.ref 76), some (.int l1), some (.int v.1), some (.int v.2)] [] M2) : ∀ (n : Nat) (l2 : Int32) (l3 : Int32) (M : fm_M), G_X10_heardAll_4 n l1 l2 l3 M = some x → fm_mw (d + 1) mX10_heardAll Q 4 [some (.ref 76), some (.int l1), some (.int l2), some (.int l3)] [] M := by
  intro n
  induction n with
  | zero => intro l2 l3 M h; simp [G_X10_heardAll_4] at h
  | succ n ih =>
    intro l2 l3 M h
    rw [G_X10_heardAll_4] at h
    refine fl_iload3 (pc := 4) dX10_heardAll_4 ?_
    refine fl_aload0 (pc := 5) dX10_heardAll_5 ?_
    refine fm_getr (pc := 6) lk_10_13 sh_76 rfl dX10_heardAll_6 ?_
    refine fm_iconstv (pc := 9) 1 (by decide) dX10_heardAll_9 ?_
    obtain ⟨g1, h⟩ := fm_gdp h
    refine fm_iald (pc := 10) sh_78 (fm_inb_ok g1) dX10_heardAll_10 ?_
    refine fm_icmp_ge (pc := 11) 38 (by decide) dX10_heardAll_11 (fun c11 => ?_) (fun c11 => ?_)
    · replace h := fm_itp c11 h
      refine fm_fgt [some (.ref 76), some (.int l1), some (.int l2), some (.int l3)] (by simp [fm_sub]) ?_
      cases h
      exact k1 _ _ rfl
    · replace h := fm_itn c11 h
      refine fl_iload2 (pc := 14) dX10_heardAll_14 ?_
      refine fm_iconstv (pc := 15) 0 (by decide) dX10_heardAll_15 ?_
      refine fl_aload0 (pc := 16) dX10_heardAll_16 ?_
      refine fm_getr (pc := 17) lk_10_87 sh_76 rfl dX10_heardAll_17 ?_
      refine fm_bipushv (pc := 20) 10 (by decide) dX10_heardAll_20 ?_
      refine fl_iload1 (pc := 22) dX10_heardAll_22 ?_
      refine fm_imul (pc := 23) dX10_heardAll_23 ?_
      refine fl_iload3 (pc := 24) dX10_heardAll_24 ?_
      refine fm_iadd (pc := 25) dX10_heardAll_25 ?_
      obtain ⟨g2, h⟩ := fm_gdp h
      refine fm_iald (pc := 26) sh_101 (fm_inb_ok g2) dX10_heardAll_26 ?_
      refine fq_mmax (pc := 27) ml_10_328 (Nat.le_of_ble_eq_true rfl) dX10_heardAll_27 ?_
      refine fm_iadd (pc := 30) dX10_heardAll_30 ?_
      obtain ⟨x3, ex3, h⟩ := fm_ltp h
      refine fm_cgi ex3 ?_
      refine fl_istore2 (pc := 31) rfl (by decide) dX10_heardAll_31 ?_
      refine fl_iinc3 (pc := 32) rfl 1 (by decide) (by decide) dX10_heardAll_32 ?_
      refine fm_goto (pc := 35) 4 (by decide) dX10_heardAll_35 ?_
      refine fm_fgt [some (.ref 76), some (.int l1), some (.int x3), some (.int (l3 + 1))] (by simp [fm_sub]) ?_
      exact ih _ _ _ h
theorem sp_X10_heardAll {d : Nat} {a1 : Int32} {M : fm_M} {x : Int32 × fm_M} {Q : Option Value → fm_M → Prop} (h : F_X10_heardAll a1 M = some x) (hq : Q (some (.int x.1)) x.2) : fm_ct (d + 1) mX10_heardAll [.ref 76, .int a1] M Q := by
  rw [F_X10_heardAll] at h
  show fm_mw (d + 1) mX10_heardAll Q 0 [some (.ref 76), some (.int a1), none, none] [] M
  refine fm_iconstv (pc := 0) 0 (by decide) dX10_heardAll_0 ?_
  refine fl_istore2 (pc := 1) rfl (by decide) dX10_heardAll_1 ?_
  refine fm_iconstv (pc := 2) 0 (by decide) dX10_heardAll_2 ?_
  refine fl_istore3 (pc := 3) rfl (by decide) dX10_heardAll_3 ?_
  obtain ⟨w4, M5, ew4, h⟩ := fm_bdp h
  refine lp_X10_heardAll_4  ?_ _ _ _ _ ew4
  intro w49 M59 q9
  cases q9
  refine fl_iload2 (pc := 38) dX10_heardAll_38 ?_
  refine fm_iret (pc := 39) rfl ?_ dX10_heardAll_39
  cases h
  exact hq
/-! X10_motion -/
def J_X10_motion_27 (l1 : Int32) (l2 : Int32) (s1 : Int32) (M : fm_M) : Option (Int32 × fm_M) :=
    fm_lt (fm_up M 76 0 s1) (fun M3 =>
    if (M3.1 76 0) = 0 then (
      if l2 = 0 then (
        fm_gd (fm_inb l1 20) (
        some ((M3.1 85 (Int32.toNatClampNeg l1)), M3))
      ) else (
      if l2 = 1 then (
        fm_gd (fm_inb l1 230) (
        some ((M3.1 99 (Int32.toNatClampNeg l1)), M3))
      ) else (
      if l2 = 2 then (
        fm_gd (fm_inb l1 230) (
        some ((M3.1 100 (Int32.toNatClampNeg l1)), M3))
      ) else (
      fm_gd (fm_inb l1 230) (
      some ((M3.1 101 (Int32.toNatClampNeg l1)), M3)))))
    ) else (
      some (0, M3)
    ))
def J_X10_motion_22 (l1 : Int32) (l2 : Int32) (M : fm_M) : Option (Int32 × fm_M) :=
    J_X10_motion_27 l1 l2 2 M
def F_X10_motion (a1 : Int32) (a2 : Int32) (M : fm_M) : Option (Int32 × fm_M) :=
    fm_bd (F_X10_isMotion a1 M) (fun v1 M2 =>
    if v1 = 0 then (
      J_X10_motion_27 a1 a2 1 M2
    ) else (
      if a2 < 0 then (
        J_X10_motion_22 a1 a2 M2
      ) else (
        if a2 ≤ 3 then (
          J_X10_motion_27 a1 a2 0 M2
        ) else (
          J_X10_motion_22 a1 a2 M2
        )
      )
    ))
theorem jn_X10_motion_27 {d : Nat} {Q : Option Value → fm_M → Prop}  (l1 : Int32) (l2 : Int32) (s1 : Int32) {x : Int32 × fm_M}  (hq : Q (some (.int x.1)) x.2) (M : fm_M) (h : J_X10_motion_27 l1 l2 s1 M = some x) : fm_mw (d + 1) mX10_motion Q 27 [some (.ref 76), some (.int l1), some (.int l2)] [(.int s1), (.ref 76)] M := by
  rw [J_X10_motion_27] at h
  refine fm_puti (pc := 27) lp_10_130 sh_76 rfl dX10_motion_27 ?_
  obtain ⟨M3, eM3, h⟩ := fm_ltp h
  refine fm_cgm eM3 ?_
  refine fl_aload0 (pc := 30) dX10_motion_30 ?_
  refine fm_geti (pc := 31) lk_10_130 sh_76 rfl dX10_motion_31 ?_
  refine fm_if_eq (pc := 34) 39 (by decide) dX10_motion_34 (fun c34 => ?_) (fun c34 => ?_)
  · replace h := fm_itp c34 h
    refine fl_iload2 (pc := 39) dX10_motion_39 ?_
    by_cases s40_0 : l2 = 0
    · replace h := fm_itp s40_0 h
      refine fm_tswIn (pc := 40) 68 0 (28) (by rw [s40_0]; rfl) (by decide) (by decide) (by decide) (by decide) dX10_motion_40 ?_
      refine fl_aload0 (pc := 68) dX10_motion_68 ?_
      refine fm_getr (pc := 69) lk_10_34 sh_76 rfl dX10_motion_69 ?_
      refine fl_iload1 (pc := 72) dX10_motion_72 ?_
      obtain ⟨g4, h⟩ := fm_gdp h
      refine fm_iald (pc := 73) sh_85 (fm_inb_ok g4) dX10_motion_73 ?_
      refine fm_iret (pc := 74) rfl ?_ dX10_motion_74
      cases h
      exact hq
    · replace h := fm_itn s40_0 h
      by_cases s40_1 : l2 = 1
      · replace h := fm_itp s40_1 h
        refine fm_tswIn (pc := 40) 75 1 (35) (by rw [s40_1]; rfl) (by decide) (by decide) (by decide) (by decide) dX10_motion_40 ?_
        refine fl_aload0 (pc := 75) dX10_motion_75 ?_
        refine fm_getr (pc := 76) lk_10_81 sh_76 rfl dX10_motion_76 ?_
        refine fl_iload1 (pc := 79) dX10_motion_79 ?_
        obtain ⟨g5, h⟩ := fm_gdp h
        refine fm_iald (pc := 80) sh_99 (fm_inb_ok g5) dX10_motion_80 ?_
        refine fm_iret (pc := 81) rfl ?_ dX10_motion_81
        cases h
        exact hq
      · replace h := fm_itn s40_1 h
        by_cases s40_2 : l2 = 2
        · replace h := fm_itp s40_2 h
          refine fm_tswIn (pc := 40) 82 2 (42) (by rw [s40_2]; rfl) (by decide) (by decide) (by decide) (by decide) dX10_motion_40 ?_
          refine fl_aload0 (pc := 82) dX10_motion_82 ?_
          refine fm_getr (pc := 83) lk_10_84 sh_76 rfl dX10_motion_83 ?_
          refine fl_iload1 (pc := 86) dX10_motion_86 ?_
          obtain ⟨g6, h⟩ := fm_gdp h
          refine fm_iald (pc := 87) sh_100 (fm_inb_ok g6) dX10_motion_87 ?_
          refine fm_iret (pc := 88) rfl ?_ dX10_motion_88
          cases h
          exact hq
        · replace h := fm_itn s40_2 h
          have q0 : ¬ Int32.toInt l2 = 0 := fun q => s40_0 (Int32.toInt_inj.mp (by rw [q]; rfl))
          have q1 : ¬ Int32.toInt l2 = 1 := fun q => s40_1 (Int32.toInt_inj.mp (by rw [q]; rfl))
          have q2 : ¬ Int32.toInt l2 = 2 := fun q => s40_2 (Int32.toInt_inj.mp (by rw [q]; rfl))
          refine fm_tswOut (pc := 40) 89 (by omega) (by decide) dX10_motion_40 ?_
          refine fl_aload0 (pc := 89) dX10_motion_89 ?_
          refine fm_getr (pc := 90) lk_10_87 sh_76 rfl dX10_motion_90 ?_
          refine fl_iload1 (pc := 93) dX10_motion_93 ?_
          obtain ⟨g7, h⟩ := fm_gdp h
          refine fm_iald (pc := 94) sh_101 (fm_inb_ok g7) dX10_motion_94 ?_
          refine fm_iret (pc := 95) rfl ?_ dX10_motion_95
          cases h
          exact hq
  · replace h := fm_itn c34 h
    refine fm_iconstv (pc := 37) 0 (by decide) dX10_motion_37 ?_
    refine fm_iret (pc := 38) rfl ?_ dX10_motion_38
    cases h
    exact hq
theorem jn_X10_motion_22 {d : Nat} {Q : Option Value → fm_M → Prop}  (l1 : Int32) (l2 : Int32) {x : Int32 × fm_M}  (hq : Q (some (.int x.1)) x.2) (M : fm_M) (h : J_X10_motion_22 l1 l2 M = some x) : fm_mw (d + 1) mX10_motion Q 22 [some (.ref 76), some (.int l1), some (.int l2)] [(.ref 76)] M := by
  rw [J_X10_motion_22] at h
  refine fm_iconstv (pc := 22) 2 (by decide) dX10_motion_22 ?_
  refine fm_goto (pc := 23) 27 (by decide) dX10_motion_23 ?_
  exact jn_X10_motion_27 _ _ _  hq _ h
theorem sp_X10_motion {d : Nat} {a1 : Int32} {a2 : Int32} {M : fm_M} {x : Int32 × fm_M} {Q : Option Value → fm_M → Prop} (h : F_X10_motion a1 a2 M = some x) (hq : Q (some (.int x.1)) x.2) : fm_ct (d + 1) mX10_motion [.ref 76, .int a1, .int a2] M Q := by
  rw [F_X10_motion] at h
  show fm_mw (d + 1) mX10_motion Q 0 [some (.ref 76), some (.int a1), some (.int a2)] [] M
  refine fl_aload0 (pc := 0) dX10_motion_0 ?_
  refine fl_aload0 (pc := 1) dX10_motion_1 ?_
  refine fl_iload1 (pc := 2) dX10_motion_2 ?_
  obtain ⟨v1, M2, ev1, h⟩ := fm_bdp h
  refine fm_callV (pc := 3) mX10_isMotion [_] _ rfl cvX10_isMotion ml_10_401 sh_76 rfl rfl (Nat.le_of_ble_eq_true rfl) (Nat.le_of_ble_eq_true rfl) dX10_motion_3 ?_
  refine sp_X10_isMotion ev1 ?_
  refine fm_ret1 ?_
  refine fm_if_ne (pc := 6) 13 (by decide) dX10_motion_6 (fun c6 => ?_) (fun c6 => ?_)
  · replace h := fm_itn c6 h
    refine fl_iload2 (pc := 13) dX10_motion_13 ?_
    refine fm_if_lt (pc := 14) 22 (by decide) dX10_motion_14 (fun c14 => ?_) (fun c14 => ?_)
    · replace h := fm_itp c14 h
      exact jn_X10_motion_22 _ _  hq _ h
    · replace h := fm_itn c14 h
      refine fl_iload2 (pc := 17) dX10_motion_17 ?_
      refine fm_iconstv (pc := 18) 3 (by decide) dX10_motion_18 ?_
      refine fm_icmp_le (pc := 19) 26 (by decide) dX10_motion_19 (fun c19 => ?_) (fun c19 => ?_)
      · replace h := fm_itp c19 h
        refine fm_iconstv (pc := 26) 0 (by decide) dX10_motion_26 ?_
        exact jn_X10_motion_27 _ _ _  hq _ h
      · replace h := fm_itn c19 h
        exact jn_X10_motion_22 _ _  hq _ h
  · replace h := fm_itp c6 h
    refine fm_iconstv (pc := 9) 1 (by decide) dX10_motion_9 ?_
    refine fm_goto (pc := 10) 27 (by decide) dX10_motion_10 ?_
    exact jn_X10_motion_27 _ _ _  hq _ h
/-! X10_fork -/
def F_X10_fork (a1 : Int32) (a2 : Int32) (M : fm_M) : Option (Int32 × fm_M) :=
    fm_lt (fm_up M 76 0 0) (fun M1 =>
    fm_bd (F_X10_isFork a1 M1) (fun v2 M3 =>
    if v2 = 0 then (
      some ((-1), M3)
    ) else (
      if a2 = 0 then (
        fm_gd (fm_inb a1 184) (
        some ((M3.1 98 (Int32.toNatClampNeg a1)), M3))
      ) else (
      if a2 = 1 then (
        fm_gd (fm_inb a1 16) (
        some ((M3.1 81 (Int32.toNatClampNeg a1)), M3))
      ) else (
      if a2 = 2 then (
        fm_gd (fm_inb a1 16) (
        some ((M3.1 82 (Int32.toNatClampNeg a1)), M3))
      ) else (
      if a2 = 3 then (
        fm_gd (fm_inb a1 16) (
        some ((M3.1 83 (Int32.toNatClampNeg a1)), M3))
      ) else (
      if a2 = 4 then (
        fm_bd (F_X10_isCracked a1 M3) (fun v8 M9 =>
        if v8 = 0 then (
          some (0, M9)
        ) else (
          some (1, M9)
        ))
      ) else (
      if a2 = 5 then (
        fm_gd (fm_inb 0 23) (
        some ((((M3.1 97 (Int32.toNatClampNeg 0)) >>> (a1 &&& 31)) &&& 1), M3))
      ) else (
      some ((-1), M3)))))))
    )))
theorem sp_X10_fork {d : Nat} {a1 : Int32} {a2 : Int32} {M : fm_M} {x : Int32 × fm_M} {Q : Option Value → fm_M → Prop} (h : F_X10_fork a1 a2 M = some x) (hq : Q (some (.int x.1)) x.2) : fm_ct (d + 1) mX10_fork [.ref 76, .int a1, .int a2] M Q := by
  rw [F_X10_fork] at h
  show fm_mw (d + 1) mX10_fork Q 0 [some (.ref 76), some (.int a1), some (.int a2)] [] M
  refine fl_aload0 (pc := 0) dX10_fork_0 ?_
  refine fm_iconstv (pc := 1) 0 (by decide) dX10_fork_1 ?_
  refine fm_puti (pc := 2) lp_10_130 sh_76 rfl dX10_fork_2 ?_
  obtain ⟨M1, eM1, h⟩ := fm_ltp h
  refine fm_cgm eM1 ?_
  refine fl_aload0 (pc := 5) dX10_fork_5 ?_
  refine fl_iload1 (pc := 6) dX10_fork_6 ?_
  obtain ⟨v2, M3, ev2, h⟩ := fm_bdp h
  refine fm_callV (pc := 7) mX10_isFork [_] _ rfl cvX10_isFork ml_10_404 sh_76 rfl rfl (Nat.le_of_ble_eq_true rfl) (Nat.le_of_ble_eq_true rfl) dX10_fork_7 ?_
  refine sp_X10_isFork ev2 ?_
  refine fm_ret1 ?_
  refine fm_if_ne (pc := 10) 15 (by decide) dX10_fork_10 (fun c10 => ?_) (fun c10 => ?_)
  · replace h := fm_itn c10 h
    refine fl_iload2 (pc := 15) dX10_fork_15 ?_
    by_cases s16_0 : a2 = 0
    · replace h := fm_itp s16_0 h
      refine fm_tswIn (pc := 16) 56 0 (40) (by rw [s16_0]; rfl) (by decide) (by decide) (by decide) (by decide) dX10_fork_16 ?_
      refine fl_aload0 (pc := 56) dX10_fork_56 ?_
      refine fm_getr (pc := 57) lk_10_78 sh_76 rfl dX10_fork_57 ?_
      refine fl_iload1 (pc := 60) dX10_fork_60 ?_
      obtain ⟨g4, h⟩ := fm_gdp h
      refine fm_iald (pc := 61) sh_98 (fm_inb_ok g4) dX10_fork_61 ?_
      refine fm_iret (pc := 62) rfl ?_ dX10_fork_62
      cases h
      exact hq
    · replace h := fm_itn s16_0 h
      by_cases s16_1 : a2 = 1
      · replace h := fm_itp s16_1 h
        refine fm_tswIn (pc := 16) 63 1 (47) (by rw [s16_1]; rfl) (by decide) (by decide) (by decide) (by decide) dX10_fork_16 ?_
        refine fl_aload0 (pc := 63) dX10_fork_63 ?_
        refine fm_getr (pc := 64) lk_10_22 sh_76 rfl dX10_fork_64 ?_
        refine fl_iload1 (pc := 67) dX10_fork_67 ?_
        obtain ⟨g5, h⟩ := fm_gdp h
        refine fm_iald (pc := 68) sh_81 (fm_inb_ok g5) dX10_fork_68 ?_
        refine fm_iret (pc := 69) rfl ?_ dX10_fork_69
        cases h
        exact hq
      · replace h := fm_itn s16_1 h
        by_cases s16_2 : a2 = 2
        · replace h := fm_itp s16_2 h
          refine fm_tswIn (pc := 16) 70 2 (54) (by rw [s16_2]; rfl) (by decide) (by decide) (by decide) (by decide) dX10_fork_16 ?_
          refine fl_aload0 (pc := 70) dX10_fork_70 ?_
          refine fm_getr (pc := 71) lk_10_25 sh_76 rfl dX10_fork_71 ?_
          refine fl_iload1 (pc := 74) dX10_fork_74 ?_
          obtain ⟨g6, h⟩ := fm_gdp h
          refine fm_iald (pc := 75) sh_82 (fm_inb_ok g6) dX10_fork_75 ?_
          refine fm_iret (pc := 76) rfl ?_ dX10_fork_76
          cases h
          exact hq
        · replace h := fm_itn s16_2 h
          by_cases s16_3 : a2 = 3
          · replace h := fm_itp s16_3 h
            refine fm_tswIn (pc := 16) 77 3 (61) (by rw [s16_3]; rfl) (by decide) (by decide) (by decide) (by decide) dX10_fork_16 ?_
            refine fl_aload0 (pc := 77) dX10_fork_77 ?_
            refine fm_getr (pc := 78) lk_10_28 sh_76 rfl dX10_fork_78 ?_
            refine fl_iload1 (pc := 81) dX10_fork_81 ?_
            obtain ⟨g7, h⟩ := fm_gdp h
            refine fm_iald (pc := 82) sh_83 (fm_inb_ok g7) dX10_fork_82 ?_
            refine fm_iret (pc := 83) rfl ?_ dX10_fork_83
            cases h
            exact hq
          · replace h := fm_itn s16_3 h
            by_cases s16_4 : a2 = 4
            · replace h := fm_itp s16_4 h
              refine fm_tswIn (pc := 16) 84 4 (68) (by rw [s16_4]; rfl) (by decide) (by decide) (by decide) (by decide) dX10_fork_16 ?_
              refine fl_aload0 (pc := 84) dX10_fork_84 ?_
              refine fl_iload1 (pc := 85) dX10_fork_85 ?_
              obtain ⟨v8, M9, ev8, h⟩ := fm_bdp h
              refine fm_callV (pc := 86) mX10_isCracked [_] _ rfl cvX10_isCracked ml_10_365 sh_76 rfl rfl (Nat.le_of_ble_eq_true rfl) (Nat.le_of_ble_eq_true rfl) dX10_fork_86 ?_
              refine sp_X10_isCracked ev8 ?_
              refine fm_ret1 ?_
              refine fm_if_eq (pc := 89) 96 (by decide) dX10_fork_89 (fun c89 => ?_) (fun c89 => ?_)
              · replace h := fm_itp c89 h
                refine fm_iconstv (pc := 96) 0 (by decide) dX10_fork_96 ?_
                refine fm_iret (pc := 97) rfl ?_ dX10_fork_97
                cases h
                exact hq
              · replace h := fm_itn c89 h
                refine fm_iconstv (pc := 92) 1 (by decide) dX10_fork_92 ?_
                refine fm_goto (pc := 93) 97 (by decide) dX10_fork_93 ?_
                refine fm_iret (pc := 97) rfl ?_ dX10_fork_97
                cases h
                exact hq
            · replace h := fm_itn s16_4 h
              by_cases s16_5 : a2 = 5
              · replace h := fm_itp s16_5 h
                refine fm_tswIn (pc := 16) 98 5 (82) (by rw [s16_5]; rfl) (by decide) (by decide) (by decide) (by decide) dX10_fork_16 ?_
                refine fl_aload0 (pc := 98) dX10_fork_98 ?_
                refine fm_getr (pc := 99) lk_10_75 sh_76 rfl dX10_fork_99 ?_
                refine fm_iconstv (pc := 102) 0 (by decide) dX10_fork_102 ?_
                obtain ⟨g10, h⟩ := fm_gdp h
                refine fm_iald (pc := 103) sh_97 (fm_inb_ok g10) dX10_fork_103 ?_
                refine fl_iload1 (pc := 104) dX10_fork_104 ?_
                refine fm_ishr (pc := 105) dX10_fork_105 ?_
                refine fm_iconstv (pc := 106) 1 (by decide) dX10_fork_106 ?_
                refine fm_iand (pc := 107) dX10_fork_107 ?_
                refine fm_iret (pc := 108) rfl ?_ dX10_fork_108
                cases h
                exact hq
              · replace h := fm_itn s16_5 h
                have q0 : ¬ Int32.toInt a2 = 0 := fun q => s16_0 (Int32.toInt_inj.mp (by rw [q]; rfl))
                have q1 : ¬ Int32.toInt a2 = 1 := fun q => s16_1 (Int32.toInt_inj.mp (by rw [q]; rfl))
                have q2 : ¬ Int32.toInt a2 = 2 := fun q => s16_2 (Int32.toInt_inj.mp (by rw [q]; rfl))
                have q3 : ¬ Int32.toInt a2 = 3 := fun q => s16_3 (Int32.toInt_inj.mp (by rw [q]; rfl))
                have q4 : ¬ Int32.toInt a2 = 4 := fun q => s16_4 (Int32.toInt_inj.mp (by rw [q]; rfl))
                have q5 : ¬ Int32.toInt a2 = 5 := fun q => s16_5 (Int32.toInt_inj.mp (by rw [q]; rfl))
                refine fm_tswOut (pc := 16) 109 (by omega) (by decide) dX10_fork_16 ?_
                refine fm_iconstv (pc := 109) (-1) (by decide) dX10_fork_109 ?_
                refine fm_iret (pc := 110) rfl ?_ dX10_fork_110
                cases h
                exact hq
  · replace h := fm_itp c10 h
    refine fm_iconstv (pc := 13) (-1) (by decide) dX10_fork_13 ?_
    refine fm_iret (pc := 14) rfl ?_ dX10_fork_14
    cases h
    exact hq
