/-! J7_fill_53178 -/
def G_J7_fill_53178_5 : Nat → Nat → Nat → Int32 → Int32 → Int32 → fm_M → Option ((Int32) × fm_M)
  | 0, _, _, _, _, _, _ => none
  | n + 1, a0, n0, l1, l3, l2, M =>
    if l3 ≤ l2 then (
      some (l2, M)
    ) else (
      fm_gd (fm_inb l2 n0) (
      fm_lt (fm_up M a0 (Int32.toNatClampNeg l2) l1) (fun M3 =>
      G_J7_fill_53178_5 n a0 n0 l1 l3 (l2 + 1) M3))
    )
def F_J7_fill_53178 (a0 : Nat) (a1 : Int32) (M : fm_M) : Option (Unit × fm_M) :=
    fm_bn (fm_arI a0) (fun n0 =>
    fm_lt ((nI n0)) (fun x1 =>
    fm_bd (G_J7_fill_53178_5 fm_fuel a0 n0 a1 x1 0 M) (fun w4 M5 =>
      some ((), M5))))
theorem lp_J7_fill_53178_5 {d : Nat} {Q : Option Value → fm_M → Prop} {l1 : Int32} {l3 : Int32} {a0 : Nat} {n0 : Nat} (en0 : fm_arI a0 = some n0) {x : (Int32) × fm_M} (k1 : ∀ (v : Int32) (M2 : fm_M), x = (v, M2) → fm_mw d mJ7_fill_53178 Q 20 [some (.ref a0), some (.int l1), some (.int v), some (.int l3)] [] M2) : ∀ (n : Nat) (l2 : Int32) (M : fm_M), G_J7_fill_53178_5 n a0 n0 l1 l3 l2 M = some x → fm_mw d mJ7_fill_53178 Q 5 [some (.ref a0), some (.int l1), some (.int l2), some (.int l3)] [] M := by
  intro n
  induction n with
  | zero => intro l2 M h; simp [G_J7_fill_53178_5] at h
  | succ n ih =>
    intro l2 M h
    rw [G_J7_fill_53178_5] at h
    refine fl_iload2 (pc := 5) dJ7_fill_53178_5 ?_
    refine fl_iload3 (pc := 6) dJ7_fill_53178_6 ?_
    refine fm_icmp_ge (pc := 7) 20 (by decide) dJ7_fill_53178_7 (fun c7 => ?_) (fun c7 => ?_)
    · replace h := fm_itp c7 h
      refine fm_fgt [some (.ref a0), some (.int l1), some (.int l2), some (.int l3)] (by simp [fm_sub]) ?_
      cases h
      exact k1 _ _ rfl
    · replace h := fm_itn c7 h
      refine fl_aload0 (pc := 10) dJ7_fill_53178_10 ?_
      refine fl_iload2 (pc := 11) dJ7_fill_53178_11 ?_
      refine fl_iload1 (pc := 12) dJ7_fill_53178_12 ?_
      obtain ⟨g2, h⟩ := fm_gdp h
      refine fm_iast (pc := 13) (fm_arI_ok en0) (fm_inb_ok g2) dJ7_fill_53178_13 ?_
      obtain ⟨M3, eM3, h⟩ := fm_ltp h
      refine fm_cgm eM3 ?_
      refine fl_iinc2 (pc := 14) rfl 1 (by decide) (by decide) dJ7_fill_53178_14 ?_
      refine fm_goto (pc := 17) 5 (by decide) dJ7_fill_53178_17 ?_
      refine fm_fgt [some (.ref a0), some (.int l1), some (.int (l2 + 1)), some (.int l3)] (by simp [fm_sub]) ?_
      exact ih _ _ h
theorem sp_J7_fill_53178 {d : Nat} {a0 : Nat} {a1 : Int32} {M : fm_M} {x : Unit × fm_M} {Q : Option Value → fm_M → Prop} (h : F_J7_fill_53178 a0 a1 M = some x) (hq : Q none x.2) : fm_ct d mJ7_fill_53178 [.ref a0, .int a1] M Q := by
  rw [F_J7_fill_53178] at h
  show fm_mw d mJ7_fill_53178 Q 0 [some (.ref a0), some (.int a1), none, none] [] M
  obtain ⟨n0, en0, h⟩ := fm_bnp h
  refine fm_iconstv (pc := 0) 0 (by decide) dJ7_fill_53178_0 ?_
  refine fl_istore2 (pc := 1) rfl (by decide) dJ7_fill_53178_1 ?_
  refine fl_aload0 (pc := 2) dJ7_fill_53178_2 ?_
  refine fm_alen (pc := 3) (fm_arI_ok en0) dJ7_fill_53178_3 ?_
  obtain ⟨x1, ex1, h⟩ := fm_ltp h
  refine fm_cgi ex1 ?_
  refine fl_istore3 (pc := 4) rfl (by decide) dJ7_fill_53178_4 ?_
  obtain ⟨w4, M5, ew4, h⟩ := fm_bdp h
  refine lp_J7_fill_53178_5 en0 ?_ _ _ _ ew4
  intro w49 M59 q9
  cases q9
  refine fm_vret (pc := 20) rfl ?_ dJ7_fill_53178_20
  cases h
  exact hq
/-! X3_has -/
def F_X3_has (a0 : Nat) (a1 : Int32) (M : fm_M) : Option (Int32 × fm_M) :=
    fm_gd (fm_isLw a0) (
    if a1 < 0 then (
      some (0, M)
    ) else (
      if 3 ≤ a1 then (
        some (0, M)
      ) else (
        fm_gd (fm_inb a1 3) (
        fm_gd (fm_inb a1 3) (
        if (M.1 (a0 + 2) (Int32.toNatClampNeg a1)) ≤ (M.1 (a0 + 1) (Int32.toNatClampNeg a1)) then (
          some (0, M)
        ) else (
          some (1, M)
        )))
      )
    ))
theorem sp_X3_has {d : Nat} {a0 : Nat} {a1 : Int32} {M : fm_M} {x : Int32 × fm_M} {Q : Option Value → fm_M → Prop} (h : F_X3_has a0 a1 M = some x) (hq : Q (some (.int x.1)) x.2) : fm_ct d mX3_has [.ref a0, .int a1] M Q := by
  rw [F_X3_has] at h
  show fm_mw d mX3_has Q 0 [some (.ref a0), some (.int a1)] [] M
  obtain ⟨ga0, h⟩ := fm_gdp h
  refine fl_iload1 (pc := 0) dX3_has_0 ?_
  refine fm_if_lt (pc := 1) 28 (by decide) dX3_has_1 (fun c1 => ?_) (fun c1 => ?_)
  · replace h := fm_itp c1 h
    refine fm_iconstv (pc := 28) 0 (by decide) dX3_has_28 ?_
    refine fm_zret (pc := 29) rfl (by decide) ?_ dX3_has_29
    cases h
    exact hq
  · replace h := fm_itn c1 h
    refine fl_iload1 (pc := 4) dX3_has_4 ?_
    refine fm_iconstv (pc := 5) 3 (by decide) dX3_has_5 ?_
    refine fm_icmp_ge (pc := 6) 28 (by decide) dX3_has_6 (fun c6 => ?_) (fun c6 => ?_)
    · replace h := fm_itp c6 h
      refine fm_iconstv (pc := 28) 0 (by decide) dX3_has_28 ?_
      refine fm_zret (pc := 29) rfl (by decide) ?_ dX3_has_29
      cases h
      exact hq
    · replace h := fm_itn c6 h
      refine fl_aload0 (pc := 9) dX3_has_9 ?_
      refine fm_getr (pc := 10) lk_3_9 (shLw0 ga0) rfl dX3_has_10 ?_
      refine fl_iload1 (pc := 13) dX3_has_13 ?_
      obtain ⟨g1, h⟩ := fm_gdp h
      refine fm_iald (pc := 14) (shLw1 ga0) (fm_inb_ok g1) dX3_has_14 ?_
      refine fl_aload0 (pc := 15) dX3_has_15 ?_
      refine fm_getr (pc := 16) lk_3_15 (shLw0 ga0) rfl dX3_has_16 ?_
      refine fl_iload1 (pc := 19) dX3_has_19 ?_
      obtain ⟨g2, h⟩ := fm_gdp h
      refine fm_iald (pc := 20) (shLw2 ga0) (fm_inb_ok g2) dX3_has_20 ?_
      refine fm_icmp_ge (pc := 21) 28 (by decide) dX3_has_21 (fun c21 => ?_) (fun c21 => ?_)
      · replace h := fm_itp c21 h
        refine fm_iconstv (pc := 28) 0 (by decide) dX3_has_28 ?_
        refine fm_zret (pc := 29) rfl (by decide) ?_ dX3_has_29
        cases h
        exact hq
      · replace h := fm_itn c21 h
        refine fm_iconstv (pc := 24) 1 (by decide) dX3_has_24 ?_
        refine fm_goto (pc := 25) 29 (by decide) dX3_has_25 ?_
        refine fm_zret (pc := 29) rfl (by decide) ?_ dX3_has_29
        cases h
        exact hq
/-! X3_name -/
def F_X3_name (a0 : Nat) (a1 : Int32) (a2 : Int32) (a3 : Int32) (a4 : Int32) (a5 : Int32) (a6 : Int32) (a7 : Int32) (M : fm_M) : Option (Unit × fm_M) :=
    fm_gd (fm_isLw a0) (
    fm_gd (fm_inb 0 7) (
    fm_lt (fm_up M (a0 + 5) (Int32.toNatClampNeg 0) a1) (fun M2 =>
    fm_gd (fm_inb 1 7) (
    fm_lt (fm_up M2 (a0 + 5) (Int32.toNatClampNeg 1) a2) (fun M4 =>
    fm_gd (fm_inb 2 7) (
    fm_lt (fm_up M4 (a0 + 5) (Int32.toNatClampNeg 2) a3) (fun M6 =>
    fm_gd (fm_inb 3 7) (
    fm_lt (fm_up M6 (a0 + 5) (Int32.toNatClampNeg 3) a4) (fun M8 =>
    fm_gd (fm_inb 4 7) (
    fm_lt (fm_up M8 (a0 + 5) (Int32.toNatClampNeg 4) a5) (fun M10 =>
    fm_gd (fm_inb 5 7) (
    fm_lt (fm_up M10 (a0 + 5) (Int32.toNatClampNeg 5) a6) (fun M12 =>
    fm_gd (fm_inb 6 7) (
    fm_lt (fm_up M12 (a0 + 5) (Int32.toNatClampNeg 6) a7) (fun M14 =>
    some ((), M14))))))))))))))))
theorem sp_X3_name {d : Nat} {a0 : Nat} {a1 : Int32} {a2 : Int32} {a3 : Int32} {a4 : Int32} {a5 : Int32} {a6 : Int32} {a7 : Int32} {M : fm_M} {x : Unit × fm_M} {Q : Option Value → fm_M → Prop} (h : F_X3_name a0 a1 a2 a3 a4 a5 a6 a7 M = some x) (hq : Q none x.2) : fm_ct d mX3_name [.ref a0, .int a1, .int a2, .int a3, .int a4, .int a5, .int a6, .int a7] M Q := by
  rw [F_X3_name] at h
  show fm_mw d mX3_name Q 0 [some (.ref a0), some (.int a1), some (.int a2), some (.int a3), some (.int a4), some (.int a5), some (.int a6), some (.int a7)] [] M
  obtain ⟨ga0, h⟩ := fm_gdp h
  refine fl_aload0 (pc := 0) dX3_name_0 ?_
  refine fm_getr (pc := 1) lk_3_24 (shLw0 ga0) rfl dX3_name_1 ?_
  refine fm_iconstv (pc := 4) 0 (by decide) dX3_name_4 ?_
  refine fl_iload1 (pc := 5) dX3_name_5 ?_
  obtain ⟨g1, h⟩ := fm_gdp h
  refine fm_iast (pc := 6) (shLw5 ga0) (fm_inb_ok g1) dX3_name_6 ?_
  obtain ⟨M2, eM2, h⟩ := fm_ltp h
  refine fm_cgm eM2 ?_
  refine fl_aload0 (pc := 7) dX3_name_7 ?_
  refine fm_getr (pc := 8) lk_3_24 (shLw0 ga0) rfl dX3_name_8 ?_
  refine fm_iconstv (pc := 11) 1 (by decide) dX3_name_11 ?_
  refine fl_iload2 (pc := 12) dX3_name_12 ?_
  obtain ⟨g3, h⟩ := fm_gdp h
  refine fm_iast (pc := 13) (shLw5 ga0) (fm_inb_ok g3) dX3_name_13 ?_
  obtain ⟨M4, eM4, h⟩ := fm_ltp h
  refine fm_cgm eM4 ?_
  refine fl_aload0 (pc := 14) dX3_name_14 ?_
  refine fm_getr (pc := 15) lk_3_24 (shLw0 ga0) rfl dX3_name_15 ?_
  refine fm_iconstv (pc := 18) 2 (by decide) dX3_name_18 ?_
  refine fl_iload3 (pc := 19) dX3_name_19 ?_
  obtain ⟨g5, h⟩ := fm_gdp h
  refine fm_iast (pc := 20) (shLw5 ga0) (fm_inb_ok g5) dX3_name_20 ?_
  obtain ⟨M6, eM6, h⟩ := fm_ltp h
  refine fm_cgm eM6 ?_
  refine fl_aload0 (pc := 21) dX3_name_21 ?_
  refine fm_getr (pc := 22) lk_3_24 (shLw0 ga0) rfl dX3_name_22 ?_
  refine fm_iconstv (pc := 25) 3 (by decide) dX3_name_25 ?_
  refine fl_iload4 (pc := 26) dX3_name_26 ?_
  obtain ⟨g7, h⟩ := fm_gdp h
  refine fm_iast (pc := 28) (shLw5 ga0) (fm_inb_ok g7) dX3_name_28 ?_
  obtain ⟨M8, eM8, h⟩ := fm_ltp h
  refine fm_cgm eM8 ?_
  refine fl_aload0 (pc := 29) dX3_name_29 ?_
  refine fm_getr (pc := 30) lk_3_24 (shLw0 ga0) rfl dX3_name_30 ?_
  refine fm_iconstv (pc := 33) 4 (by decide) dX3_name_33 ?_
  refine fl_iload5 (pc := 34) dX3_name_34 ?_
  obtain ⟨g9, h⟩ := fm_gdp h
  refine fm_iast (pc := 36) (shLw5 ga0) (fm_inb_ok g9) dX3_name_36 ?_
  obtain ⟨M10, eM10, h⟩ := fm_ltp h
  refine fm_cgm eM10 ?_
  refine fl_aload0 (pc := 37) dX3_name_37 ?_
  refine fm_getr (pc := 38) lk_3_24 (shLw0 ga0) rfl dX3_name_38 ?_
  refine fm_iconstv (pc := 41) 5 (by decide) dX3_name_41 ?_
  refine fl_iload6 (pc := 42) dX3_name_42 ?_
  obtain ⟨g11, h⟩ := fm_gdp h
  refine fm_iast (pc := 44) (shLw5 ga0) (fm_inb_ok g11) dX3_name_44 ?_
  obtain ⟨M12, eM12, h⟩ := fm_ltp h
  refine fm_cgm eM12 ?_
  refine fl_aload0 (pc := 45) dX3_name_45 ?_
  refine fm_getr (pc := 46) lk_3_24 (shLw0 ga0) rfl dX3_name_46 ?_
  refine fm_bipushv (pc := 49) 6 (by decide) dX3_name_49 ?_
  refine fl_iload7 (pc := 51) dX3_name_51 ?_
  obtain ⟨g13, h⟩ := fm_gdp h
  refine fm_iast (pc := 53) (shLw5 ga0) (fm_inb_ok g13) dX3_name_53 ?_
  obtain ⟨M14, eM14, h⟩ := fm_ltp h
  refine fm_cgm eM14 ?_
  refine fm_vret (pc := 54) rfl ?_ dX3_name_54
  cases h
  exact hq
/-! X3_joined -/
def F_X3_joined (a0 : Int32) (a1 : Int64) (a3 : Int64) (M : fm_M) : Option (Int64 × fm_M) :=
    if a0 = 7 then (
      if 0 ≤ (lg_cmp a1 a3) then (
        some (0, M)
      ) else (
        some (1, M)
      )
    ) else (
    if a0 = 8 then (
      if 0 < (lg_cmp a1 a3) then (
        some (0, M)
      ) else (
        some (1, M)
      )
    ) else (
    if a0 = 9 then (
      if (lg_cmp a1 a3) = 0 then (
        some (1, M)
      ) else (
        some (0, M)
      )
    ) else (
    if a0 = 10 then (
      if (lg_cmp a1 a3) = 0 then (
        some (0, M)
      ) else (
        some (1, M)
      )
    ) else (
    if a0 = 11 then (
      if (lg_cmp a1 a3) < 0 then (
        some (0, M)
      ) else (
        some (1, M)
      )
    ) else (
    if a0 = 12 then (
      if (lg_cmp a1 a3) ≤ 0 then (
        some (0, M)
      ) else (
        some (1, M)
      )
    ) else (
    if a0 = 13 then (
      some ((a1 + a3), M)
    ) else (
    if a0 = 14 then (
      some ((a1 - a3), M)
    ) else (
    if a0 = 15 then (
      if (lg_cmp a1 0) = 0 then (
        some ((a1 * a3), M)
      ) else (
        fm_gd (fm_nzl a1) (
        if (lg_cmp ((a1 * a3) / a1) a3) = 0 then (
          some ((a1 * a3), M)
        ) else (
          some ((-9223372036854775808), M)
        ))
      )
    ) else (
    if a0 = 16 then (
      if (lg_cmp a3 0) = 0 then (
        some ((-9223372036854775808), M)
      ) else (
        fm_gd (fm_nzl a3) (
        some ((a1 / a3), M))
      )
    ) else (
    if a0 = 17 then (
      some ((-9223372036854775808), M)
    ) else (
    if a0 = 18 then (
      some ((-9223372036854775808), M)
    ) else (
    if a0 = 19 then (
      some ((-9223372036854775808), M)
    ) else (
    if a0 = 20 then (
      some ((-9223372036854775808), M)
    ) else (
    if a0 = 21 then (
      some ((-9223372036854775808), M)
    ) else (
    if a0 = 22 then (
      some ((-9223372036854775808), M)
    ) else (
    if a0 = 23 then (
      some ((-9223372036854775808), M)
    ) else (
    if a0 = 24 then (
      some ((-9223372036854775808), M)
    ) else (
    if a0 = 25 then (
      some ((-9223372036854775808), M)
    ) else (
    if a0 = 26 then (
      some ((-9223372036854775808), M)
    ) else (
    if a0 = 27 then (
      some ((-9223372036854775808), M)
    ) else (
    if a0 = 28 then (
      some ((-9223372036854775808), M)
    ) else (
    if a0 = 29 then (
      if (lg_cmp a1 0) = 0 then (
        if (lg_cmp a3 0) = 0 then (
          some (0, M)
        ) else (
          some (1, M)
        )
      ) else (
        some (1, M)
      )
    ) else (
    if a0 = 30 then (
      if (lg_cmp a1 0) = 0 then (
        some (0, M)
      ) else (
        if (lg_cmp a3 0) = 0 then (
          some (0, M)
        ) else (
          some (1, M)
        )
      )
    ) else (
    some ((-9223372036854775808), M)))))))))))))))))))))))))
theorem sp_X3_joined {d : Nat} {a0 : Int32} {a1 : Int64} {a3 : Int64} {M : fm_M} {x : Int64 × fm_M} {Q : Option Value → fm_M → Prop} (h : F_X3_joined a0 a1 a3 M = some x) (hq : Q (some (.long x.1)) x.2) : fm_ct d mX3_joined [.int a0, .long a1, .long a3] M Q := by
  rw [F_X3_joined] at h
  show fm_mw d mX3_joined Q 0 [some (.int a0), some (.long a1), none, some (.long a3), none] [] M
  refine fl_iload0 (pc := 0) dX3_joined_0 ?_
  by_cases s1_0 : a0 = 7
  · replace h := fm_itp s1_0 h
    refine fm_tswIn (pc := 1) 162 7 (161) (by rw [s1_0]; rfl) (by decide) (by decide) (by decide) (by decide) dX3_joined_1 ?_
    refine fl_lload1 (pc := 162) dX3_joined_162 ?_
    refine fl_lload3 (pc := 163) dX3_joined_163 ?_
    refine fm_lcmp (pc := 164) dX3_joined_164 ?_
    refine fm_if_ge (pc := 165) 172 (by decide) dX3_joined_165 (fun c165 => ?_) (fun c165 => ?_)
    · replace h := fm_itp c165 h
      refine fm_lconstv (pc := 172) 0 (by decide) dX3_joined_172 ?_
      refine fm_lret (pc := 173) rfl ?_ dX3_joined_173
      cases h
      exact hq
    · replace h := fm_itn c165 h
      refine fm_lconstv (pc := 168) 1 (by decide) dX3_joined_168 ?_
      refine fm_goto (pc := 169) 173 (by decide) dX3_joined_169 ?_
      refine fm_lret (pc := 173) rfl ?_ dX3_joined_173
      cases h
      exact hq
  · replace h := fm_itn s1_0 h
    by_cases s1_1 : a0 = 8
    · replace h := fm_itp s1_1 h
      refine fm_tswIn (pc := 1) 174 8 (173) (by rw [s1_1]; rfl) (by decide) (by decide) (by decide) (by decide) dX3_joined_1 ?_
      refine fl_lload1 (pc := 174) dX3_joined_174 ?_
      refine fl_lload3 (pc := 175) dX3_joined_175 ?_
      refine fm_lcmp (pc := 176) dX3_joined_176 ?_
      refine fm_if_gt (pc := 177) 184 (by decide) dX3_joined_177 (fun c177 => ?_) (fun c177 => ?_)
      · replace h := fm_itp c177 h
        refine fm_lconstv (pc := 184) 0 (by decide) dX3_joined_184 ?_
        refine fm_lret (pc := 185) rfl ?_ dX3_joined_185
        cases h
        exact hq
      · replace h := fm_itn c177 h
        refine fm_lconstv (pc := 180) 1 (by decide) dX3_joined_180 ?_
        refine fm_goto (pc := 181) 185 (by decide) dX3_joined_181 ?_
        refine fm_lret (pc := 185) rfl ?_ dX3_joined_185
        cases h
        exact hq
    · replace h := fm_itn s1_1 h
      by_cases s1_2 : a0 = 9
      · replace h := fm_itp s1_2 h
        refine fm_tswIn (pc := 1) 186 9 (185) (by rw [s1_2]; rfl) (by decide) (by decide) (by decide) (by decide) dX3_joined_1 ?_
        refine fl_lload1 (pc := 186) dX3_joined_186 ?_
        refine fl_lload3 (pc := 187) dX3_joined_187 ?_
        refine fm_lcmp (pc := 188) dX3_joined_188 ?_
        refine fm_if_ne (pc := 189) 196 (by decide) dX3_joined_189 (fun c189 => ?_) (fun c189 => ?_)
        · replace h := fm_itn c189 h
          refine fm_lconstv (pc := 196) 0 (by decide) dX3_joined_196 ?_
          refine fm_lret (pc := 197) rfl ?_ dX3_joined_197
          cases h
          exact hq
        · replace h := fm_itp c189 h
          refine fm_lconstv (pc := 192) 1 (by decide) dX3_joined_192 ?_
          refine fm_goto (pc := 193) 197 (by decide) dX3_joined_193 ?_
          refine fm_lret (pc := 197) rfl ?_ dX3_joined_197
          cases h
          exact hq
      · replace h := fm_itn s1_2 h
        by_cases s1_3 : a0 = 10
        · replace h := fm_itp s1_3 h
          refine fm_tswIn (pc := 1) 198 10 (197) (by rw [s1_3]; rfl) (by decide) (by decide) (by decide) (by decide) dX3_joined_1 ?_
          refine fl_lload1 (pc := 198) dX3_joined_198 ?_
          refine fl_lload3 (pc := 199) dX3_joined_199 ?_
          refine fm_lcmp (pc := 200) dX3_joined_200 ?_
          refine fm_if_eq (pc := 201) 208 (by decide) dX3_joined_201 (fun c201 => ?_) (fun c201 => ?_)
          · replace h := fm_itp c201 h
            refine fm_lconstv (pc := 208) 0 (by decide) dX3_joined_208 ?_
            refine fm_lret (pc := 209) rfl ?_ dX3_joined_209
            cases h
            exact hq
          · replace h := fm_itn c201 h
            refine fm_lconstv (pc := 204) 1 (by decide) dX3_joined_204 ?_
            refine fm_goto (pc := 205) 209 (by decide) dX3_joined_205 ?_
            refine fm_lret (pc := 209) rfl ?_ dX3_joined_209
            cases h
            exact hq
        · replace h := fm_itn s1_3 h
          by_cases s1_4 : a0 = 11
          · replace h := fm_itp s1_4 h
            refine fm_tswIn (pc := 1) 210 11 (209) (by rw [s1_4]; rfl) (by decide) (by decide) (by decide) (by decide) dX3_joined_1 ?_
            refine fl_lload1 (pc := 210) dX3_joined_210 ?_
            refine fl_lload3 (pc := 211) dX3_joined_211 ?_
            refine fm_lcmp (pc := 212) dX3_joined_212 ?_
            refine fm_if_lt (pc := 213) 220 (by decide) dX3_joined_213 (fun c213 => ?_) (fun c213 => ?_)
            · replace h := fm_itp c213 h
              refine fm_lconstv (pc := 220) 0 (by decide) dX3_joined_220 ?_
              refine fm_lret (pc := 221) rfl ?_ dX3_joined_221
              cases h
              exact hq
            · replace h := fm_itn c213 h
              refine fm_lconstv (pc := 216) 1 (by decide) dX3_joined_216 ?_
              refine fm_goto (pc := 217) 221 (by decide) dX3_joined_217 ?_
              refine fm_lret (pc := 221) rfl ?_ dX3_joined_221
              cases h
              exact hq
          · replace h := fm_itn s1_4 h
            by_cases s1_5 : a0 = 12
            · replace h := fm_itp s1_5 h
              refine fm_tswIn (pc := 1) 222 12 (221) (by rw [s1_5]; rfl) (by decide) (by decide) (by decide) (by decide) dX3_joined_1 ?_
              refine fl_lload1 (pc := 222) dX3_joined_222 ?_
              refine fl_lload3 (pc := 223) dX3_joined_223 ?_
              refine fm_lcmp (pc := 224) dX3_joined_224 ?_
              refine fm_if_le (pc := 225) 232 (by decide) dX3_joined_225 (fun c225 => ?_) (fun c225 => ?_)
              · replace h := fm_itp c225 h
                refine fm_lconstv (pc := 232) 0 (by decide) dX3_joined_232 ?_
                refine fm_lret (pc := 233) rfl ?_ dX3_joined_233
                cases h
                exact hq
              · replace h := fm_itn c225 h
                refine fm_lconstv (pc := 228) 1 (by decide) dX3_joined_228 ?_
                refine fm_goto (pc := 229) 233 (by decide) dX3_joined_229 ?_
                refine fm_lret (pc := 233) rfl ?_ dX3_joined_233
                cases h
                exact hq
            · replace h := fm_itn s1_5 h
              by_cases s1_6 : a0 = 13
              · replace h := fm_itp s1_6 h
                refine fm_tswIn (pc := 1) 112 13 (111) (by rw [s1_6]; rfl) (by decide) (by decide) (by decide) (by decide) dX3_joined_1 ?_
                refine fl_lload1 (pc := 112) dX3_joined_112 ?_
                refine fl_lload3 (pc := 113) dX3_joined_113 ?_
                refine fm_ladd (pc := 114) dX3_joined_114 ?_
                refine fm_lret (pc := 115) rfl ?_ dX3_joined_115
                cases h
                exact hq
              · replace h := fm_itn s1_6 h
                by_cases s1_7 : a0 = 14
                · replace h := fm_itp s1_7 h
                  refine fm_tswIn (pc := 1) 116 14 (115) (by rw [s1_7]; rfl) (by decide) (by decide) (by decide) (by decide) dX3_joined_1 ?_
                  refine fl_lload1 (pc := 116) dX3_joined_116 ?_
                  refine fl_lload3 (pc := 117) dX3_joined_117 ?_
                  refine fm_lsub (pc := 118) dX3_joined_118 ?_
                  refine fm_lret (pc := 119) rfl ?_ dX3_joined_119
                  cases h
                  exact hq
                · replace h := fm_itn s1_7 h
                  by_cases s1_8 : a0 = 15
                  · replace h := fm_itp s1_8 h
                    refine fm_tswIn (pc := 1) 120 15 (119) (by rw [s1_8]; rfl) (by decide) (by decide) (by decide) (by decide) dX3_joined_1 ?_
                    refine fl_lload1 (pc := 120) dX3_joined_120 ?_
                    refine fm_lconstv (pc := 121) 0 (by decide) dX3_joined_121 ?_
                    refine fm_lcmp (pc := 122) dX3_joined_122 ?_
                    refine fm_if_eq (pc := 123) 142 (by decide) dX3_joined_123 (fun c123 => ?_) (fun c123 => ?_)
                    · replace h := fm_itp c123 h
                      refine fl_lload1 (pc := 142) dX3_joined_142 ?_
                      refine fl_lload3 (pc := 143) dX3_joined_143 ?_
                      refine fm_lmul (pc := 144) dX3_joined_144 ?_
                      refine fm_lret (pc := 145) rfl ?_ dX3_joined_145
                      cases h
                      exact hq
                    · replace h := fm_itn c123 h
                      refine fl_lload1 (pc := 126) dX3_joined_126 ?_
                      refine fl_lload3 (pc := 127) dX3_joined_127 ?_
                      refine fm_lmul (pc := 128) dX3_joined_128 ?_
                      refine fl_lload1 (pc := 129) dX3_joined_129 ?_
                      obtain ⟨g1, h⟩ := fm_gdp h
                      refine fm_ldiv (pc := 130) (fm_nzl_ok g1) dX3_joined_130 ?_
                      refine fl_lload3 (pc := 131) dX3_joined_131 ?_
                      refine fm_lcmp (pc := 132) dX3_joined_132 ?_
                      refine fm_if_eq (pc := 133) 142 (by decide) dX3_joined_133 (fun c133 => ?_) (fun c133 => ?_)
                      · replace h := fm_itp c133 h
                        refine fl_lload1 (pc := 142) dX3_joined_142 ?_
                        refine fl_lload3 (pc := 143) dX3_joined_143 ?_
                        refine fm_lmul (pc := 144) dX3_joined_144 ?_
                        refine fm_lret (pc := 145) rfl ?_ dX3_joined_145
                        cases h
                        exact hq
                      · replace h := fm_itn c133 h
                        refine fm_ldc2 (pc := 136) kc_3_48 dX3_joined_136 ?_
                        refine fm_goto (pc := 139) 145 (by decide) dX3_joined_139 ?_
                        refine fm_lret (pc := 145) rfl ?_ dX3_joined_145
                        cases h
                        exact hq
                  · replace h := fm_itn s1_8 h
                    by_cases s1_9 : a0 = 16
                    · replace h := fm_itp s1_9 h
                      refine fm_tswIn (pc := 1) 146 16 (145) (by rw [s1_9]; rfl) (by decide) (by decide) (by decide) (by decide) dX3_joined_1 ?_
                      refine fl_lload3 (pc := 146) dX3_joined_146 ?_
                      refine fm_lconstv (pc := 147) 0 (by decide) dX3_joined_147 ?_
                      refine fm_lcmp (pc := 148) dX3_joined_148 ?_
                      refine fm_if_ne (pc := 149) 158 (by decide) dX3_joined_149 (fun c149 => ?_) (fun c149 => ?_)
                      · replace h := fm_itn c149 h
                        refine fl_lload1 (pc := 158) dX3_joined_158 ?_
                        refine fl_lload3 (pc := 159) dX3_joined_159 ?_
                        obtain ⟨g2, h⟩ := fm_gdp h
                        refine fm_ldiv (pc := 160) (fm_nzl_ok g2) dX3_joined_160 ?_
                        refine fm_lret (pc := 161) rfl ?_ dX3_joined_161
                        cases h
                        exact hq
                      · replace h := fm_itp c149 h
                        refine fm_ldc2 (pc := 152) kc_3_48 dX3_joined_152 ?_
                        refine fm_goto (pc := 155) 161 (by decide) dX3_joined_155 ?_
                        refine fm_lret (pc := 161) rfl ?_ dX3_joined_161
                        cases h
                        exact hq
                    · replace h := fm_itn s1_9 h
                      by_cases s1_10 : a0 = 17
                      · replace h := fm_itp s1_10 h
                        refine fm_tswIn (pc := 1) 270 17 (269) (by rw [s1_10]; rfl) (by decide) (by decide) (by decide) (by decide) dX3_joined_1 ?_
                        refine fm_ldc2 (pc := 270) kc_3_48 dX3_joined_270 ?_
                        refine fm_lret (pc := 273) rfl ?_ dX3_joined_273
                        cases h
                        exact hq
                      · replace h := fm_itn s1_10 h
                        by_cases s1_11 : a0 = 18
                        · replace h := fm_itp s1_11 h
                          refine fm_tswIn (pc := 1) 270 18 (269) (by rw [s1_11]; rfl) (by decide) (by decide) (by decide) (by decide) dX3_joined_1 ?_
                          refine fm_ldc2 (pc := 270) kc_3_48 dX3_joined_270 ?_
                          refine fm_lret (pc := 273) rfl ?_ dX3_joined_273
                          cases h
                          exact hq
                        · replace h := fm_itn s1_11 h
                          by_cases s1_12 : a0 = 19
                          · replace h := fm_itp s1_12 h
                            refine fm_tswIn (pc := 1) 270 19 (269) (by rw [s1_12]; rfl) (by decide) (by decide) (by decide) (by decide) dX3_joined_1 ?_
                            refine fm_ldc2 (pc := 270) kc_3_48 dX3_joined_270 ?_
                            refine fm_lret (pc := 273) rfl ?_ dX3_joined_273
                            cases h
                            exact hq
                          · replace h := fm_itn s1_12 h
                            by_cases s1_13 : a0 = 20
                            · replace h := fm_itp s1_13 h
                              refine fm_tswIn (pc := 1) 270 20 (269) (by rw [s1_13]; rfl) (by decide) (by decide) (by decide) (by decide) dX3_joined_1 ?_
                              refine fm_ldc2 (pc := 270) kc_3_48 dX3_joined_270 ?_
                              refine fm_lret (pc := 273) rfl ?_ dX3_joined_273
                              cases h
                              exact hq
                            · replace h := fm_itn s1_13 h
                              by_cases s1_14 : a0 = 21
                              · replace h := fm_itp s1_14 h
                                refine fm_tswIn (pc := 1) 270 21 (269) (by rw [s1_14]; rfl) (by decide) (by decide) (by decide) (by decide) dX3_joined_1 ?_
                                refine fm_ldc2 (pc := 270) kc_3_48 dX3_joined_270 ?_
                                refine fm_lret (pc := 273) rfl ?_ dX3_joined_273
                                cases h
                                exact hq
                              · replace h := fm_itn s1_14 h
                                by_cases s1_15 : a0 = 22
                                · replace h := fm_itp s1_15 h
                                  refine fm_tswIn (pc := 1) 270 22 (269) (by rw [s1_15]; rfl) (by decide) (by decide) (by decide) (by decide) dX3_joined_1 ?_
                                  refine fm_ldc2 (pc := 270) kc_3_48 dX3_joined_270 ?_
                                  refine fm_lret (pc := 273) rfl ?_ dX3_joined_273
                                  cases h
                                  exact hq
                                · replace h := fm_itn s1_15 h
                                  by_cases s1_16 : a0 = 23
                                  · replace h := fm_itp s1_16 h
                                    refine fm_tswIn (pc := 1) 270 23 (269) (by rw [s1_16]; rfl) (by decide) (by decide) (by decide) (by decide) dX3_joined_1 ?_
                                    refine fm_ldc2 (pc := 270) kc_3_48 dX3_joined_270 ?_
                                    refine fm_lret (pc := 273) rfl ?_ dX3_joined_273
                                    cases h
                                    exact hq
                                  · replace h := fm_itn s1_16 h
                                    by_cases s1_17 : a0 = 24
                                    · replace h := fm_itp s1_17 h
                                      refine fm_tswIn (pc := 1) 270 24 (269) (by rw [s1_17]; rfl) (by decide) (by decide) (by decide) (by decide) dX3_joined_1 ?_
                                      refine fm_ldc2 (pc := 270) kc_3_48 dX3_joined_270 ?_
                                      refine fm_lret (pc := 273) rfl ?_ dX3_joined_273
                                      cases h
                                      exact hq
                                    · replace h := fm_itn s1_17 h
                                      by_cases s1_18 : a0 = 25
                                      · replace h := fm_itp s1_18 h
                                        refine fm_tswIn (pc := 1) 270 25 (269) (by rw [s1_18]; rfl) (by decide) (by decide) (by decide) (by decide) dX3_joined_1 ?_
                                        refine fm_ldc2 (pc := 270) kc_3_48 dX3_joined_270 ?_
                                        refine fm_lret (pc := 273) rfl ?_ dX3_joined_273
                                        cases h
                                        exact hq
                                      · replace h := fm_itn s1_18 h
                                        by_cases s1_19 : a0 = 26
                                        · replace h := fm_itp s1_19 h
                                          refine fm_tswIn (pc := 1) 270 26 (269) (by rw [s1_19]; rfl) (by decide) (by decide) (by decide) (by decide) dX3_joined_1 ?_
                                          refine fm_ldc2 (pc := 270) kc_3_48 dX3_joined_270 ?_
                                          refine fm_lret (pc := 273) rfl ?_ dX3_joined_273
                                          cases h
                                          exact hq
                                        · replace h := fm_itn s1_19 h
                                          by_cases s1_20 : a0 = 27
                                          · replace h := fm_itp s1_20 h
                                            refine fm_tswIn (pc := 1) 270 27 (269) (by rw [s1_20]; rfl) (by decide) (by decide) (by decide) (by decide) dX3_joined_1 ?_
                                            refine fm_ldc2 (pc := 270) kc_3_48 dX3_joined_270 ?_
                                            refine fm_lret (pc := 273) rfl ?_ dX3_joined_273
                                            cases h
                                            exact hq
                                          · replace h := fm_itn s1_20 h
                                            by_cases s1_21 : a0 = 28
                                            · replace h := fm_itp s1_21 h
                                              refine fm_tswIn (pc := 1) 270 28 (269) (by rw [s1_21]; rfl) (by decide) (by decide) (by decide) (by decide) dX3_joined_1 ?_
                                              refine fm_ldc2 (pc := 270) kc_3_48 dX3_joined_270 ?_
                                              refine fm_lret (pc := 273) rfl ?_ dX3_joined_273
                                              cases h
                                              exact hq
                                            · replace h := fm_itn s1_21 h
                                              by_cases s1_22 : a0 = 29
                                              · replace h := fm_itp s1_22 h
                                                refine fm_tswIn (pc := 1) 252 29 (251) (by rw [s1_22]; rfl) (by decide) (by decide) (by decide) (by decide) dX3_joined_1 ?_
                                                refine fl_lload1 (pc := 252) dX3_joined_252 ?_
                                                refine fm_lconstv (pc := 253) 0 (by decide) dX3_joined_253 ?_
                                                refine fm_lcmp (pc := 254) dX3_joined_254 ?_
                                                refine fm_if_ne (pc := 255) 264 (by decide) dX3_joined_255 (fun c255 => ?_) (fun c255 => ?_)
                                                · replace h := fm_itn c255 h
                                                  refine fm_lconstv (pc := 264) 1 (by decide) dX3_joined_264 ?_
                                                  refine fm_goto (pc := 265) 269 (by decide) dX3_joined_265 ?_
                                                  refine fm_lret (pc := 269) rfl ?_ dX3_joined_269
                                                  cases h
                                                  exact hq
                                                · replace h := fm_itp c255 h
                                                  refine fl_lload3 (pc := 258) dX3_joined_258 ?_
                                                  refine fm_lconstv (pc := 259) 0 (by decide) dX3_joined_259 ?_
                                                  refine fm_lcmp (pc := 260) dX3_joined_260 ?_
                                                  refine fm_if_eq (pc := 261) 268 (by decide) dX3_joined_261 (fun c261 => ?_) (fun c261 => ?_)
                                                  · replace h := fm_itp c261 h
                                                    refine fm_lconstv (pc := 268) 0 (by decide) dX3_joined_268 ?_
                                                    refine fm_lret (pc := 269) rfl ?_ dX3_joined_269
                                                    cases h
                                                    exact hq
                                                  · replace h := fm_itn c261 h
                                                    refine fm_lconstv (pc := 264) 1 (by decide) dX3_joined_264 ?_
                                                    refine fm_goto (pc := 265) 269 (by decide) dX3_joined_265 ?_
                                                    refine fm_lret (pc := 269) rfl ?_ dX3_joined_269
                                                    cases h
                                                    exact hq
                                              · replace h := fm_itn s1_22 h
                                                by_cases s1_23 : a0 = 30
                                                · replace h := fm_itp s1_23 h
                                                  refine fm_tswIn (pc := 1) 234 30 (233) (by rw [s1_23]; rfl) (by decide) (by decide) (by decide) (by decide) dX3_joined_1 ?_
                                                  refine fl_lload1 (pc := 234) dX3_joined_234 ?_
                                                  refine fm_lconstv (pc := 235) 0 (by decide) dX3_joined_235 ?_
                                                  refine fm_lcmp (pc := 236) dX3_joined_236 ?_
                                                  refine fm_if_eq (pc := 237) 250 (by decide) dX3_joined_237 (fun c237 => ?_) (fun c237 => ?_)
                                                  · replace h := fm_itp c237 h
                                                    refine fm_lconstv (pc := 250) 0 (by decide) dX3_joined_250 ?_
                                                    refine fm_lret (pc := 251) rfl ?_ dX3_joined_251
                                                    cases h
                                                    exact hq
                                                  · replace h := fm_itn c237 h
                                                    refine fl_lload3 (pc := 240) dX3_joined_240 ?_
                                                    refine fm_lconstv (pc := 241) 0 (by decide) dX3_joined_241 ?_
                                                    refine fm_lcmp (pc := 242) dX3_joined_242 ?_
                                                    refine fm_if_eq (pc := 243) 250 (by decide) dX3_joined_243 (fun c243 => ?_) (fun c243 => ?_)
                                                    · replace h := fm_itp c243 h
                                                      refine fm_lconstv (pc := 250) 0 (by decide) dX3_joined_250 ?_
                                                      refine fm_lret (pc := 251) rfl ?_ dX3_joined_251
                                                      cases h
                                                      exact hq
                                                    · replace h := fm_itn c243 h
                                                      refine fm_lconstv (pc := 246) 1 (by decide) dX3_joined_246 ?_
                                                      refine fm_goto (pc := 247) 251 (by decide) dX3_joined_247 ?_
                                                      refine fm_lret (pc := 251) rfl ?_ dX3_joined_251
                                                      cases h
                                                      exact hq
                                                · replace h := fm_itn s1_23 h
                                                  have q0 : ¬ Int32.toInt a0 = 7 := fun q => s1_0 (Int32.toInt_inj.mp (by rw [q]; rfl))
                                                  have q1 : ¬ Int32.toInt a0 = 8 := fun q => s1_1 (Int32.toInt_inj.mp (by rw [q]; rfl))
                                                  have q2 : ¬ Int32.toInt a0 = 9 := fun q => s1_2 (Int32.toInt_inj.mp (by rw [q]; rfl))
                                                  have q3 : ¬ Int32.toInt a0 = 10 := fun q => s1_3 (Int32.toInt_inj.mp (by rw [q]; rfl))
                                                  have q4 : ¬ Int32.toInt a0 = 11 := fun q => s1_4 (Int32.toInt_inj.mp (by rw [q]; rfl))
                                                  have q5 : ¬ Int32.toInt a0 = 12 := fun q => s1_5 (Int32.toInt_inj.mp (by rw [q]; rfl))
                                                  have q6 : ¬ Int32.toInt a0 = 13 := fun q => s1_6 (Int32.toInt_inj.mp (by rw [q]; rfl))
                                                  have q7 : ¬ Int32.toInt a0 = 14 := fun q => s1_7 (Int32.toInt_inj.mp (by rw [q]; rfl))
                                                  have q8 : ¬ Int32.toInt a0 = 15 := fun q => s1_8 (Int32.toInt_inj.mp (by rw [q]; rfl))
                                                  have q9 : ¬ Int32.toInt a0 = 16 := fun q => s1_9 (Int32.toInt_inj.mp (by rw [q]; rfl))
                                                  have q10 : ¬ Int32.toInt a0 = 17 := fun q => s1_10 (Int32.toInt_inj.mp (by rw [q]; rfl))
                                                  have q11 : ¬ Int32.toInt a0 = 18 := fun q => s1_11 (Int32.toInt_inj.mp (by rw [q]; rfl))
                                                  have q12 : ¬ Int32.toInt a0 = 19 := fun q => s1_12 (Int32.toInt_inj.mp (by rw [q]; rfl))
                                                  have q13 : ¬ Int32.toInt a0 = 20 := fun q => s1_13 (Int32.toInt_inj.mp (by rw [q]; rfl))
                                                  have q14 : ¬ Int32.toInt a0 = 21 := fun q => s1_14 (Int32.toInt_inj.mp (by rw [q]; rfl))
                                                  have q15 : ¬ Int32.toInt a0 = 22 := fun q => s1_15 (Int32.toInt_inj.mp (by rw [q]; rfl))
                                                  have q16 : ¬ Int32.toInt a0 = 23 := fun q => s1_16 (Int32.toInt_inj.mp (by rw [q]; rfl))
                                                  have q17 : ¬ Int32.toInt a0 = 24 := fun q => s1_17 (Int32.toInt_inj.mp (by rw [q]; rfl))
                                                  have q18 : ¬ Int32.toInt a0 = 25 := fun q => s1_18 (Int32.toInt_inj.mp (by rw [q]; rfl))
                                                  have q19 : ¬ Int32.toInt a0 = 26 := fun q => s1_19 (Int32.toInt_inj.mp (by rw [q]; rfl))
                                                  have q20 : ¬ Int32.toInt a0 = 27 := fun q => s1_20 (Int32.toInt_inj.mp (by rw [q]; rfl))
                                                  have q21 : ¬ Int32.toInt a0 = 28 := fun q => s1_21 (Int32.toInt_inj.mp (by rw [q]; rfl))
                                                  have q22 : ¬ Int32.toInt a0 = 29 := fun q => s1_22 (Int32.toInt_inj.mp (by rw [q]; rfl))
                                                  have q23 : ¬ Int32.toInt a0 = 30 := fun q => s1_23 (Int32.toInt_inj.mp (by rw [q]; rfl))
                                                  refine fm_tswOut (pc := 1) 270 (by omega) (by decide) dX3_joined_1 ?_
                                                  refine fm_ldc2 (pc := 270) kc_3_48 dX3_joined_270 ?_
                                                  refine fm_lret (pc := 273) rfl ?_ dX3_joined_273
                                                  cases h
                                                  exact hq
/-! X3_valueOf -/
def J_X3_valueOf_52 (rec : Int32 → Int32 → fm_M → Option (((Int32 × Int32) ⊕ Int64) × fm_M)) (a0 : Nat) (l1 : Int32) (l2 : Int32) (l3 : Int32) (l4 : Int32) (M : fm_M) : Option (((Int32 × Int32) ⊕ Int64) × fm_M) :=
    if l2 < 64 then (
      if l4 = 2 then (
        fm_gd (fm_inb l3 64) (
        fm_gd (fm_inb l2 64) (
        fm_lt (fm_upL M (a0 + 6) (Int32.toNatClampNeg l2) (Int32.toInt64 (M.1 (a0 + 4) (Int32.toNatClampNeg l3)))) (fun M13 =>
        rec (l2 + 1) (l3 + 1) M13)))
      ) else (
        fm_gd (fm_inb (i_rem (l4 - 32) 7) 7) (
        fm_gd (fm_inb l2 64) (
        fm_lt (fm_upL M (a0 + 6) (Int32.toNatClampNeg l2) (Int32.toInt64 (M.1 (a0 + 5) (Int32.toNatClampNeg (i_rem (l4 - 32) 7))))) (fun M10 =>
        rec (l2 + 1) (l3 + 1) M10)))
      )
    ) else (
      some (.inr (-9223372036854775808), M)
    )
def G_X3_valueOf_21 : Nat → Nat → Int32 → Int32 → Int32 → fm_M → Option (((Int32 × Int32) ⊕ Int64) × fm_M)
  | 0, _, _, _, _, _ => none
  | n + 1, a0, l1, l2, l3, M =>
    fm_gd (fm_inb l1 3) (
    if (M.1 (a0 + 2) (Int32.toNatClampNeg l1)) ≤ l3 then (
      some (.inl (l2, l3), M)
    ) else (
      fm_gd (fm_inb l3 64) (
      fm_lt ((M.1 (a0 + 3) (Int32.toNatClampNeg l3))) (fun x7 =>
      if x7 = 2 then (
        J_X3_valueOf_52 (G_X3_valueOf_21 n a0 l1) a0 l1 l2 l3 x7 M
      ) else (
        if x7 < 32 then (
          if x7 = 31 then (
            if 1 ≤ l2 then (
              fm_gd (fm_inb (l2 - 1) 64) (
              if (lg_cmp (M.2 (a0 + 6) (Int32.toNatClampNeg (l2 - 1))) 0) = 0 then (
                fm_gd (fm_inb (l2 - 1) 64) (
                fm_lt (fm_upL M (a0 + 6) (Int32.toNatClampNeg (l2 - 1)) 1) (fun M24 =>
                G_X3_valueOf_21 n a0 l1 l2 (l3 + 1) M24))
              ) else (
                fm_gd (fm_inb (l2 - 1) 64) (
                fm_lt (fm_upL M (a0 + 6) (Int32.toNatClampNeg (l2 - 1)) 0) (fun M22 =>
                G_X3_valueOf_21 n a0 l1 l2 (l3 + 1) M22))
              ))
            ) else (
              some (.inr (-9223372036854775808), M)
            )
          ) else (
            if 2 ≤ l2 then (
              fm_gd (fm_inb ((l2 + (-1)) - 1) 64) (
              fm_gd (fm_inb (l2 + (-1)) 64) (
              fm_bd (F_X3_joined x7 (M.2 (a0 + 6) (Int32.toNatClampNeg ((l2 + (-1)) - 1))) (M.2 (a0 + 6) (Int32.toNatClampNeg (l2 + (-1)))) M) (fun v16 M17 =>
              if 0 < (lg_cmp v16 1000000000000) then (
                some (.inr (-9223372036854775808), M17)
              ) else (
                if 0 ≤ (lg_cmp v16 (-1000000000000)) then (
                  fm_gd (fm_inb ((l2 + (-1)) - 1) 64) (
                  fm_lt (fm_upL M17 (a0 + 6) (Int32.toNatClampNeg ((l2 + (-1)) - 1)) v16) (fun M19 =>
                  G_X3_valueOf_21 n a0 l1 (l2 + (-1)) (l3 + 1) M19))
                ) else (
                  some (.inr (-9223372036854775808), M17)
                )
              ))))
            ) else (
              some (.inr (-9223372036854775808), M)
            )
          )
        ) else (
          J_X3_valueOf_52 (G_X3_valueOf_21 n a0 l1) a0 l1 l2 l3 x7 M
        )
      )))
    ))
def F_X3_valueOf (a0 : Nat) (a1 : Int32) (M : fm_M) : Option (Int64 × fm_M) :=
    fm_gd (fm_isLw a0) (
    fm_bd (F_X3_has a0 a1 M) (fun v1 M2 =>
    if v1 = 0 then (
      some ((-9223372036854775808), M2)
    ) else (
      fm_gd (fm_inb a1 3) (
      fm_lt ((M2.1 (a0 + 1) (Int32.toNatClampNeg a1))) (fun x4 =>
      fm_bs (G_X3_valueOf_21 fm_fuel a0 a1 0 x4 M2) (fun w25 M26 =>
        if w25.1 = 1 then (
          fm_gd (fm_inb 0 64) (
          some ((M26.2 (a0 + 6) (Int32.toNatClampNeg 0)), M26))
        ) else (
          some ((-9223372036854775808), M26)
        )) (fun r28 M => some (r28, M))))
    )))
theorem jn_X3_valueOf_52 {d : Nat} {Q : Option Value → fm_M → Prop} (rec : Int32 → Int32 → fm_M → Option (((Int32 × Int32) ⊕ Int64) × fm_M))  (a0 : Nat) (l1 : Int32) (l2 : Int32) (l3 : Int32) (l4 : Int32) {x : ((Int32 × Int32) ⊕ Int64) × fm_M} (ga0 : fm_isLw a0 = true) (ih : ∀ (l2 : Int32) (l3 : Int32) (M : fm_M), rec l2 l3 M = some x → fm_mw (d + 1) mX3_valueOf Q 21 [some (.ref a0), some (.int l1), some (.int l2), some (.int l3), none, none, none] [] M) (k1 : ∀ (v : Int32 × Int32) (M2 : fm_M), x = (.inl v, M2) → fm_mw (d + 1) mX3_valueOf Q 220 [some (.ref a0), some (.int l1), some (.int v.1), some (.int v.2), none, none, none] [] M2) (k2 : ∀ (r : Int64) (M2 : fm_M), x = (.inr r, M2) → Q (some (.long r)) M2) (M : fm_M) (h : J_X3_valueOf_52 rec a0 l1 l2 l3 l4 M = some x) : fm_mw (d + 1) mX3_valueOf Q 52 [some (.ref a0), some (.int l1), some (.int l2), some (.int l3), some (.int l4), none, none] [] M := by
  rw [J_X3_valueOf_52] at h
  refine fl_iload2 (pc := 52) dX3_valueOf_52 ?_
  refine fm_bipushv (pc := 53) 64 (by decide) dX3_valueOf_53 ?_
  refine fm_icmp_lt (pc := 55) 62 (by decide) dX3_valueOf_55 (fun c55 => ?_) (fun c55 => ?_)
  · replace h := fm_itp c55 h
    refine fl_aload0 (pc := 62) dX3_valueOf_62 ?_
    refine fm_getr (pc := 63) lk_3_27 (shLw0 ga0) rfl dX3_valueOf_63 ?_
    refine fl_iload2 (pc := 66) dX3_valueOf_66 ?_
    refine fl_iload4 (pc := 67) dX3_valueOf_67 ?_
    refine fm_iconstv (pc := 69) 2 (by decide) dX3_valueOf_69 ?_
    refine fm_icmp_ne (pc := 70) 83 (by decide) dX3_valueOf_70 (fun c70 => ?_) (fun c70 => ?_)
    · replace h := fm_itn c70 h
      refine fl_aload0 (pc := 83) dX3_valueOf_83 ?_
      refine fm_getr (pc := 84) lk_3_24 (shLw0 ga0) rfl dX3_valueOf_84 ?_
      refine fl_iload4 (pc := 87) dX3_valueOf_87 ?_
      refine fm_bipushv (pc := 89) 32 (by decide) dX3_valueOf_89 ?_
      refine fm_isub (pc := 91) dX3_valueOf_91 ?_
      refine fm_bipushv (pc := 92) 7 (by decide) dX3_valueOf_92 ?_
      refine fq_irem (pc := 94) (by decide) dX3_valueOf_94 ?_
      obtain ⟨g8, h⟩ := fm_gdp h
      refine fm_iald (pc := 95) (shLw5 ga0) (fm_inb_ok g8) dX3_valueOf_95 ?_
      refine fm_i2l (pc := 96) dX3_valueOf_96 ?_
      obtain ⟨g9, h⟩ := fm_gdp h
      refine fm_last (pc := 97) (shLw6 ga0) (fm_inb_ok g9) dX3_valueOf_97 ?_
      obtain ⟨M10, eM10, h⟩ := fm_ltp h
      refine fm_cgm eM10 ?_
      refine fl_iinc2 (pc := 98) rfl 1 (by decide) (by decide) dX3_valueOf_98 ?_
      refine fm_goto (pc := 101) 214 (by decide) dX3_valueOf_101 ?_
      refine fl_iinc3 (pc := 214) rfl 1 (by decide) (by decide) dX3_valueOf_214 ?_
      refine fm_goto (pc := 217) 21 (by decide) dX3_valueOf_217 ?_
      refine fm_fgt [some (.ref a0), some (.int l1), some (.int (l2 + 1)), some (.int (l3 + 1)), none, none, none] (by simp [fm_sub]) ?_
      exact ih _ _ _ h
    · replace h := fm_itp c70 h
      refine fl_aload0 (pc := 73) dX3_valueOf_73 ?_
      refine fm_getr (pc := 74) lk_3_21 (shLw0 ga0) rfl dX3_valueOf_74 ?_
      refine fl_iload3 (pc := 77) dX3_valueOf_77 ?_
      obtain ⟨g11, h⟩ := fm_gdp h
      refine fm_iald (pc := 78) (shLw4 ga0) (fm_inb_ok g11) dX3_valueOf_78 ?_
      refine fm_i2l (pc := 79) dX3_valueOf_79 ?_
      refine fm_goto (pc := 80) 97 (by decide) dX3_valueOf_80 ?_
      obtain ⟨g12, h⟩ := fm_gdp h
      refine fm_last (pc := 97) (shLw6 ga0) (fm_inb_ok g12) dX3_valueOf_97 ?_
      obtain ⟨M13, eM13, h⟩ := fm_ltp h
      refine fm_cgm eM13 ?_
      refine fl_iinc2 (pc := 98) rfl 1 (by decide) (by decide) dX3_valueOf_98 ?_
      refine fm_goto (pc := 101) 214 (by decide) dX3_valueOf_101 ?_
      refine fl_iinc3 (pc := 214) rfl 1 (by decide) (by decide) dX3_valueOf_214 ?_
      refine fm_goto (pc := 217) 21 (by decide) dX3_valueOf_217 ?_
      refine fm_fgt [some (.ref a0), some (.int l1), some (.int (l2 + 1)), some (.int (l3 + 1)), none, none, none] (by simp [fm_sub]) ?_
      exact ih _ _ _ h
  · replace h := fm_itn c55 h
    refine fm_ldc2 (pc := 58) kc_3_48 dX3_valueOf_58 ?_
    refine fm_lret (pc := 61) rfl ?_ dX3_valueOf_61
    cases h
    exact k2 _ _ rfl
theorem lp_X3_valueOf_21 {d : Nat} {Q : Option Value → fm_M → Prop} {l1 : Int32} {a0 : Nat} (ga0 : fm_isLw a0 = true) {x : ((Int32 × Int32) ⊕ Int64) × fm_M} (k1 : ∀ (v : Int32 × Int32) (M2 : fm_M), x = (.inl v, M2) → fm_mw (d + 1) mX3_valueOf Q 220 [some (.ref a0), some (.int l1), some (.int v.1), some (.int v.2), none, none, none] [] M2) (k2 : ∀ (r : Int64) (M2 : fm_M), x = (.inr r, M2) → Q (some (.long r)) M2) : ∀ (n : Nat) (l2 : Int32) (l3 : Int32) (M : fm_M), G_X3_valueOf_21 n a0 l1 l2 l3 M = some x → fm_mw (d + 1) mX3_valueOf Q 21 [some (.ref a0), some (.int l1), some (.int l2), some (.int l3), none, none, none] [] M := by
  intro n
  induction n with
  | zero => intro l2 l3 M h; simp [G_X3_valueOf_21] at h
  | succ n ih =>
    intro l2 l3 M h
    rw [G_X3_valueOf_21] at h
    refine fl_iload3 (pc := 21) dX3_valueOf_21 ?_
    refine fl_aload0 (pc := 22) dX3_valueOf_22 ?_
    refine fm_getr (pc := 23) lk_3_15 (shLw0 ga0) rfl dX3_valueOf_23 ?_
    refine fl_iload1 (pc := 26) dX3_valueOf_26 ?_
    obtain ⟨g5, h⟩ := fm_gdp h
    refine fm_iald (pc := 27) (shLw2 ga0) (fm_inb_ok g5) dX3_valueOf_27 ?_
    refine fm_icmp_ge (pc := 28) 220 (by decide) dX3_valueOf_28 (fun c28 => ?_) (fun c28 => ?_)
    · replace h := fm_itp c28 h
      refine fm_fgt [some (.ref a0), some (.int l1), some (.int l2), some (.int l3), none, none, none] (by simp [fm_sub]) ?_
      cases h
      exact k1 _ _ rfl
    · replace h := fm_itn c28 h
      refine fl_aload0 (pc := 31) dX3_valueOf_31 ?_
      refine fm_getr (pc := 32) lk_3_18 (shLw0 ga0) rfl dX3_valueOf_32 ?_
      refine fl_iload3 (pc := 35) dX3_valueOf_35 ?_
      obtain ⟨g6, h⟩ := fm_gdp h
      refine fm_iald (pc := 36) (shLw3 ga0) (fm_inb_ok g6) dX3_valueOf_36 ?_
      obtain ⟨x7, ex7, h⟩ := fm_ltp h
      refine fm_cgi ex7 ?_
      refine fl_istore4 (pc := 37) rfl (by decide) dX3_valueOf_37 ?_
      refine fl_iload4 (pc := 39) dX3_valueOf_39 ?_
      refine fm_iconstv (pc := 41) 2 (by decide) dX3_valueOf_41 ?_
      refine fm_icmp_eq (pc := 42) 52 (by decide) dX3_valueOf_42 (fun c42 => ?_) (fun c42 => ?_)
      · replace h := fm_itp c42 h
        exact jn_X3_valueOf_52 _ _ _ _ _ _ ga0 ih k1 k2 _ h
      · replace h := fm_itn c42 h
        refine fl_iload4 (pc := 45) dX3_valueOf_45 ?_
        refine fm_bipushv (pc := 47) 32 (by decide) dX3_valueOf_47 ?_
        refine fm_icmp_lt (pc := 49) 104 (by decide) dX3_valueOf_49 (fun c49 => ?_) (fun c49 => ?_)
        · replace h := fm_itp c49 h
          refine fl_iload4 (pc := 104) dX3_valueOf_104 ?_
          refine fm_bipushv (pc := 106) 31 (by decide) dX3_valueOf_106 ?_
          refine fm_icmp_ne (pc := 108) 149 (by decide) dX3_valueOf_108 (fun c108 => ?_) (fun c108 => ?_)
          · replace h := fm_itn c108 h
            refine fl_iload2 (pc := 149) dX3_valueOf_149 ?_
            refine fm_iconstv (pc := 150) 2 (by decide) dX3_valueOf_150 ?_
            refine fm_icmp_ge (pc := 151) 158 (by decide) dX3_valueOf_151 (fun c151 => ?_) (fun c151 => ?_)
            · replace h := fm_itp c151 h
              refine fl_iinc2 (pc := 158) rfl (-1) (by decide) (by decide) dX3_valueOf_158 ?_
              refine fl_iload4 (pc := 161) dX3_valueOf_161 ?_
              refine fl_aload0 (pc := 163) dX3_valueOf_163 ?_
              refine fm_getr (pc := 164) lk_3_27 (shLw0 ga0) rfl dX3_valueOf_164 ?_
              refine fl_iload2 (pc := 167) dX3_valueOf_167 ?_
              refine fm_iconstv (pc := 168) 1 (by decide) dX3_valueOf_168 ?_
              refine fm_isub (pc := 169) dX3_valueOf_169 ?_
              obtain ⟨g14, h⟩ := fm_gdp h
              refine fm_lald (pc := 170) (shLw6 ga0) (fm_inb_ok g14) dX3_valueOf_170 ?_
              refine fl_aload0 (pc := 171) dX3_valueOf_171 ?_
              refine fm_getr (pc := 172) lk_3_27 (shLw0 ga0) rfl dX3_valueOf_172 ?_
              refine fl_iload2 (pc := 175) dX3_valueOf_175 ?_
              obtain ⟨g15, h⟩ := fm_gdp h
              refine fm_lald (pc := 176) (shLw6 ga0) (fm_inb_ok g15) dX3_valueOf_176 ?_
              obtain ⟨v16, M17, ev16, h⟩ := fm_bdp h
              refine fm_callS (pc := 177) mX3_joined [_, _, _] _ rfl csX3_joined ml_3_50 rfl (Nat.le_of_ble_eq_true rfl) (Nat.le_of_ble_eq_true rfl) dX3_valueOf_177 ?_
              refine sp_X3_joined ev16 ?_
              refine fm_ret1 ?_
              refine fl_lstore5 (pc := 180) rfl (by decide) dX3_valueOf_180 ?_
              refine fl_lload5 (pc := 182) dX3_valueOf_182 ?_
              refine fm_ldc2 (pc := 184) kc_3_54 dX3_valueOf_184 ?_
              refine fm_lcmp (pc := 187) dX3_valueOf_187 ?_
              refine fm_if_gt (pc := 188) 200 (by decide) dX3_valueOf_188 (fun c188 => ?_) (fun c188 => ?_)
              · replace h := fm_itp c188 h
                refine fm_ldc2 (pc := 200) kc_3_48 dX3_valueOf_200 ?_
                refine fm_lret (pc := 203) rfl ?_ dX3_valueOf_203
                cases h
                exact k2 _ _ rfl
              · replace h := fm_itn c188 h
                refine fl_lload5 (pc := 191) dX3_valueOf_191 ?_
                refine fm_ldc2 (pc := 193) kc_3_56 dX3_valueOf_193 ?_
                refine fm_lcmp (pc := 196) dX3_valueOf_196 ?_
                refine fm_if_ge (pc := 197) 204 (by decide) dX3_valueOf_197 (fun c197 => ?_) (fun c197 => ?_)
                · replace h := fm_itp c197 h
                  refine fl_aload0 (pc := 204) dX3_valueOf_204 ?_
                  refine fm_getr (pc := 205) lk_3_27 (shLw0 ga0) rfl dX3_valueOf_205 ?_
                  refine fl_iload2 (pc := 208) dX3_valueOf_208 ?_
                  refine fm_iconstv (pc := 209) 1 (by decide) dX3_valueOf_209 ?_
                  refine fm_isub (pc := 210) dX3_valueOf_210 ?_
                  refine fl_lload5 (pc := 211) dX3_valueOf_211 ?_
                  obtain ⟨g18, h⟩ := fm_gdp h
                  refine fm_last (pc := 213) (shLw6 ga0) (fm_inb_ok g18) dX3_valueOf_213 ?_
                  obtain ⟨M19, eM19, h⟩ := fm_ltp h
                  refine fm_cgm eM19 ?_
                  refine fl_iinc3 (pc := 214) rfl 1 (by decide) (by decide) dX3_valueOf_214 ?_
                  refine fm_goto (pc := 217) 21 (by decide) dX3_valueOf_217 ?_
                  refine fm_fgt [some (.ref a0), some (.int l1), some (.int (l2 + (-1))), some (.int (l3 + 1)), none, none, none] (by simp [fm_sub]) ?_
                  exact ih _ _ _ h
                · replace h := fm_itn c197 h
                  refine fm_ldc2 (pc := 200) kc_3_48 dX3_valueOf_200 ?_
                  refine fm_lret (pc := 203) rfl ?_ dX3_valueOf_203
                  cases h
                  exact k2 _ _ rfl
            · replace h := fm_itn c151 h
              refine fm_ldc2 (pc := 154) kc_3_48 dX3_valueOf_154 ?_
              refine fm_lret (pc := 157) rfl ?_ dX3_valueOf_157
              cases h
              exact k2 _ _ rfl
          · replace h := fm_itp c108 h
            refine fl_iload2 (pc := 111) dX3_valueOf_111 ?_
            refine fm_iconstv (pc := 112) 1 (by decide) dX3_valueOf_112 ?_
            refine fm_icmp_ge (pc := 113) 120 (by decide) dX3_valueOf_113 (fun c113 => ?_) (fun c113 => ?_)
            · replace h := fm_itp c113 h
              refine fl_aload0 (pc := 120) dX3_valueOf_120 ?_
              refine fm_getr (pc := 121) lk_3_27 (shLw0 ga0) rfl dX3_valueOf_121 ?_
              refine fl_iload2 (pc := 124) dX3_valueOf_124 ?_
              refine fm_iconstv (pc := 125) 1 (by decide) dX3_valueOf_125 ?_
              refine fm_isub (pc := 126) dX3_valueOf_126 ?_
              refine fl_aload0 (pc := 127) dX3_valueOf_127 ?_
              refine fm_getr (pc := 128) lk_3_27 (shLw0 ga0) rfl dX3_valueOf_128 ?_
              refine fl_iload2 (pc := 131) dX3_valueOf_131 ?_
              refine fm_iconstv (pc := 132) 1 (by decide) dX3_valueOf_132 ?_
              refine fm_isub (pc := 133) dX3_valueOf_133 ?_
              obtain ⟨g20, h⟩ := fm_gdp h
              refine fm_lald (pc := 134) (shLw6 ga0) (fm_inb_ok g20) dX3_valueOf_134 ?_
              refine fm_lconstv (pc := 135) 0 (by decide) dX3_valueOf_135 ?_
              refine fm_lcmp (pc := 136) dX3_valueOf_136 ?_
              refine fm_if_ne (pc := 137) 144 (by decide) dX3_valueOf_137 (fun c137 => ?_) (fun c137 => ?_)
              · replace h := fm_itn c137 h
                refine fm_lconstv (pc := 144) 0 (by decide) dX3_valueOf_144 ?_
                obtain ⟨g21, h⟩ := fm_gdp h
                refine fm_last (pc := 145) (shLw6 ga0) (fm_inb_ok g21) dX3_valueOf_145 ?_
                obtain ⟨M22, eM22, h⟩ := fm_ltp h
                refine fm_cgm eM22 ?_
                refine fm_goto (pc := 146) 214 (by decide) dX3_valueOf_146 ?_
                refine fl_iinc3 (pc := 214) rfl 1 (by decide) (by decide) dX3_valueOf_214 ?_
                refine fm_goto (pc := 217) 21 (by decide) dX3_valueOf_217 ?_
                refine fm_fgt [some (.ref a0), some (.int l1), some (.int l2), some (.int (l3 + 1)), none, none, none] (by simp [fm_sub]) ?_
                exact ih _ _ _ h
              · replace h := fm_itp c137 h
                refine fm_lconstv (pc := 140) 1 (by decide) dX3_valueOf_140 ?_
                refine fm_goto (pc := 141) 145 (by decide) dX3_valueOf_141 ?_
                obtain ⟨g23, h⟩ := fm_gdp h
                refine fm_last (pc := 145) (shLw6 ga0) (fm_inb_ok g23) dX3_valueOf_145 ?_
                obtain ⟨M24, eM24, h⟩ := fm_ltp h
                refine fm_cgm eM24 ?_
                refine fm_goto (pc := 146) 214 (by decide) dX3_valueOf_146 ?_
                refine fl_iinc3 (pc := 214) rfl 1 (by decide) (by decide) dX3_valueOf_214 ?_
                refine fm_goto (pc := 217) 21 (by decide) dX3_valueOf_217 ?_
                refine fm_fgt [some (.ref a0), some (.int l1), some (.int l2), some (.int (l3 + 1)), none, none, none] (by simp [fm_sub]) ?_
                exact ih _ _ _ h
            · replace h := fm_itn c113 h
              refine fm_ldc2 (pc := 116) kc_3_48 dX3_valueOf_116 ?_
              refine fm_lret (pc := 119) rfl ?_ dX3_valueOf_119
              cases h
              exact k2 _ _ rfl
        · replace h := fm_itn c49 h
          exact jn_X3_valueOf_52 _ _ _ _ _ _ ga0 ih k1 k2 _ h
theorem sp_X3_valueOf {d : Nat} {a0 : Nat} {a1 : Int32} {M : fm_M} {x : Int64 × fm_M} {Q : Option Value → fm_M → Prop} (h : F_X3_valueOf a0 a1 M = some x) (hq : Q (some (.long x.1)) x.2) : fm_ct (d + 1) mX3_valueOf [.ref a0, .int a1] M Q := by
  rw [F_X3_valueOf] at h
  show fm_mw (d + 1) mX3_valueOf Q 0 [some (.ref a0), some (.int a1), none, none, none, none, none] [] M
  obtain ⟨ga0, h⟩ := fm_gdp h
  refine fl_aload0 (pc := 0) dX3_valueOf_0 ?_
  refine fl_iload1 (pc := 1) dX3_valueOf_1 ?_
  obtain ⟨v1, M2, ev1, h⟩ := fm_bdp h
  refine fm_callV (pc := 2) mX3_has [_] _ rfl cvX3_has ml_3_44 (shLw0 ga0) rfl rfl (Nat.le_of_ble_eq_true rfl) (Nat.le_of_ble_eq_true rfl) dX3_valueOf_2 ?_
  refine sp_X3_has ev1 ?_
  refine fm_ret1 ?_
  refine fm_if_ne (pc := 5) 12 (by decide) dX3_valueOf_5 (fun c5 => ?_) (fun c5 => ?_)
  · replace h := fm_itn c5 h
    refine fm_iconstv (pc := 12) 0 (by decide) dX3_valueOf_12 ?_
    refine fl_istore2 (pc := 13) rfl (by decide) dX3_valueOf_13 ?_
    refine fl_aload0 (pc := 14) dX3_valueOf_14 ?_
    refine fm_getr (pc := 15) lk_3_9 (shLw0 ga0) rfl dX3_valueOf_15 ?_
    refine fl_iload1 (pc := 18) dX3_valueOf_18 ?_
    obtain ⟨g3, h⟩ := fm_gdp h
    refine fm_iald (pc := 19) (shLw1 ga0) (fm_inb_ok g3) dX3_valueOf_19 ?_
    obtain ⟨x4, ex4, h⟩ := fm_ltp h
    refine fm_cgi ex4 ?_
    refine fl_istore3 (pc := 20) rfl (by decide) dX3_valueOf_20 ?_
    obtain ⟨w9, M26, ew25, hl9, hr9⟩ := fm_bsp h
    refine lp_X3_valueOf_21 ga0 ?_ ?_ _ _ _ _ ew25
    · intro w25 M9 q9
      cases q9
      replace h := hl9 _ rfl
      refine fl_iload2 (pc := 220) dX3_valueOf_220 ?_
      refine fm_iconstv (pc := 221) 1 (by decide) dX3_valueOf_221 ?_
      refine fm_icmp_ne (pc := 222) 234 (by decide) dX3_valueOf_222 (fun c222 => ?_) (fun c222 => ?_)
      · replace h := fm_itn c222 h
        refine fm_ldc2 (pc := 234) kc_3_48 dX3_valueOf_234 ?_
        refine fm_lret (pc := 237) rfl ?_ dX3_valueOf_237
        cases h
        exact hq
      · replace h := fm_itp c222 h
        refine fl_aload0 (pc := 225) dX3_valueOf_225 ?_
        refine fm_getr (pc := 226) lk_3_27 (shLw0 ga0) rfl dX3_valueOf_226 ?_
        refine fm_iconstv (pc := 229) 0 (by decide) dX3_valueOf_229 ?_
        obtain ⟨g27, h⟩ := fm_gdp h
        refine fm_lald (pc := 230) (shLw6 ga0) (fm_inb_ok g27) dX3_valueOf_230 ?_
        refine fm_goto (pc := 231) 237 (by decide) dX3_valueOf_231 ?_
        refine fm_lret (pc := 237) rfl ?_ dX3_valueOf_237
        cases h
        exact hq
    · intro r9 M9 q9
      cases q9
      replace h := hr9 _ rfl
      cases h
      exact hq
  · replace h := fm_itp c5 h
    refine fm_ldc2 (pc := 8) kc_3_48 dX3_valueOf_8 ?_
    refine fm_lret (pc := 11) rfl ?_ dX3_valueOf_11
    cases h
    exact hq
/-! X7_passLaw -/
def F_X7_passLaw (a0 : Nat) (a1 : Nat) (a2 : Int32) (a3 : Int32) (M : fm_M) : Option (Int64 × fm_M) :=
    fm_gd (fm_isSt a0) (
    fm_gd (fm_isTd a1) (
    fm_bd (F_X3_has (a1 + 10) 2 M) (fun v1 M2 =>
    if v1 = 0 then (
      some ((-9223372036854775808), M2)
    ) else (
      fm_bd (F_X3_name (a1 + 10) 0 a2 0 a3 0 (M2.1 a0 1) (M2.1 a0 0) M2) (fun v3 M4 =>
      fm_bd (F_X3_valueOf (a1 + 10) 2 M4) (fun v5 M6 =>
      some (v5, M6)))
    ))))
theorem sp_X7_passLaw {d : Nat} {a0 : Nat} {a1 : Nat} {a2 : Int32} {a3 : Int32} {M : fm_M} {x : Int64 × fm_M} {Q : Option Value → fm_M → Prop} (h : F_X7_passLaw a0 a1 a2 a3 M = some x) (hq : Q (some (.long x.1)) x.2) : fm_ct (d + 2) mX7_passLaw [.ref a0, .ref a1, .int a2, .int a3] M Q := by
  rw [F_X7_passLaw] at h
  show fm_mw (d + 2) mX7_passLaw Q 0 [some (.ref a0), some (.ref a1), some (.int a2), some (.int a3)] [] M
  obtain ⟨ga0, h⟩ := fm_gdp h
  obtain ⟨ga1, h⟩ := fm_gdp h
  refine fl_aload1 (pc := 0) dX7_passLaw_0 ?_
  refine fm_getr (pc := 1) lk_7_102 (shTd0 ga1) rfl dX7_passLaw_1 ?_
  refine fm_iconstv (pc := 4) 2 (by decide) dX7_passLaw_4 ?_
  obtain ⟨v1, M2, ev1, h⟩ := fm_bdp h
  refine fm_callV (pc := 5) mX3_has [_] _ rfl cvX3_has ml_7_106 (shTd10 ga1) rfl rfl (Nat.le_of_ble_eq_true rfl) (Nat.le_of_ble_eq_true rfl) dX7_passLaw_5 ?_
  refine sp_X3_has ev1 ?_
  refine fm_ret1 ?_
  refine fm_if_ne (pc := 8) 15 (by decide) dX7_passLaw_8 (fun c8 => ?_) (fun c8 => ?_)
  · replace h := fm_itn c8 h
    refine fl_aload1 (pc := 15) dX7_passLaw_15 ?_
    refine fm_getr (pc := 16) lk_7_102 (shTd0 ga1) rfl dX7_passLaw_16 ?_
    refine fm_iconstv (pc := 19) 0 (by decide) dX7_passLaw_19 ?_
    refine fl_iload2 (pc := 20) dX7_passLaw_20 ?_
    refine fm_iconstv (pc := 21) 0 (by decide) dX7_passLaw_21 ?_
    refine fl_iload3 (pc := 22) dX7_passLaw_22 ?_
    refine fm_iconstv (pc := 23) 0 (by decide) dX7_passLaw_23 ?_
    refine fl_aload0 (pc := 24) dX7_passLaw_24 ?_
    refine fm_geti (pc := 25) lk_7_50 (shSt0 ga0) rfl dX7_passLaw_25 ?_
    refine fl_aload0 (pc := 28) dX7_passLaw_28 ?_
    refine fm_geti (pc := 29) lk_7_41 (shSt0 ga0) rfl dX7_passLaw_29 ?_
    obtain ⟨v3, M4, ev3, h⟩ := fm_bdp h
    refine fm_callV (pc := 32) mX3_name [_, _, _, _, _, _, _] _ rfl cvX3_name ml_7_116 (shTd10 ga1) rfl rfl (Nat.le_of_ble_eq_true rfl) (Nat.le_of_ble_eq_true rfl) dX7_passLaw_32 ?_
    refine sp_X3_name ev3 ?_
    refine fm_ret0 ?_
    refine fl_aload1 (pc := 35) dX7_passLaw_35 ?_
    refine fm_getr (pc := 36) lk_7_102 (shTd0 ga1) rfl dX7_passLaw_36 ?_
    refine fm_iconstv (pc := 39) 2 (by decide) dX7_passLaw_39 ?_
    obtain ⟨v5, M6, ev5, h⟩ := fm_bdp h
    refine fm_callV (pc := 40) mX3_valueOf [_] _ rfl cvX3_valueOf ml_7_120 (shTd10 ga1) rfl rfl (Nat.le_of_ble_eq_true rfl) (Nat.le_of_ble_eq_true rfl) dX7_passLaw_40 ?_
    refine sp_X3_valueOf ev5 ?_
    refine fm_ret1 ?_
    refine fm_lret (pc := 43) rfl ?_ dX7_passLaw_43
    cases h
    exact hq
  · replace h := fm_itp c8 h
    refine fm_ldc2 (pc := 11) kc_7_111 dX7_passLaw_11 ?_
    refine fm_lret (pc := 14) rfl ?_ dX7_passLaw_14
    cases h
    exact hq
/-! X7_passes -/
def F_X7_passes (a0 : Nat) (a1 : Nat) (a2 : Int32) (a3 : Int32) (M : fm_M) : Option (Int32 × fm_M) :=
    fm_gd (fm_isSt a0) (
    fm_gd (fm_isTd a1) (
    fm_bd (F_X7_passLaw a0 a1 a2 a3 M) (fun v1 M2 =>
    if (lg_cmp v1 (-9223372036854775808)) = 0 then (
      if a3 < (M2.1 a1 13) then (
        some (0, M2)
      ) else (
        some (1, M2)
      )
    ) else (
      if (lg_cmp v1 0) = 0 then (
        some (0, M2)
      ) else (
        some (1, M2)
      )
    ))))
theorem sp_X7_passes {d : Nat} {a0 : Nat} {a1 : Nat} {a2 : Int32} {a3 : Int32} {M : fm_M} {x : Int32 × fm_M} {Q : Option Value → fm_M → Prop} (h : F_X7_passes a0 a1 a2 a3 M = some x) (hq : Q (some (.int x.1)) x.2) : fm_ct (d + 3) mX7_passes [.ref a0, .ref a1, .int a2, .int a3] M Q := by
  rw [F_X7_passes] at h
  show fm_mw (d + 3) mX7_passes Q 0 [some (.ref a0), some (.ref a1), some (.int a2), some (.int a3), none, none] [] M
  obtain ⟨ga0, h⟩ := fm_gdp h
  obtain ⟨ga1, h⟩ := fm_gdp h
  refine fl_aload0 (pc := 0) dX7_passes_0 ?_
  refine fl_aload1 (pc := 1) dX7_passes_1 ?_
  refine fl_iload2 (pc := 2) dX7_passes_2 ?_
  refine fl_iload3 (pc := 3) dX7_passes_3 ?_
  obtain ⟨v1, M2, ev1, h⟩ := fm_bdp h
  refine fm_callV (pc := 4) mX7_passLaw [_, _, _] _ rfl cvX7_passLaw ml_7_145 (shSt0 ga0) rfl rfl (Nat.le_of_ble_eq_true rfl) (Nat.le_of_ble_eq_true rfl) dX7_passes_4 ?_
  refine sp_X7_passLaw ev1 ?_
  refine fm_ret1 ?_
  refine fl_lstore4 (pc := 7) rfl (by decide) dX7_passes_7 ?_
  refine fl_lload4 (pc := 9) dX7_passes_9 ?_
  refine fm_ldc2 (pc := 11) kc_7_111 dX7_passes_11 ?_
  refine fm_lcmp (pc := 14) dX7_passes_14 ?_
  refine fm_if_ne (pc := 15) 34 (by decide) dX7_passes_15 (fun c15 => ?_) (fun c15 => ?_)
  · replace h := fm_itn c15 h
    refine fl_lload4 (pc := 34) dX7_passes_34 ?_
    refine fm_lconstv (pc := 36) 0 (by decide) dX7_passes_36 ?_
    refine fm_lcmp (pc := 37) dX7_passes_37 ?_
    refine fm_if_eq (pc := 38) 45 (by decide) dX7_passes_38 (fun c38 => ?_) (fun c38 => ?_)
    · replace h := fm_itp c38 h
      refine fm_iconstv (pc := 45) 0 (by decide) dX7_passes_45 ?_
      refine fm_zret (pc := 46) rfl (by decide) ?_ dX7_passes_46
      cases h
      exact hq
    · replace h := fm_itn c38 h
      refine fm_iconstv (pc := 41) 1 (by decide) dX7_passes_41 ?_
      refine fm_goto (pc := 42) 46 (by decide) dX7_passes_42 ?_
      refine fm_zret (pc := 46) rfl (by decide) ?_ dX7_passes_46
      cases h
      exact hq
  · replace h := fm_itp c15 h
    refine fl_iload3 (pc := 18) dX7_passes_18 ?_
    refine fl_aload1 (pc := 19) dX7_passes_19 ?_
    refine fm_geti (pc := 20) lk_7_148 (shTd0 ga1) rfl dX7_passes_20 ?_
    refine fm_icmp_lt (pc := 23) 30 (by decide) dX7_passes_23 (fun c23 => ?_) (fun c23 => ?_)
    · replace h := fm_itp c23 h
      refine fm_iconstv (pc := 30) 0 (by decide) dX7_passes_30 ?_
      refine fm_goto (pc := 31) 46 (by decide) dX7_passes_31 ?_
      refine fm_zret (pc := 46) rfl (by decide) ?_ dX7_passes_46
      cases h
      exact hq
    · replace h := fm_itn c23 h
      refine fm_iconstv (pc := 26) 1 (by decide) dX7_passes_26 ?_
      refine fm_goto (pc := 27) 46 (by decide) dX7_passes_27 ?_
      refine fm_zret (pc := 46) rfl (by decide) ?_ dX7_passes_46
      cases h
      exact hq
/-! X0_carriedBy -/
def G_X0_carriedBy_17 : Nat → Nat → Nat → Int32 → Int32 → Int32 → Int32 → Int32 → fm_M → Option ((Int32 × Int32 × Int32) × fm_M)
  | 0, _, _, _, _, _, _, _, _ => none
  | n + 1, a2, a3, l1, l4, l5, l6, l7, M =>
    if l7 < 0 then (
      some ((l5, l6, l7), M)
    ) else (
      fm_gd (fm_inb ((l7 * 9) + (i_rem l6 9)) 36) (
      fm_lt ((l5 + (M.1 67 (Int32.toNatClampNeg ((l7 * 9) + (i_rem l6 9)))))) (fun x4 =>
      fm_lt ((l6 / 9)) (fun x5 =>
      G_X0_carriedBy_17 n a2 a3 l1 l4 x4 x5 (l7 + (-1)) M)))
    )
def J_X0_carriedBy_115 (a2 : Nat) (a3 : Nat) (l1 : Int32) (l4 : Int32) (l5 : Int32) (l6 : Int32) (l7 : Int32) (M : fm_M) : Option (Int32 × fm_M) :=
    fm_gd (fm_inb l5 793) (
    if (M.1 68 (Int32.toNatClampNeg l5)) = 1 then (
      some (1, M)
    ) else (
      some (0, M)
    ))
def J_X0_carriedBy_114 (a2 : Nat) (a3 : Nat) (l1 : Int32) (l4 : Int32) (l5 : Int32) (l6 : Int32) (l7 : Int32) (s1 : Int32) (s2 : Int32) (M : fm_M) : Option (Int32 × fm_M) :=
    fm_gd (fm_inb s1 793) (
    fm_lt (fm_up M 68 (Int32.toNatClampNeg s1) s2) (fun M16 =>
    J_X0_carriedBy_115 a2 a3 l1 l4 l5 l6 l7 M16))
def F_X0_carriedBy (a1 : Int32) (a2 : Nat) (a3 : Nat) (a4 : Int32) (M : fm_M) : Option (Int32 × fm_M) :=
    fm_gd (fm_isTd a2) (
    fm_gd (fm_isSt a3) (
    fm_lt ((M.1 66 4)) (fun x1 =>
    fm_lt (((M.1 66 3) - 1)) (fun x2 =>
    fm_bd (G_X0_carriedBy_17 fm_fuel a2 a3 a1 a4 x1 a1 x2 M) (fun w6 M7 =>
      if w6.1 < 0 then (
        fm_bd (F_X7_passes a3 a2 a4 w6.1 M7) (fun v8 M9 =>
        fm_gd (fm_z01 v8) (
        some (v8, M9)))
      ) else (
        if w6.1 < (nI 793) then (
          fm_gd (fm_inb w6.1 793) (
          if (M7.1 68 (Int32.toNatClampNeg w6.1)) = 0 then (
            fm_bd (F_X7_passes a3 a2 a4 w6.1 M7) (fun v13 M14 =>
            if v13 = 0 then (
              J_X0_carriedBy_114 a2 a3 a1 a4 w6.1 w6.2.1 w6.2.2 w6.1 2 M14
            ) else (
              J_X0_carriedBy_114 a2 a3 a1 a4 w6.1 w6.2.1 w6.2.2 w6.1 1 M14
            ))
          ) else (
            J_X0_carriedBy_115 a2 a3 a1 a4 w6.1 w6.2.1 w6.2.2 M7
          ))
        ) else (
          fm_bd (F_X7_passes a3 a2 a4 w6.1 M7) (fun v17 M18 =>
          fm_gd (fm_z01 v17) (
          some (v17, M18)))
        )
      ))))))
theorem lp_X0_carriedBy_17 {d : Nat} {Q : Option Value → fm_M → Prop} {l1 : Int32} {l4 : Int32} {a2 : Nat} {a3 : Nat} (ga2 : fm_isTd a2 = true) (ga3 : fm_isSt a3 = true) {x : (Int32 × Int32 × Int32) × fm_M} (k1 : ∀ (v : Int32 × Int32 × Int32) (M2 : fm_M), x = (v, M2) → fm_mw (d + 4) mX0_carriedBy Q 56 [some (.ref 66), some (.int l1), some (.ref a2), some (.ref a3), some (.int l4), some (.int v.1), some (.int v.2.1), some (.int v.2.2)] [] M2) : ∀ (n : Nat) (l5 : Int32) (l6 : Int32) (l7 : Int32) (M : fm_M), G_X0_carriedBy_17 n a2 a3 l1 l4 l5 l6 l7 M = some x → fm_mw (d + 4) mX0_carriedBy Q 17 [some (.ref 66), some (.int l1), some (.ref a2), some (.ref a3), some (.int l4), some (.int l5), some (.int l6), some (.int l7)] [] M := by
  intro n
  induction n with
  | zero => intro l5 l6 l7 M h; simp [G_X0_carriedBy_17] at h
  | succ n ih =>
    intro l5 l6 l7 M h
    rw [G_X0_carriedBy_17] at h
    refine fl_iload7 (pc := 17) dX0_carriedBy_17 ?_
    refine fm_if_lt (pc := 19) 56 (by decide) dX0_carriedBy_19 (fun c19 => ?_) (fun c19 => ?_)
    · replace h := fm_itp c19 h
      refine fm_fgt [some (.ref 66), some (.int l1), some (.ref a2), some (.ref a3), some (.int l4), some (.int l5), some (.int l6), some (.int l7)] (by simp [fm_sub]) ?_
      cases h
      exact k1 _ _ rfl
    · replace h := fm_itn c19 h
      refine fl_iload5 (pc := 22) dX0_carriedBy_22 ?_
      refine fl_aload0 (pc := 24) dX0_carriedBy_24 ?_
      refine fm_getr (pc := 25) lk_0_11 sh_66 rfl dX0_carriedBy_25 ?_
      refine fl_iload7 (pc := 28) dX0_carriedBy_28 ?_
      refine fm_bipushv (pc := 30) 9 (by decide) dX0_carriedBy_30 ?_
      refine fm_imul (pc := 32) dX0_carriedBy_32 ?_
      refine fl_iload6 (pc := 33) dX0_carriedBy_33 ?_
      refine fm_bipushv (pc := 35) 9 (by decide) dX0_carriedBy_35 ?_
      refine fq_irem (pc := 37) (by decide) dX0_carriedBy_37 ?_
      refine fm_iadd (pc := 38) dX0_carriedBy_38 ?_
      obtain ⟨g3, h⟩ := fm_gdp h
      refine fm_iald (pc := 39) sh_67 (fm_inb_ok g3) dX0_carriedBy_39 ?_
      refine fm_iadd (pc := 40) dX0_carriedBy_40 ?_
      obtain ⟨x4, ex4, h⟩ := fm_ltp h
      refine fm_cgi ex4 ?_
      refine fl_istore5 (pc := 41) rfl (by decide) dX0_carriedBy_41 ?_
      refine fl_iload6 (pc := 43) dX0_carriedBy_43 ?_
      refine fm_bipushv (pc := 45) 9 (by decide) dX0_carriedBy_45 ?_
      refine fm_idiv (pc := 47) (by decide) dX0_carriedBy_47 ?_
      obtain ⟨x5, ex5, h⟩ := fm_ltp h
      refine fm_cgi ex5 ?_
      refine fl_istore6 (pc := 48) rfl (by decide) dX0_carriedBy_48 ?_
      refine fl_iinc7 (pc := 50) rfl (-1) (by decide) (by decide) dX0_carriedBy_50 ?_
      refine fm_goto (pc := 53) 17 (by decide) dX0_carriedBy_53 ?_
      refine fm_fgt [some (.ref 66), some (.int l1), some (.ref a2), some (.ref a3), some (.int l4), some (.int x4), some (.int x5), some (.int (l7 + (-1)))] (by simp [fm_sub]) ?_
      exact ih _ _ _ _ h
theorem jn_X0_carriedBy_115 {d : Nat} {Q : Option Value → fm_M → Prop}  (a2 : Nat) (a3 : Nat) (l1 : Int32) (l4 : Int32) (l5 : Int32) (l6 : Int32) (l7 : Int32) {x : Int32 × fm_M} (ga2 : fm_isTd a2 = true) (ga3 : fm_isSt a3 = true) (hq : Q (some (.int x.1)) x.2) (M : fm_M) (h : J_X0_carriedBy_115 a2 a3 l1 l4 l5 l6 l7 M = some x) : fm_mw (d + 4) mX0_carriedBy Q 115 [some (.ref 66), some (.int l1), some (.ref a2), some (.ref a3), some (.int l4), some (.int l5), some (.int l6), some (.int l7)] [] M := by
  rw [J_X0_carriedBy_115] at h
  refine fl_aload0 (pc := 115) dX0_carriedBy_115 ?_
  refine fm_getr (pc := 116) lk_0_15 sh_66 rfl dX0_carriedBy_116 ?_
  refine fl_iload5 (pc := 119) dX0_carriedBy_119 ?_
  obtain ⟨g12, h⟩ := fm_gdp h
  refine fm_iald (pc := 121) sh_68 (fm_inb_ok g12) dX0_carriedBy_121 ?_
  refine fm_iconstv (pc := 122) 1 (by decide) dX0_carriedBy_122 ?_
  refine fm_icmp_ne (pc := 123) 130 (by decide) dX0_carriedBy_123 (fun c123 => ?_) (fun c123 => ?_)
  · replace h := fm_itn c123 h
    refine fm_iconstv (pc := 130) 0 (by decide) dX0_carriedBy_130 ?_
    refine fm_zret (pc := 131) rfl (by decide) ?_ dX0_carriedBy_131
    cases h
    exact hq
  · replace h := fm_itp c123 h
    refine fm_iconstv (pc := 126) 1 (by decide) dX0_carriedBy_126 ?_
    refine fm_goto (pc := 127) 131 (by decide) dX0_carriedBy_127 ?_
    refine fm_zret (pc := 131) rfl (by decide) ?_ dX0_carriedBy_131
    cases h
    exact hq
theorem jn_X0_carriedBy_114 {d : Nat} {Q : Option Value → fm_M → Prop}  (a2 : Nat) (a3 : Nat) (l1 : Int32) (l4 : Int32) (l5 : Int32) (l6 : Int32) (l7 : Int32) (s1 : Int32) (s2 : Int32) {x : Int32 × fm_M} (ga2 : fm_isTd a2 = true) (ga3 : fm_isSt a3 = true) (hq : Q (some (.int x.1)) x.2) (M : fm_M) (h : J_X0_carriedBy_114 a2 a3 l1 l4 l5 l6 l7 s1 s2 M = some x) : fm_mw (d + 4) mX0_carriedBy Q 114 [some (.ref 66), some (.int l1), some (.ref a2), some (.ref a3), some (.int l4), some (.int l5), some (.int l6), some (.int l7)] [(.int s2), (.int s1), (.ref 68)] M := by
  rw [J_X0_carriedBy_114] at h
  obtain ⟨g15, h⟩ := fm_gdp h
  refine fm_iast (pc := 114) sh_68 (fm_inb_ok g15) dX0_carriedBy_114 ?_
  obtain ⟨M16, eM16, h⟩ := fm_ltp h
  refine fm_cgm eM16 ?_
  exact jn_X0_carriedBy_115 _ _ _ _ _ _ _ ga2 ga3 hq _ h
theorem sp_X0_carriedBy {d : Nat} {a1 : Int32} {a2 : Nat} {a3 : Nat} {a4 : Int32} {M : fm_M} {x : Int32 × fm_M} {Q : Option Value → fm_M → Prop} (h : F_X0_carriedBy a1 a2 a3 a4 M = some x) (hq : Q (some (.int x.1)) x.2) : fm_ct (d + 4) mX0_carriedBy [.ref 66, .int a1, .ref a2, .ref a3, .int a4] M Q := by
  rw [F_X0_carriedBy] at h
  show fm_mw (d + 4) mX0_carriedBy Q 0 [some (.ref 66), some (.int a1), some (.ref a2), some (.ref a3), some (.int a4), none, none, none] [] M
  obtain ⟨ga2, h⟩ := fm_gdp h
  obtain ⟨ga3, h⟩ := fm_gdp h
  refine fl_aload0 (pc := 0) dX0_carriedBy_0 ?_
  refine fm_geti (pc := 1) lk_0_61 sh_66 rfl dX0_carriedBy_1 ?_
  obtain ⟨x1, ex1, h⟩ := fm_ltp h
  refine fm_cgi ex1 ?_
  refine fl_istore5 (pc := 4) rfl (by decide) dX0_carriedBy_4 ?_
  refine fl_iload1 (pc := 6) dX0_carriedBy_6 ?_
  refine fl_istore6 (pc := 7) rfl (by decide) dX0_carriedBy_7 ?_
  refine fl_aload0 (pc := 9) dX0_carriedBy_9 ?_
  refine fm_geti (pc := 10) lk_0_36 sh_66 rfl dX0_carriedBy_10 ?_
  refine fm_iconstv (pc := 13) 1 (by decide) dX0_carriedBy_13 ?_
  refine fm_isub (pc := 14) dX0_carriedBy_14 ?_
  obtain ⟨x2, ex2, h⟩ := fm_ltp h
  refine fm_cgi ex2 ?_
  refine fl_istore7 (pc := 15) rfl (by decide) dX0_carriedBy_15 ?_
  obtain ⟨w6, M7, ew6, h⟩ := fm_bdp h
  refine lp_X0_carriedBy_17 ga2 ga3 ?_ _ _ _ _ _ ew6
  intro w69 M79 q9
  cases q9
  refine fl_iload5 (pc := 56) dX0_carriedBy_56 ?_
  refine fm_if_lt (pc := 58) 71 (by decide) dX0_carriedBy_58 (fun c58 => ?_) (fun c58 => ?_)
  · replace h := fm_itp c58 h
    refine fl_aload3 (pc := 71) dX0_carriedBy_71 ?_
    refine fl_aload2 (pc := 72) dX0_carriedBy_72 ?_
    refine fl_iload4 (pc := 73) dX0_carriedBy_73 ?_
    refine fl_iload5 (pc := 75) dX0_carriedBy_75 ?_
    obtain ⟨v8, M9, ev8, h⟩ := fm_bdp h
    refine fm_callV (pc := 77) mX7_passes [_, _, _] _ rfl cvX7_passes ml_0_81 (shSt0 ga3) rfl rfl (Nat.le_of_ble_eq_true rfl) (Nat.le_of_ble_eq_true rfl) dX0_carriedBy_77 ?_
    refine sp_X7_passes ev8 ?_
    refine fm_ret1 ?_
    obtain ⟨g10, h⟩ := fm_gdp h
    refine fm_zret (pc := 80) rfl (fm_z01_ok g10) ?_ dX0_carriedBy_80
    cases h
    exact hq
  · replace h := fm_itn c58 h
    refine fl_iload5 (pc := 61) dX0_carriedBy_61 ?_
    refine fl_aload0 (pc := 63) dX0_carriedBy_63 ?_
    refine fm_getr (pc := 64) lk_0_15 sh_66 rfl dX0_carriedBy_64 ?_
    refine fm_alen (pc := 67) sh_68 dX0_carriedBy_67 ?_
    refine fm_icmp_lt (pc := 68) 81 (by decide) dX0_carriedBy_68 (fun c68 => ?_) (fun c68 => ?_)
    · replace h := fm_itp c68 h
      refine fl_aload0 (pc := 81) dX0_carriedBy_81 ?_
      refine fm_getr (pc := 82) lk_0_15 sh_66 rfl dX0_carriedBy_82 ?_
      refine fl_iload5 (pc := 85) dX0_carriedBy_85 ?_
      obtain ⟨g11, h⟩ := fm_gdp h
      refine fm_iald (pc := 87) sh_68 (fm_inb_ok g11) dX0_carriedBy_87 ?_
      refine fm_if_ne (pc := 88) 115 (by decide) dX0_carriedBy_88 (fun c88 => ?_) (fun c88 => ?_)
      · replace h := fm_itn c88 h
        exact jn_X0_carriedBy_115 _ _ _ _ _ _ _ ga2 ga3 hq _ h
      · replace h := fm_itp c88 h
        refine fl_aload0 (pc := 91) dX0_carriedBy_91 ?_
        refine fm_getr (pc := 92) lk_0_15 sh_66 rfl dX0_carriedBy_92 ?_
        refine fl_iload5 (pc := 95) dX0_carriedBy_95 ?_
        refine fl_aload3 (pc := 97) dX0_carriedBy_97 ?_
        refine fl_aload2 (pc := 98) dX0_carriedBy_98 ?_
        refine fl_iload4 (pc := 99) dX0_carriedBy_99 ?_
        refine fl_iload5 (pc := 101) dX0_carriedBy_101 ?_
        obtain ⟨v13, M14, ev13, h⟩ := fm_bdp h
        refine fm_callV (pc := 103) mX7_passes [_, _, _] _ rfl cvX7_passes ml_0_81 (shSt0 ga3) rfl rfl (Nat.le_of_ble_eq_true rfl) (Nat.le_of_ble_eq_true rfl) dX0_carriedBy_103 ?_
        refine sp_X7_passes ev13 ?_
        refine fm_ret1 ?_
        refine fm_if_eq (pc := 106) 113 (by decide) dX0_carriedBy_106 (fun c106 => ?_) (fun c106 => ?_)
        · replace h := fm_itp c106 h
          refine fm_iconstv (pc := 113) 2 (by decide) dX0_carriedBy_113 ?_
          exact jn_X0_carriedBy_114 _ _ _ _ _ _ _ _ _ ga2 ga3 hq _ h
        · replace h := fm_itn c106 h
          refine fm_iconstv (pc := 109) 1 (by decide) dX0_carriedBy_109 ?_
          refine fm_goto (pc := 110) 114 (by decide) dX0_carriedBy_110 ?_
          exact jn_X0_carriedBy_114 _ _ _ _ _ _ _ _ _ ga2 ga3 hq _ h
    · replace h := fm_itn c68 h
      refine fl_aload3 (pc := 71) dX0_carriedBy_71 ?_
      refine fl_aload2 (pc := 72) dX0_carriedBy_72 ?_
      refine fl_iload4 (pc := 73) dX0_carriedBy_73 ?_
      refine fl_iload5 (pc := 75) dX0_carriedBy_75 ?_
      obtain ⟨v17, M18, ev17, h⟩ := fm_bdp h
      refine fm_callV (pc := 77) mX7_passes [_, _, _] _ rfl cvX7_passes ml_0_81 (shSt0 ga3) rfl rfl (Nat.le_of_ble_eq_true rfl) (Nat.le_of_ble_eq_true rfl) dX0_carriedBy_77 ?_
      refine sp_X7_passes ev17 ?_
      refine fm_ret1 ?_
      obtain ⟨g19, h⟩ := fm_gdp h
      refine fm_zret (pc := 80) rfl (fm_z01_ok g19) ?_ dX0_carriedBy_80
      cases h
      exact hq
/-! X0_costOf -/
def G_X0_costOf_13 : Nat → Int32 → Int32 → Int32 → Int32 → Int32 → fm_M → Option (((Int32 × Int32 × Int32) ⊕ Int32) × fm_M)
  | 0, _, _, _, _, _, _ => none
  | n + 1, l1, l2, l3, l4, l5, M =>
    if l5 < 0 then (
      some (.inl (l3, l4, l5), M)
    ) else (
      fm_lt ((i_rem l4 9)) (fun x2 =>
      fm_lt ((l4 / 9)) (fun x3 =>
      fm_gd (fm_inb ((l5 * 9) + x2) 36) (
      if (M.1 67 (Int32.toNatClampNeg ((l5 * 9) + x2))) = (-1) then (
        some (.inr (-1), M)
      ) else (
        fm_lt ((l3 + (i_abs (x2 - 4)))) (fun x5 =>
        G_X0_costOf_13 n l1 l2 x5 x3 (l5 + (-1)) M)
      ))))
    )
def F_X0_costOf (a1 : Int32) (a2 : Int32) (M : fm_M) : Option (Int32 × fm_M) :=
    fm_lt (((M.1 66 3) - 1)) (fun x1 =>
    fm_bs (G_X0_costOf_13 fm_fuel a1 a2 0 a1 x1 M) (fun w6 M7 =>
      some ((w6.1 * a2), M7)) (fun r8 M => some (r8, M)))
theorem lp_X0_costOf_13 {d : Nat} {Q : Option Value → fm_M → Prop} {l1 : Int32} {l2 : Int32}   {x : ((Int32 × Int32 × Int32) ⊕ Int32) × fm_M} (k1 : ∀ (v : Int32 × Int32 × Int32) (M2 : fm_M), x = (.inl v, M2) → fm_mw (d + 1) mX0_costOf Q 67 [some (.ref 66), some (.int l1), some (.int l2), some (.int v.1), some (.int v.2.1), some (.int v.2.2), none] [] M2) (k2 : ∀ (r : Int32) (M2 : fm_M), x = (.inr r, M2) → Q (some (.int r)) M2) : ∀ (n : Nat) (l3 : Int32) (l4 : Int32) (l5 : Int32) (M : fm_M), G_X0_costOf_13 n l1 l2 l3 l4 l5 M = some x → fm_mw (d + 1) mX0_costOf Q 13 [some (.ref 66), some (.int l1), some (.int l2), some (.int l3), some (.int l4), some (.int l5), none] [] M := by
  intro n
  induction n with
  | zero => intro l3 l4 l5 M h; simp [G_X0_costOf_13] at h
  | succ n ih =>
    intro l3 l4 l5 M h
    rw [G_X0_costOf_13] at h
    refine fl_iload5 (pc := 13) dX0_costOf_13 ?_
    refine fm_if_lt (pc := 15) 67 (by decide) dX0_costOf_15 (fun c15 => ?_) (fun c15 => ?_)
    · replace h := fm_itp c15 h
      refine fm_fgt [some (.ref 66), some (.int l1), some (.int l2), some (.int l3), some (.int l4), some (.int l5), none] (by simp [fm_sub]) ?_
      cases h
      exact k1 _ _ rfl
    · replace h := fm_itn c15 h
      refine fl_iload4 (pc := 18) dX0_costOf_18 ?_
      refine fm_bipushv (pc := 20) 9 (by decide) dX0_costOf_20 ?_
      refine fq_irem (pc := 22) (by decide) dX0_costOf_22 ?_
      obtain ⟨x2, ex2, h⟩ := fm_ltp h
      refine fm_cgi ex2 ?_
      refine fl_istore6 (pc := 23) rfl (by decide) dX0_costOf_23 ?_
      refine fl_iload4 (pc := 25) dX0_costOf_25 ?_
      refine fm_bipushv (pc := 27) 9 (by decide) dX0_costOf_27 ?_
      refine fm_idiv (pc := 29) (by decide) dX0_costOf_29 ?_
      obtain ⟨x3, ex3, h⟩ := fm_ltp h
      refine fm_cgi ex3 ?_
      refine fl_istore4 (pc := 30) rfl (by decide) dX0_costOf_30 ?_
      refine fl_aload0 (pc := 32) dX0_costOf_32 ?_
      refine fm_getr (pc := 33) lk_0_11 sh_66 rfl dX0_costOf_33 ?_
      refine fl_iload5 (pc := 36) dX0_costOf_36 ?_
      refine fm_bipushv (pc := 38) 9 (by decide) dX0_costOf_38 ?_
      refine fm_imul (pc := 40) dX0_costOf_40 ?_
      refine fl_iload6 (pc := 41) dX0_costOf_41 ?_
      refine fm_iadd (pc := 43) dX0_costOf_43 ?_
      obtain ⟨g4, h⟩ := fm_gdp h
      refine fm_iald (pc := 44) sh_67 (fm_inb_ok g4) dX0_costOf_44 ?_
      refine fm_iconstv (pc := 45) (-1) (by decide) dX0_costOf_45 ?_
      refine fm_icmp_ne (pc := 46) 51 (by decide) dX0_costOf_46 (fun c46 => ?_) (fun c46 => ?_)
      · replace h := fm_itn c46 h
        refine fl_iload3 (pc := 51) dX0_costOf_51 ?_
        refine fl_iload6 (pc := 52) dX0_costOf_52 ?_
        refine fm_iconstv (pc := 54) 4 (by decide) dX0_costOf_54 ?_
        refine fm_isub (pc := 55) dX0_costOf_55 ?_
        refine fq_mabs (pc := 56) ml_0_77 (Nat.le_of_ble_eq_true rfl) dX0_costOf_56 ?_
        refine fm_iadd (pc := 59) dX0_costOf_59 ?_
        obtain ⟨x5, ex5, h⟩ := fm_ltp h
        refine fm_cgi ex5 ?_
        refine fl_istore3 (pc := 60) rfl (by decide) dX0_costOf_60 ?_
        refine fl_iinc5 (pc := 61) rfl (-1) (by decide) (by decide) dX0_costOf_61 ?_
        refine fm_goto (pc := 64) 13 (by decide) dX0_costOf_64 ?_
        refine fm_fgt [some (.ref 66), some (.int l1), some (.int l2), some (.int x5), some (.int x3), some (.int (l5 + (-1))), none] (by simp [fm_sub]) ?_
        exact ih _ _ _ _ h
      · replace h := fm_itp c46 h
        refine fm_iconstv (pc := 49) (-1) (by decide) dX0_costOf_49 ?_
        refine fm_iret (pc := 50) rfl ?_ dX0_costOf_50
        cases h
        exact k2 _ _ rfl
theorem sp_X0_costOf {d : Nat} {a1 : Int32} {a2 : Int32} {M : fm_M} {x : Int32 × fm_M} {Q : Option Value → fm_M → Prop} (h : F_X0_costOf a1 a2 M = some x) (hq : Q (some (.int x.1)) x.2) : fm_ct (d + 1) mX0_costOf [.ref 66, .int a1, .int a2] M Q := by
  rw [F_X0_costOf] at h
  show fm_mw (d + 1) mX0_costOf Q 0 [some (.ref 66), some (.int a1), some (.int a2), none, none, none, none] [] M
  refine fm_iconstv (pc := 0) 0 (by decide) dX0_costOf_0 ?_
  refine fl_istore3 (pc := 1) rfl (by decide) dX0_costOf_1 ?_
  refine fl_iload1 (pc := 2) dX0_costOf_2 ?_
  refine fl_istore4 (pc := 3) rfl (by decide) dX0_costOf_3 ?_
  refine fl_aload0 (pc := 5) dX0_costOf_5 ?_
  refine fm_geti (pc := 6) lk_0_36 sh_66 rfl dX0_costOf_6 ?_
  refine fm_iconstv (pc := 9) 1 (by decide) dX0_costOf_9 ?_
  refine fm_isub (pc := 10) dX0_costOf_10 ?_
  obtain ⟨x1, ex1, h⟩ := fm_ltp h
  refine fm_cgi ex1 ?_
  refine fl_istore5 (pc := 11) rfl (by decide) dX0_costOf_11 ?_
  obtain ⟨w9, M7, ew6, hl9, hr9⟩ := fm_bsp h
  refine lp_X0_costOf_13  ?_ ?_ _ _ _ _ _ ew6
  · intro w6 M9 q9
    cases q9
    replace h := hl9 _ rfl
    refine fl_iload3 (pc := 67) dX0_costOf_67 ?_
    refine fl_iload2 (pc := 68) dX0_costOf_68 ?_
    refine fm_imul (pc := 69) dX0_costOf_69 ?_
    refine fm_iret (pc := 70) rfl ?_ dX0_costOf_70
    cases h
    exact hq
  · intro r9 M9 q9
    cases q9
    replace h := hr9 _ rfl
    cases h
    exact hq
/-! X7_beatsOf -/
def F_X7_beatsOf (a0 : Int32) (a1 : Int32) (M : fm_M) : Option (Int32 × fm_M) :=
    fm_lt ((i_min (i_abs (a0 - a1)) (i_abs ((2 * a0) - a1)))) (fun x1 =>
    some ((i_min x1 (i_abs (a0 - (2 * a1)))), M))
theorem sp_X7_beatsOf {d : Nat} {a0 : Int32} {a1 : Int32} {M : fm_M} {x : Int32 × fm_M} {Q : Option Value → fm_M → Prop} (h : F_X7_beatsOf a0 a1 M = some x) (hq : Q (some (.int x.1)) x.2) : fm_ct (d + 1) mX7_beatsOf [.int a0, .int a1] M Q := by
  rw [F_X7_beatsOf] at h
  show fm_mw (d + 1) mX7_beatsOf Q 0 [some (.int a0), some (.int a1), none] [] M
  refine fl_iload0 (pc := 0) dX7_beatsOf_0 ?_
  refine fl_iload1 (pc := 1) dX7_beatsOf_1 ?_
  refine fm_isub (pc := 2) dX7_beatsOf_2 ?_
  refine fq_mabs (pc := 3) ml_7_80 (Nat.le_of_ble_eq_true rfl) dX7_beatsOf_3 ?_
  refine fm_iconstv (pc := 6) 2 (by decide) dX7_beatsOf_6 ?_
  refine fl_iload0 (pc := 7) dX7_beatsOf_7 ?_
  refine fm_imul (pc := 8) dX7_beatsOf_8 ?_
  refine fl_iload1 (pc := 9) dX7_beatsOf_9 ?_
  refine fm_isub (pc := 10) dX7_beatsOf_10 ?_
  refine fq_mabs (pc := 11) ml_7_80 (Nat.le_of_ble_eq_true rfl) dX7_beatsOf_11 ?_
  refine fq_mmin (pc := 14) ml_7_85 (Nat.le_of_ble_eq_true rfl) dX7_beatsOf_14 ?_
  obtain ⟨x1, ex1, h⟩ := fm_ltp h
  refine fm_cgi ex1 ?_
  refine fl_istore2 (pc := 17) rfl (by decide) dX7_beatsOf_17 ?_
  refine fl_iload2 (pc := 18) dX7_beatsOf_18 ?_
  refine fl_iload0 (pc := 19) dX7_beatsOf_19 ?_
  refine fm_iconstv (pc := 20) 2 (by decide) dX7_beatsOf_20 ?_
  refine fl_iload1 (pc := 21) dX7_beatsOf_21 ?_
  refine fm_imul (pc := 22) dX7_beatsOf_22 ?_
  refine fm_isub (pc := 23) dX7_beatsOf_23 ?_
  refine fq_mabs (pc := 24) ml_7_80 (Nat.le_of_ble_eq_true rfl) dX7_beatsOf_24 ?_
  refine fq_mmin (pc := 27) ml_7_85 (Nat.le_of_ble_eq_true rfl) dX7_beatsOf_27 ?_
  refine fm_iret (pc := 30) rfl ?_ dX7_beatsOf_30
  cases h
  exact hq
/-! X7_soundOf -/
def F_X7_soundOf (a0 : Nat) (a1 : Int32) (M : fm_M) : Option (Int32 × fm_M) :=
    fm_gd (fm_isSt a0) (
    fm_gd (fm_inb a1 8) (
    some ((i_max 1 ((M.1 (a0 + 1) (Int32.toNatClampNeg a1)) - (M.1 a0 1))), M)))
theorem sp_X7_soundOf {d : Nat} {a0 : Nat} {a1 : Int32} {M : fm_M} {x : Int32 × fm_M} {Q : Option Value → fm_M → Prop} (h : F_X7_soundOf a0 a1 M = some x) (hq : Q (some (.int x.1)) x.2) : fm_ct (d + 1) mX7_soundOf [.ref a0, .int a1] M Q := by
  rw [F_X7_soundOf] at h
  show fm_mw (d + 1) mX7_soundOf Q 0 [some (.ref a0), some (.int a1)] [] M
  obtain ⟨ga0, h⟩ := fm_gdp h
  refine fm_iconstv (pc := 0) 1 (by decide) dX7_soundOf_0 ?_
  refine fl_aload0 (pc := 1) dX7_soundOf_1 ?_
  refine fm_getr (pc := 2) lk_7_22 (shSt0 ga0) rfl dX7_soundOf_2 ?_
  refine fl_iload1 (pc := 5) dX7_soundOf_5 ?_
  obtain ⟨g1, h⟩ := fm_gdp h
  refine fm_iald (pc := 6) (shSt1 ga0) (fm_inb_ok g1) dX7_soundOf_6 ?_
  refine fl_aload0 (pc := 7) dX7_soundOf_7 ?_
  refine fm_geti (pc := 8) lk_7_50 (shSt0 ga0) rfl dX7_soundOf_8 ?_
  refine fm_isub (pc := 11) dX7_soundOf_11 ?_
  refine fq_mmax (pc := 12) ml_7_89 (Nat.le_of_ble_eq_true rfl) dX7_soundOf_12 ?_
  refine fm_iret (pc := 15) rfl ?_ dX7_soundOf_15
  cases h
  exact hq
/-! X7_beating -/
def F_X7_beating (a0 : Nat) (a1 : Int32) (a2 : Int32) (M : fm_M) : Option (Int32 × fm_M) :=
    fm_gd (fm_isSt a0) (
    fm_bd (F_X7_soundOf a0 a1 M) (fun v1 M2 =>
    fm_bd (F_X7_beatsOf v1 a2 M2) (fun v3 M4 =>
    some (v3, M4))))
theorem sp_X7_beating {d : Nat} {a0 : Nat} {a1 : Int32} {a2 : Int32} {M : fm_M} {x : Int32 × fm_M} {Q : Option Value → fm_M → Prop} (h : F_X7_beating a0 a1 a2 M = some x) (hq : Q (some (.int x.1)) x.2) : fm_ct (d + 2) mX7_beating [.ref a0, .int a1, .int a2] M Q := by
  rw [F_X7_beating] at h
  show fm_mw (d + 2) mX7_beating Q 0 [some (.ref a0), some (.int a1), some (.int a2)] [] M
  obtain ⟨ga0, h⟩ := fm_gdp h
  refine fl_aload0 (pc := 0) dX7_beating_0 ?_
  refine fl_iload1 (pc := 1) dX7_beating_1 ?_
  obtain ⟨v1, M2, ev1, h⟩ := fm_bdp h
  refine fm_callV (pc := 2) mX7_soundOf [_] _ rfl cvX7_soundOf ml_7_92 (shSt0 ga0) rfl rfl (Nat.le_of_ble_eq_true rfl) (Nat.le_of_ble_eq_true rfl) dX7_beating_2 ?_
  refine sp_X7_soundOf ev1 ?_
  refine fm_ret1 ?_
  refine fl_iload2 (pc := 5) dX7_beating_5 ?_
  obtain ⟨v3, M4, ev3, h⟩ := fm_bdp h
  refine fm_callS (pc := 6) mX7_beatsOf [_, _] _ rfl csX7_beatsOf ml_7_95 rfl (Nat.le_of_ble_eq_true rfl) (Nat.le_of_ble_eq_true rfl) dX7_beating_6 ?_
  refine sp_X7_beatsOf ev3 ?_
  refine fm_ret1 ?_
  refine fm_iret (pc := 9) rfl ?_ dX7_beating_9
  cases h
  exact hq
/-! X7_humLaw -/
def F_X7_humLaw (a0 : Nat) (a1 : Nat) (a2 : Int32) (a3 : Int32) (M : fm_M) : Option (Int64 × fm_M) :=
    fm_gd (fm_isSt a0) (
    fm_gd (fm_isTd a1) (
    fm_bd (F_X3_has (a1 + 10) 0 M) (fun v1 M2 =>
    if v1 = 0 then (
      some ((-9223372036854775808), M2)
    ) else (
      fm_bd (F_X7_soundOf a0 a2 M2) (fun v3 M4 =>
      fm_gd (fm_inb a2 8) (
      fm_gd (fm_inb a2 8) (
      fm_bd (F_X7_beatsOf v3 a3 M4) (fun v7 M8 =>
      fm_bd (F_X3_name (a1 + 10) v3 a3 (M4.1 (a0 + 2) (Int32.toNatClampNeg a2)) (M4.1 (a1 + 4) (Int32.toNatClampNeg a2)) v7 (M8.1 a0 1) (M8.1 a0 0) M8) (fun v9 M10 =>
      fm_bd (F_X3_valueOf (a1 + 10) 0 M10) (fun v11 M12 =>
      some (v11, M12)))))))
    ))))
theorem sp_X7_humLaw {d : Nat} {a0 : Nat} {a1 : Nat} {a2 : Int32} {a3 : Int32} {M : fm_M} {x : Int64 × fm_M} {Q : Option Value → fm_M → Prop} (h : F_X7_humLaw a0 a1 a2 a3 M = some x) (hq : Q (some (.long x.1)) x.2) : fm_ct (d + 2) mX7_humLaw [.ref a0, .ref a1, .int a2, .int a3] M Q := by
  rw [F_X7_humLaw] at h
  show fm_mw (d + 2) mX7_humLaw Q 0 [some (.ref a0), some (.ref a1), some (.int a2), some (.int a3), none] [] M
  obtain ⟨ga0, h⟩ := fm_gdp h
  obtain ⟨ga1, h⟩ := fm_gdp h
  refine fl_aload1 (pc := 0) dX7_humLaw_0 ?_
  refine fm_getr (pc := 1) lk_7_102 (shTd0 ga1) rfl dX7_humLaw_1 ?_
  refine fm_iconstv (pc := 4) 0 (by decide) dX7_humLaw_4 ?_
  obtain ⟨v1, M2, ev1, h⟩ := fm_bdp h
  refine fm_callV (pc := 5) mX3_has [_] _ rfl cvX3_has ml_7_106 (shTd10 ga1) rfl rfl (Nat.le_of_ble_eq_true rfl) (Nat.le_of_ble_eq_true rfl) dX7_humLaw_5 ?_
  refine sp_X3_has ev1 ?_
  refine fm_ret1 ?_
  refine fm_if_ne (pc := 8) 15 (by decide) dX7_humLaw_8 (fun c8 => ?_) (fun c8 => ?_)
  · replace h := fm_itn c8 h
    refine fl_aload0 (pc := 15) dX7_humLaw_15 ?_
    refine fl_iload2 (pc := 16) dX7_humLaw_16 ?_
    obtain ⟨v3, M4, ev3, h⟩ := fm_bdp h
    refine fm_callV (pc := 17) mX7_soundOf [_] _ rfl cvX7_soundOf ml_7_92 (shSt0 ga0) rfl rfl (Nat.le_of_ble_eq_true rfl) (Nat.le_of_ble_eq_true rfl) dX7_humLaw_17 ?_
    refine sp_X7_soundOf ev3 ?_
    refine fm_ret1 ?_
    refine fl_istore4 (pc := 20) rfl (by decide) dX7_humLaw_20 ?_
    refine fl_aload1 (pc := 22) dX7_humLaw_22 ?_
    refine fm_getr (pc := 23) lk_7_102 (shTd0 ga1) rfl dX7_humLaw_23 ?_
    refine fl_iload4 (pc := 26) dX7_humLaw_26 ?_
    refine fl_iload3 (pc := 28) dX7_humLaw_28 ?_
    refine fl_aload0 (pc := 29) dX7_humLaw_29 ?_
    refine fm_getr (pc := 30) lk_7_26 (shSt0 ga0) rfl dX7_humLaw_30 ?_
    refine fl_iload2 (pc := 33) dX7_humLaw_33 ?_
    obtain ⟨g5, h⟩ := fm_gdp h
    refine fm_iald (pc := 34) (shSt2 ga0) (fm_inb_ok g5) dX7_humLaw_34 ?_
    refine fl_aload1 (pc := 35) dX7_humLaw_35 ?_
    refine fm_getr (pc := 36) lk_7_113 (shTd0 ga1) rfl dX7_humLaw_36 ?_
    refine fl_iload2 (pc := 39) dX7_humLaw_39 ?_
    obtain ⟨g6, h⟩ := fm_gdp h
    refine fm_iald (pc := 40) (shTd4 ga1) (fm_inb_ok g6) dX7_humLaw_40 ?_
    refine fl_iload4 (pc := 41) dX7_humLaw_41 ?_
    refine fl_iload3 (pc := 43) dX7_humLaw_43 ?_
    obtain ⟨v7, M8, ev7, h⟩ := fm_bdp h
    refine fm_callS (pc := 44) mX7_beatsOf [_, _] _ rfl csX7_beatsOf ml_7_95 rfl (Nat.le_of_ble_eq_true rfl) (Nat.le_of_ble_eq_true rfl) dX7_humLaw_44 ?_
    refine sp_X7_beatsOf ev7 ?_
    refine fm_ret1 ?_
    refine fl_aload0 (pc := 47) dX7_humLaw_47 ?_
    refine fm_geti (pc := 48) lk_7_50 (shSt0 ga0) rfl dX7_humLaw_48 ?_
    refine fl_aload0 (pc := 51) dX7_humLaw_51 ?_
    refine fm_geti (pc := 52) lk_7_41 (shSt0 ga0) rfl dX7_humLaw_52 ?_
    obtain ⟨v9, M10, ev9, h⟩ := fm_bdp h
    refine fm_callV (pc := 55) mX3_name [_, _, _, _, _, _, _] _ rfl cvX3_name ml_7_116 (shTd10 ga1) rfl rfl (Nat.le_of_ble_eq_true rfl) (Nat.le_of_ble_eq_true rfl) dX7_humLaw_55 ?_
    refine sp_X3_name ev9 ?_
    refine fm_ret0 ?_
    refine fl_aload1 (pc := 58) dX7_humLaw_58 ?_
    refine fm_getr (pc := 59) lk_7_102 (shTd0 ga1) rfl dX7_humLaw_59 ?_
    refine fm_iconstv (pc := 62) 0 (by decide) dX7_humLaw_62 ?_
    obtain ⟨v11, M12, ev11, h⟩ := fm_bdp h
    refine fm_callV (pc := 63) mX3_valueOf [_] _ rfl cvX3_valueOf ml_7_120 (shTd10 ga1) rfl rfl (Nat.le_of_ble_eq_true rfl) (Nat.le_of_ble_eq_true rfl) dX7_humLaw_63 ?_
    refine sp_X3_valueOf ev11 ?_
    refine fm_ret1 ?_
    refine fm_lret (pc := 66) rfl ?_ dX7_humLaw_66
    cases h
    exact hq
  · replace h := fm_itp c8 h
    refine fm_ldc2 (pc := 11) kc_7_111 dX7_humLaw_11 ?_
    refine fm_lret (pc := 14) rfl ?_ dX7_humLaw_14
    cases h
    exact hq
/-! X9_bitOf -/
def F_X9_bitOf (a0 : Int32) (a1 : Int32) (M : fm_M) : Option (Int32 × fm_M) :=
    some (((a0 >>> (a1 &&& 31)) &&& 1), M)
theorem sp_X9_bitOf {d : Nat} {a0 : Int32} {a1 : Int32} {M : fm_M} {x : Int32 × fm_M} {Q : Option Value → fm_M → Prop} (h : F_X9_bitOf a0 a1 M = some x) (hq : Q (some (.int x.1)) x.2) : fm_ct d mX9_bitOf [.int a0, .int a1] M Q := by
  rw [F_X9_bitOf] at h
  show fm_mw d mX9_bitOf Q 0 [some (.int a0), some (.int a1)] [] M
  refine fl_iload0 (pc := 0) dX9_bitOf_0 ?_
  refine fl_iload1 (pc := 1) dX9_bitOf_1 ?_
  refine fm_ishr (pc := 2) dX9_bitOf_2 ?_
  refine fm_iconstv (pc := 3) 1 (by decide) dX9_bitOf_3 ?_
  refine fm_iand (pc := 4) dX9_bitOf_4 ?_
  refine fm_iret (pc := 5) rfl ?_ dX9_bitOf_5
  cases h
  exact hq
/-! X9_within -/
def F_X9_within (a0 : Int64) (a2 : Int32) (a3 : Int32) (M : fm_M) : Option (Int32 × fm_M) :=
    some ((Int64.toInt32 (l_max (Int32.toInt64 a2) (l_min (Int32.toInt64 a3) a0))), M)
theorem sp_X9_within {d : Nat} {a0 : Int64} {a2 : Int32} {a3 : Int32} {M : fm_M} {x : Int32 × fm_M} {Q : Option Value → fm_M → Prop} (h : F_X9_within a0 a2 a3 M = some x) (hq : Q (some (.int x.1)) x.2) : fm_ct (d + 1) mX9_within [.long a0, .int a2, .int a3] M Q := by
  rw [F_X9_within] at h
  show fm_mw (d + 1) mX9_within Q 0 [some (.long a0), none, some (.int a2), some (.int a3)] [] M
  refine fl_iload2 (pc := 0) dX9_within_0 ?_
  refine fm_i2l (pc := 1) dX9_within_1 ?_
  refine fl_iload3 (pc := 2) dX9_within_2 ?_
  refine fm_i2l (pc := 3) dX9_within_3 ?_
  refine fl_lload0 (pc := 4) dX9_within_4 ?_
  refine fq_mminl (pc := 5) ml_9_371 (Nat.le_of_ble_eq_true rfl) dX9_within_5 ?_
  refine fq_mmaxl (pc := 8) ml_9_375 (Nat.le_of_ble_eq_true rfl) dX9_within_8 ?_
  refine fm_l2i (pc := 11) dX9_within_11 ?_
  refine fm_iret (pc := 12) rfl ?_ dX9_within_12
  cases h
  exact hq
/-! X7_humOf -/
def J_X7_humOf_81 (a0 : Nat) (a1 : Nat) (l2 : Int32) (l3 : Int32) (l4 : Int64) (s0 : Int32) (M : fm_M) : Option (Int32 × fm_M) :=
    if s0 = 0 then (
      some (0, M)
    ) else (
      fm_gd (fm_inb l2 8) (
      some ((M.1 (a1 + 4) (Int32.toNatClampNeg l2)), M))
    )
def J_X7_humOf_76 (a0 : Nat) (a1 : Nat) (l2 : Int32) (l3 : Int32) (l4 : Int64) (M : fm_M) : Option (Int32 × fm_M) :=
    J_X7_humOf_81 a0 a1 l2 l3 l4 1 M
def F_X7_humOf (a0 : Nat) (a1 : Nat) (a2 : Int32) (a3 : Int32) (M : fm_M) : Option (Int32 × fm_M) :=
    fm_gd (fm_isSt a0) (
    fm_gd (fm_isTd a1) (
    if a2 = (M.1 a0 6) then (
      some (0, M)
    ) else (
      fm_bd (F_X9_bitOf (M.1 a0 4) a2 M) (fun v1 M2 =>
      if v1 = 1 then (
        some (0, M2)
      ) else (
        fm_bd (F_X7_humLaw a0 a1 a2 a3 M2) (fun v3 M4 =>
        if (lg_cmp v3 (-9223372036854775808)) = 0 then (
          fm_bd (F_X9_bitOf (M4.1 a0 5) a2 M4) (fun v5 M6 =>
          if v5 = 1 then (
            J_X7_humOf_76 a0 a1 a2 a3 v3 M6
          ) else (
            fm_bd (F_X7_beating a0 a2 a3 M6) (fun v8 M9 =>
            fm_gd (fm_inb a2 8) (
            if (M9.1 (a0 + 2) (Int32.toNatClampNeg a2)) < v8 then (
              J_X7_humOf_81 a0 a1 a2 a3 v3 0 M9
            ) else (
              J_X7_humOf_76 a0 a1 a2 a3 v3 M9
            )))
          ))
        ) else (
          fm_bd (F_X9_within v3 0 99 M4) (fun v11 M12 =>
          some (v11, M12))
        ))
      ))
    )))
theorem jn_X7_humOf_81 {d : Nat} {Q : Option Value → fm_M → Prop}  (a0 : Nat) (a1 : Nat) (l2 : Int32) (l3 : Int32) (l4 : Int64) (s0 : Int32) {x : Int32 × fm_M} (ga0 : fm_isSt a0 = true) (ga1 : fm_isTd a1 = true) (hq : Q (some (.int x.1)) x.2) (M : fm_M) (h : J_X7_humOf_81 a0 a1 l2 l3 l4 s0 M = some x) : fm_mw (d + 3) mX7_humOf Q 81 [some (.ref a0), some (.ref a1), some (.int l2), some (.int l3), some (.long l4), none, none] [(.int s0)] M := by
  rw [J_X7_humOf_81] at h
  refine fl_istore6 (pc := 81) rfl (by decide) dX7_humOf_81 ?_
  refine fl_iload6 (pc := 83) dX7_humOf_83 ?_
  refine fm_if_eq (pc := 85) 97 (by decide) dX7_humOf_85 (fun c85 => ?_) (fun c85 => ?_)
  · replace h := fm_itp c85 h
    refine fm_iconstv (pc := 97) 0 (by decide) dX7_humOf_97 ?_
    refine fm_iret (pc := 98) rfl ?_ dX7_humOf_98
    cases h
    exact hq
  · replace h := fm_itn c85 h
    refine fl_aload1 (pc := 88) dX7_humOf_88 ?_
    refine fm_getr (pc := 89) lk_7_113 (shTd0 ga1) rfl dX7_humOf_89 ?_
    refine fl_iload2 (pc := 92) dX7_humOf_92 ?_
    obtain ⟨g7, h⟩ := fm_gdp h
    refine fm_iald (pc := 93) (shTd4 ga1) (fm_inb_ok g7) dX7_humOf_93 ?_
    refine fm_goto (pc := 94) 98 (by decide) dX7_humOf_94 ?_
    refine fm_iret (pc := 98) rfl ?_ dX7_humOf_98
    cases h
    exact hq
theorem jn_X7_humOf_76 {d : Nat} {Q : Option Value → fm_M → Prop}  (a0 : Nat) (a1 : Nat) (l2 : Int32) (l3 : Int32) (l4 : Int64) {x : Int32 × fm_M} (ga0 : fm_isSt a0 = true) (ga1 : fm_isTd a1 = true) (hq : Q (some (.int x.1)) x.2) (M : fm_M) (h : J_X7_humOf_76 a0 a1 l2 l3 l4 M = some x) : fm_mw (d + 3) mX7_humOf Q 76 [some (.ref a0), some (.ref a1), some (.int l2), some (.int l3), some (.long l4), none, none] [] M := by
  rw [J_X7_humOf_76] at h
  refine fm_iconstv (pc := 76) 1 (by decide) dX7_humOf_76 ?_
  refine fm_goto (pc := 77) 81 (by decide) dX7_humOf_77 ?_
  exact jn_X7_humOf_81 _ _ _ _ _ _ ga0 ga1 hq _ h
theorem sp_X7_humOf {d : Nat} {a0 : Nat} {a1 : Nat} {a2 : Int32} {a3 : Int32} {M : fm_M} {x : Int32 × fm_M} {Q : Option Value → fm_M → Prop} (h : F_X7_humOf a0 a1 a2 a3 M = some x) (hq : Q (some (.int x.1)) x.2) : fm_ct (d + 3) mX7_humOf [.ref a0, .ref a1, .int a2, .int a3] M Q := by
  rw [F_X7_humOf] at h
  show fm_mw (d + 3) mX7_humOf Q 0 [some (.ref a0), some (.ref a1), some (.int a2), some (.int a3), none, none, none] [] M
  obtain ⟨ga0, h⟩ := fm_gdp h
  obtain ⟨ga1, h⟩ := fm_gdp h
  refine fl_iload2 (pc := 0) dX7_humOf_0 ?_
  refine fl_aload0 (pc := 1) dX7_humOf_1 ?_
  refine fm_geti (pc := 2) lk_7_15 (shSt0 ga0) rfl dX7_humOf_2 ?_
  refine fm_icmp_eq (pc := 5) 20 (by decide) dX7_humOf_5 (fun c5 => ?_) (fun c5 => ?_)
  · replace h := fm_itp c5 h
    refine fm_iconstv (pc := 20) 0 (by decide) dX7_humOf_20 ?_
    refine fm_iret (pc := 21) rfl ?_ dX7_humOf_21
    cases h
    exact hq
  · replace h := fm_itn c5 h
    refine fl_aload0 (pc := 8) dX7_humOf_8 ?_
    refine fm_geti (pc := 9) lk_7_57 (shSt0 ga0) rfl dX7_humOf_9 ?_
    refine fl_iload2 (pc := 12) dX7_humOf_12 ?_
    obtain ⟨v1, M2, ev1, h⟩ := fm_bdp h
    refine fm_callS (pc := 13) mX9_bitOf [_, _] _ rfl csX9_bitOf ml_7_124 rfl (Nat.le_of_ble_eq_true rfl) (Nat.le_of_ble_eq_true rfl) dX7_humOf_13 ?_
    refine sp_X9_bitOf ev1 ?_
    refine fm_ret1 ?_
    refine fm_iconstv (pc := 16) 1 (by decide) dX7_humOf_16 ?_
    refine fm_icmp_ne (pc := 17) 22 (by decide) dX7_humOf_17 (fun c17 => ?_) (fun c17 => ?_)
    · replace h := fm_itn c17 h
      refine fl_aload0 (pc := 22) dX7_humOf_22 ?_
      refine fl_aload1 (pc := 23) dX7_humOf_23 ?_
      refine fl_iload2 (pc := 24) dX7_humOf_24 ?_
      refine fl_iload3 (pc := 25) dX7_humOf_25 ?_
      obtain ⟨v3, M4, ev3, h⟩ := fm_bdp h
      refine fm_callV (pc := 26) mX7_humLaw [_, _, _] _ rfl cvX7_humLaw ml_7_127 (shSt0 ga0) rfl rfl (Nat.le_of_ble_eq_true rfl) (Nat.le_of_ble_eq_true rfl) dX7_humOf_26 ?_
      refine sp_X7_humLaw ev3 ?_
      refine fm_ret1 ?_
      refine fl_lstore4 (pc := 29) rfl (by decide) dX7_humOf_29 ?_
      refine fl_lload4 (pc := 31) dX7_humOf_31 ?_
      refine fm_ldc2 (pc := 33) kc_7_111 dX7_humOf_33 ?_
      refine fm_lcmp (pc := 36) dX7_humOf_36 ?_
      refine fm_if_eq (pc := 37) 49 (by decide) dX7_humOf_37 (fun c37 => ?_) (fun c37 => ?_)
      · replace h := fm_itp c37 h
        refine fl_aload0 (pc := 49) dX7_humOf_49 ?_
        refine fm_geti (pc := 50) lk_7_63 (shSt0 ga0) rfl dX7_humOf_50 ?_
        refine fl_iload2 (pc := 53) dX7_humOf_53 ?_
        obtain ⟨v5, M6, ev5, h⟩ := fm_bdp h
        refine fm_callS (pc := 54) mX9_bitOf [_, _] _ rfl csX9_bitOf ml_7_124 rfl (Nat.le_of_ble_eq_true rfl) (Nat.le_of_ble_eq_true rfl) dX7_humOf_54 ?_
        refine sp_X9_bitOf ev5 ?_
        refine fm_ret1 ?_
        refine fm_iconstv (pc := 57) 1 (by decide) dX7_humOf_57 ?_
        refine fm_icmp_eq (pc := 58) 76 (by decide) dX7_humOf_58 (fun c58 => ?_) (fun c58 => ?_)
        · replace h := fm_itp c58 h
          exact jn_X7_humOf_76 _ _ _ _ _ ga0 ga1 hq _ h
        · replace h := fm_itn c58 h
          refine fl_aload0 (pc := 61) dX7_humOf_61 ?_
          refine fl_iload2 (pc := 62) dX7_humOf_62 ?_
          refine fl_iload3 (pc := 63) dX7_humOf_63 ?_
          obtain ⟨v8, M9, ev8, h⟩ := fm_bdp h
          refine fm_callV (pc := 64) mX7_beating [_, _] _ rfl cvX7_beating ml_7_135 (shSt0 ga0) rfl rfl (Nat.le_of_ble_eq_true rfl) (Nat.le_of_ble_eq_true rfl) dX7_humOf_64 ?_
          refine sp_X7_beating ev8 ?_
          refine fm_ret1 ?_
          refine fl_aload0 (pc := 67) dX7_humOf_67 ?_
          refine fm_getr (pc := 68) lk_7_26 (shSt0 ga0) rfl dX7_humOf_68 ?_
          refine fl_iload2 (pc := 71) dX7_humOf_71 ?_
          obtain ⟨g10, h⟩ := fm_gdp h
          refine fm_iald (pc := 72) (shSt2 ga0) (fm_inb_ok g10) dX7_humOf_72 ?_
          refine fm_icmp_gt (pc := 73) 80 (by decide) dX7_humOf_73 (fun c73 => ?_) (fun c73 => ?_)
          · replace h := fm_itp c73 h
            refine fm_iconstv (pc := 80) 0 (by decide) dX7_humOf_80 ?_
            exact jn_X7_humOf_81 _ _ _ _ _ _ ga0 ga1 hq _ h
          · replace h := fm_itn c73 h
            exact jn_X7_humOf_76 _ _ _ _ _ ga0 ga1 hq _ h
      · replace h := fm_itn c37 h
        refine fl_lload4 (pc := 40) dX7_humOf_40 ?_
        refine fm_iconstv (pc := 42) 0 (by decide) dX7_humOf_42 ?_
        refine fm_bipushv (pc := 43) 99 (by decide) dX7_humOf_43 ?_
        obtain ⟨v11, M12, ev11, h⟩ := fm_bdp h
        refine fm_callS (pc := 45) mX9_within [_, _, _] _ rfl csX9_within ml_7_131 rfl (Nat.le_of_ble_eq_true rfl) (Nat.le_of_ble_eq_true rfl) dX7_humOf_45 ?_
        refine sp_X9_within ev11 ?_
        refine fm_ret1 ?_
        refine fm_iret (pc := 48) rfl ?_ dX7_humOf_48
        cases h
        exact hq
    · replace h := fm_itp c17 h
      refine fm_iconstv (pc := 20) 0 (by decide) dX7_humOf_20 ?_
      refine fm_iret (pc := 21) rfl ?_ dX7_humOf_21
      cases h
      exact hq
/-! X9_isNote -/
def F_X9_isNote (a0 : Int32) (M : fm_M) : Option (Int32 × fm_M) :=
    if a0 < 100 then (
      some (0, M)
    ) else (
      if 999 < a0 then (
        some (0, M)
      ) else (
        some (1, M)
      )
    )
theorem sp_X9_isNote {d : Nat} {a0 : Int32} {M : fm_M} {x : Int32 × fm_M} {Q : Option Value → fm_M → Prop} (h : F_X9_isNote a0 M = some x) (hq : Q (some (.int x.1)) x.2) : fm_ct d mX9_isNote [.int a0] M Q := by
  rw [F_X9_isNote] at h
  show fm_mw d mX9_isNote Q 0 [some (.int a0)] [] M
  refine fl_iload0 (pc := 0) dX9_isNote_0 ?_
  refine fm_bipushv (pc := 1) 100 (by decide) dX9_isNote_1 ?_
  refine fm_icmp_lt (pc := 3) 17 (by decide) dX9_isNote_3 (fun c3 => ?_) (fun c3 => ?_)
  · replace h := fm_itp c3 h
    refine fm_iconstv (pc := 17) 0 (by decide) dX9_isNote_17 ?_
    refine fm_zret (pc := 18) rfl (by decide) ?_ dX9_isNote_18
    cases h
    exact hq
  · replace h := fm_itn c3 h
    refine fl_iload0 (pc := 6) dX9_isNote_6 ?_
    refine fm_sipushv (pc := 7) 999 (by decide) dX9_isNote_7 ?_
    refine fm_icmp_gt (pc := 10) 17 (by decide) dX9_isNote_10 (fun c10 => ?_) (fun c10 => ?_)
    · replace h := fm_itp c10 h
      refine fm_iconstv (pc := 17) 0 (by decide) dX9_isNote_17 ?_
      refine fm_zret (pc := 18) rfl (by decide) ?_ dX9_isNote_18
      cases h
      exact hq
    · replace h := fm_itn c10 h
      refine fm_iconstv (pc := 13) 1 (by decide) dX9_isNote_13 ?_
      refine fm_goto (pc := 14) 18 (by decide) dX9_isNote_14 ?_
      refine fm_zret (pc := 18) rfl (by decide) ?_ dX9_isNote_18
      cases h
      exact hq
/-! X0_listen -/
def G_X0_listen_11 : Nat → Nat → Nat → Int32 → Int32 → fm_M → Option ((Int32) × fm_M)
  | 0, _, _, _, _, _ => none
  | n + 1, a1, a2, l3, l4, M =>
    if (M.1 a1 0) ≤ l4 then (
      some (l4, M)
    ) else (
      fm_bd (F_X7_humOf a2 a1 l4 l3 M) (fun v3 M4 =>
      fm_lt (fm_up M4 66 4 ((M.1 66 4) + v3)) (fun M5 =>
      G_X0_listen_11 n a1 a2 l3 (l4 + 1) M5))
    )
def G_X0_listen_67 : Nat → Nat → Nat → Int32 → Int32 → Int32 → Int32 → fm_M → Option ((Int32) × fm_M)
  | 0, _, _, _, _, _, _, _ => none
  | n + 1, a1, a2, l3, l4, l5, l6, M =>
    if 9 ≤ l6 then (
      some (l6, M)
    ) else (
      fm_gd (fm_inb l4 8) (
      fm_lt (fm_up M (a2 + 1) (Int32.toNatClampNeg l4) ((l5 + l6) - 4)) (fun M11 =>
      fm_gd (fm_inb l4 8) (
      fm_bd (F_X9_isNote (M11.1 (a2 + 1) (Int32.toNatClampNeg l4)) M11) (fun v13 M14 =>
      if v13 = 0 then (
        fm_gd (fm_inb ((l4 * 9) + l6) 36) (
        fm_lt (fm_up M14 67 (Int32.toNatClampNeg ((l4 * 9) + l6)) (-1)) (fun M16 =>
        G_X0_listen_67 n a1 a2 l3 l4 l5 (l6 + 1) M16))
      ) else (
        fm_bd (F_X7_humOf a2 a1 l4 l3 M14) (fun v17 M18 =>
        fm_gd (fm_inb ((l4 * 9) + l6) 36) (
        fm_lt (fm_up M18 67 (Int32.toNatClampNeg ((l4 * 9) + l6)) v17) (fun M20 =>
        G_X0_listen_67 n a1 a2 l3 l4 l5 (l6 + 1) M20)))
      )))))
    )
def G_X0_listen_46 : Nat → Nat → Nat → Int32 → Int32 → fm_M → Option ((Int32) × fm_M)
  | 0, _, _, _, _, _ => none
  | n + 1, a1, a2, l3, l4, M =>
    if (M.1 66 3) ≤ l4 then (
      some (l4, M)
    ) else (
      fm_gd (fm_inb l4 8) (
      fm_lt ((M.1 (a2 + 1) (Int32.toNatClampNeg l4))) (fun x9 =>
      fm_bd (G_X0_listen_67 fm_fuel a1 a2 l3 l4 x9 0 M) (fun w21 M22 =>
        fm_gd (fm_inb l4 8) (
        fm_lt (fm_up M22 (a2 + 1) (Int32.toNatClampNeg l4) x9) (fun M24 =>
        G_X0_listen_46 n a1 a2 l3 (l4 + 1) M24)))))
    )
def F_X0_listen (a1 : Nat) (a2 : Nat) (a3 : Int32) (M : fm_M) : Option (Unit × fm_M) :=
    fm_gd (fm_isTd a1) (
    fm_gd (fm_isSt a2) (
    fm_lt (fm_up M 66 4 0) (fun M1 =>
    fm_lt ((M1.1 66 3)) (fun x2 =>
    fm_bd (G_X0_listen_11 fm_fuel a1 a2 a3 x2 M1) (fun w6 M7 =>
      fm_bd (G_X0_listen_46 fm_fuel a1 a2 a3 0 M7) (fun w25 M26 =>
        some ((), M26)))))))
theorem lp_X0_listen_11 {d : Nat} {Q : Option Value → fm_M → Prop} {l3 : Int32} {a1 : Nat} {a2 : Nat} (ga1 : fm_isTd a1 = true) (ga2 : fm_isSt a2 = true) {x : (Int32) × fm_M} (k1 : ∀ (v : Int32) (M2 : fm_M), x = (v, M2) → fm_mw (d + 4) mX0_listen Q 43 [some (.ref 66), some (.ref a1), some (.ref a2), some (.int l3), some (.int v), none, none, none] [] M2) : ∀ (n : Nat) (l4 : Int32) (M : fm_M), G_X0_listen_11 n a1 a2 l3 l4 M = some x → fm_mw (d + 4) mX0_listen Q 11 [some (.ref 66), some (.ref a1), some (.ref a2), some (.int l3), some (.int l4), none, none, none] [] M := by
  intro n
  induction n with
  | zero => intro l4 M h; simp [G_X0_listen_11] at h
  | succ n ih =>
    intro l4 M h
    rw [G_X0_listen_11] at h
    refine fl_iload4 (pc := 11) dX0_listen_11 ?_
    refine fl_aload1 (pc := 13) dX0_listen_13 ?_
    refine fm_geti (pc := 14) lk_0_25 (shTd0 ga1) rfl dX0_listen_14 ?_
    refine fm_icmp_ge (pc := 17) 43 (by decide) dX0_listen_17 (fun c17 => ?_) (fun c17 => ?_)
    · replace h := fm_itp c17 h
      refine fm_fgt [some (.ref 66), some (.ref a1), some (.ref a2), some (.int l3), some (.int l4), none, none, none] (by simp [fm_sub]) ?_
      cases h
      exact k1 _ _ rfl
    · replace h := fm_itn c17 h
      refine fl_aload0 (pc := 20) dX0_listen_20 ?_
      refine fm_dup (pc := 21) rfl dX0_listen_21 ?_
      refine fm_geti (pc := 22) lk_0_61 sh_66 rfl dX0_listen_22 ?_
      refine fl_aload2 (pc := 25) dX0_listen_25 ?_
      refine fl_aload1 (pc := 26) dX0_listen_26 ?_
      refine fl_iload4 (pc := 27) dX0_listen_27 ?_
      refine fl_iload3 (pc := 29) dX0_listen_29 ?_
      obtain ⟨v3, M4, ev3, h⟩ := fm_bdp h
      refine fm_callV (pc := 30) mX7_humOf [_, _, _] _ rfl cvX7_humOf ml_0_64 (shSt0 ga2) rfl rfl (Nat.le_of_ble_eq_true rfl) (Nat.le_of_ble_eq_true rfl) dX0_listen_30 ?_
      refine sp_X7_humOf ev3 ?_
      refine fm_ret1 ?_
      refine fm_iadd (pc := 33) dX0_listen_33 ?_
      refine fm_puti (pc := 34) lp_0_61 sh_66 rfl dX0_listen_34 ?_
      obtain ⟨M5, eM5, h⟩ := fm_ltp h
      refine fm_cgm eM5 ?_
      refine fl_iinc4 (pc := 37) rfl 1 (by decide) (by decide) dX0_listen_37 ?_
      refine fm_goto (pc := 40) 11 (by decide) dX0_listen_40 ?_
      refine fm_fgt [some (.ref 66), some (.ref a1), some (.ref a2), some (.int l3), some (.int (l4 + 1)), none, none, none] (by simp [fm_sub]) ?_
      exact ih _ _ h
theorem lp_X0_listen_67 {d : Nat} {Q : Option Value → fm_M → Prop} {l3 : Int32} {l4 : Int32} {l5 : Int32} {a1 : Nat} {a2 : Nat} (ga1 : fm_isTd a1 = true) (ga2 : fm_isSt a2 = true) {x : (Int32) × fm_M} (k1 : ∀ (v : Int32) (M2 : fm_M), x = (v, M2) → fm_mw (d + 4) mX0_listen Q 136 [some (.ref 66), some (.ref a1), some (.ref a2), some (.int l3), some (.int l4), some (.int l5), some (.int v), none] [] M2) : ∀ (n : Nat) (l6 : Int32) (M : fm_M), G_X0_listen_67 n a1 a2 l3 l4 l5 l6 M = some x → fm_mw (d + 4) mX0_listen Q 67 [some (.ref 66), some (.ref a1), some (.ref a2), some (.int l3), some (.int l4), some (.int l5), some (.int l6), none] [] M := by
  intro n
  induction n with
  | zero => intro l6 M h; simp [G_X0_listen_67] at h
  | succ n ih =>
    intro l6 M h
    rw [G_X0_listen_67] at h
    refine fl_iload6 (pc := 67) dX0_listen_67 ?_
    refine fm_bipushv (pc := 69) 9 (by decide) dX0_listen_69 ?_
    refine fm_icmp_ge (pc := 71) 136 (by decide) dX0_listen_71 (fun c71 => ?_) (fun c71 => ?_)
    · replace h := fm_itp c71 h
      refine fm_fgt [some (.ref 66), some (.ref a1), some (.ref a2), some (.int l3), some (.int l4), some (.int l5), some (.int l6), none] (by simp [fm_sub]) ?_
      cases h
      exact k1 _ _ rfl
    · replace h := fm_itn c71 h
      refine fl_aload2 (pc := 74) dX0_listen_74 ?_
      refine fm_getr (pc := 75) lk_0_70 (shSt0 ga2) rfl dX0_listen_75 ?_
      refine fl_iload4 (pc := 78) dX0_listen_78 ?_
      refine fl_iload5 (pc := 80) dX0_listen_80 ?_
      refine fl_iload6 (pc := 82) dX0_listen_82 ?_
      refine fm_iadd (pc := 84) dX0_listen_84 ?_
      refine fm_iconstv (pc := 85) 4 (by decide) dX0_listen_85 ?_
      refine fm_isub (pc := 86) dX0_listen_86 ?_
      obtain ⟨g10, h⟩ := fm_gdp h
      refine fm_iast (pc := 87) (shSt1 ga2) (fm_inb_ok g10) dX0_listen_87 ?_
      obtain ⟨M11, eM11, h⟩ := fm_ltp h
      refine fm_cgm eM11 ?_
      refine fl_aload2 (pc := 88) dX0_listen_88 ?_
      refine fm_getr (pc := 89) lk_0_70 (shSt0 ga2) rfl dX0_listen_89 ?_
      refine fl_iload4 (pc := 92) dX0_listen_92 ?_
      obtain ⟨g12, h⟩ := fm_gdp h
      refine fm_iald (pc := 94) (shSt1 ga2) (fm_inb_ok g12) dX0_listen_94 ?_
      obtain ⟨v13, M14, ev13, h⟩ := fm_bdp h
      refine fm_callS (pc := 95) mX9_isNote [_] _ rfl csX9_isNote ml_0_73 rfl (Nat.le_of_ble_eq_true rfl) (Nat.le_of_ble_eq_true rfl) dX0_listen_95 ?_
      refine sp_X9_isNote ev13 ?_
      refine fm_ret1 ?_
      refine fl_istore7 (pc := 98) rfl (by decide) dX0_listen_98 ?_
      refine fl_aload0 (pc := 100) dX0_listen_100 ?_
      refine fm_getr (pc := 101) lk_0_11 sh_66 rfl dX0_listen_101 ?_
      refine fl_iload4 (pc := 104) dX0_listen_104 ?_
      refine fm_bipushv (pc := 106) 9 (by decide) dX0_listen_106 ?_
      refine fm_imul (pc := 108) dX0_listen_108 ?_
      refine fl_iload6 (pc := 109) dX0_listen_109 ?_
      refine fm_iadd (pc := 111) dX0_listen_111 ?_
      refine fl_iload7 (pc := 112) dX0_listen_112 ?_
      refine fm_if_eq (pc := 114) 128 (by decide) dX0_listen_114 (fun c114 => ?_) (fun c114 => ?_)
      · replace h := fm_itp c114 h
        refine fm_iconstv (pc := 128) (-1) (by decide) dX0_listen_128 ?_
        obtain ⟨g15, h⟩ := fm_gdp h
        refine fm_iast (pc := 129) sh_67 (fm_inb_ok g15) dX0_listen_129 ?_
        obtain ⟨M16, eM16, h⟩ := fm_ltp h
        refine fm_cgm eM16 ?_
        refine fl_iinc6 (pc := 130) rfl 1 (by decide) (by decide) dX0_listen_130 ?_
        refine fm_goto (pc := 133) 67 (by decide) dX0_listen_133 ?_
        refine fm_fgt [some (.ref 66), some (.ref a1), some (.ref a2), some (.int l3), some (.int l4), some (.int l5), some (.int (l6 + 1)), none] (by simp [fm_sub]) ?_
        exact ih _ _ h
      · replace h := fm_itn c114 h
        refine fl_aload2 (pc := 117) dX0_listen_117 ?_
        refine fl_aload1 (pc := 118) dX0_listen_118 ?_
        refine fl_iload4 (pc := 119) dX0_listen_119 ?_
        refine fl_iload3 (pc := 121) dX0_listen_121 ?_
        obtain ⟨v17, M18, ev17, h⟩ := fm_bdp h
        refine fm_callV (pc := 122) mX7_humOf [_, _, _] _ rfl cvX7_humOf ml_0_64 (shSt0 ga2) rfl rfl (Nat.le_of_ble_eq_true rfl) (Nat.le_of_ble_eq_true rfl) dX0_listen_122 ?_
        refine sp_X7_humOf ev17 ?_
        refine fm_ret1 ?_
        refine fm_goto (pc := 125) 129 (by decide) dX0_listen_125 ?_
        obtain ⟨g19, h⟩ := fm_gdp h
        refine fm_iast (pc := 129) sh_67 (fm_inb_ok g19) dX0_listen_129 ?_
        obtain ⟨M20, eM20, h⟩ := fm_ltp h
        refine fm_cgm eM20 ?_
        refine fl_iinc6 (pc := 130) rfl 1 (by decide) (by decide) dX0_listen_130 ?_
        refine fm_goto (pc := 133) 67 (by decide) dX0_listen_133 ?_
        refine fm_fgt [some (.ref 66), some (.ref a1), some (.ref a2), some (.int l3), some (.int l4), some (.int l5), some (.int (l6 + 1)), none] (by simp [fm_sub]) ?_
        exact ih _ _ h
theorem lp_X0_listen_46 {d : Nat} {Q : Option Value → fm_M → Prop} {l3 : Int32} {a1 : Nat} {a2 : Nat} (ga1 : fm_isTd a1 = true) (ga2 : fm_isSt a2 = true) {x : (Int32) × fm_M} (k1 : ∀ (v : Int32) (M2 : fm_M), x = (v, M2) → fm_mw (d + 4) mX0_listen Q 151 [some (.ref 66), some (.ref a1), some (.ref a2), some (.int l3), some (.int v), none, none, none] [] M2) : ∀ (n : Nat) (l4 : Int32) (M : fm_M), G_X0_listen_46 n a1 a2 l3 l4 M = some x → fm_mw (d + 4) mX0_listen Q 46 [some (.ref 66), some (.ref a1), some (.ref a2), some (.int l3), some (.int l4), none, none, none] [] M := by
  intro n
  induction n with
  | zero => intro l4 M h; simp [G_X0_listen_46] at h
  | succ n ih =>
    intro l4 M h
    rw [G_X0_listen_46] at h
    refine fl_iload4 (pc := 46) dX0_listen_46 ?_
    refine fl_aload0 (pc := 48) dX0_listen_48 ?_
    refine fm_geti (pc := 49) lk_0_36 sh_66 rfl dX0_listen_49 ?_
    refine fm_icmp_ge (pc := 52) 151 (by decide) dX0_listen_52 (fun c52 => ?_) (fun c52 => ?_)
    · replace h := fm_itp c52 h
      refine fm_fgt [some (.ref 66), some (.ref a1), some (.ref a2), some (.int l3), some (.int l4), none, none, none] (by simp [fm_sub]) ?_
      cases h
      exact k1 _ _ rfl
    · replace h := fm_itn c52 h
      refine fl_aload2 (pc := 55) dX0_listen_55 ?_
      refine fm_getr (pc := 56) lk_0_70 (shSt0 ga2) rfl dX0_listen_56 ?_
      refine fl_iload4 (pc := 59) dX0_listen_59 ?_
      obtain ⟨g8, h⟩ := fm_gdp h
      refine fm_iald (pc := 61) (shSt1 ga2) (fm_inb_ok g8) dX0_listen_61 ?_
      obtain ⟨x9, ex9, h⟩ := fm_ltp h
      refine fm_cgi ex9 ?_
      refine fl_istore5 (pc := 62) rfl (by decide) dX0_listen_62 ?_
      refine fm_iconstv (pc := 64) 0 (by decide) dX0_listen_64 ?_
      refine fl_istore6 (pc := 65) rfl (by decide) dX0_listen_65 ?_
      obtain ⟨w21, M22, ew21, h⟩ := fm_bdp h
      refine lp_X0_listen_67 ga1 ga2 ?_ _ _ _ ew21
      intro w219 M229 q9
      cases q9
      refine fl_aload2 (pc := 136) dX0_listen_136 ?_
      refine fm_getr (pc := 137) lk_0_70 (shSt0 ga2) rfl dX0_listen_137 ?_
      refine fl_iload4 (pc := 140) dX0_listen_140 ?_
      refine fl_iload5 (pc := 142) dX0_listen_142 ?_
      obtain ⟨g23, h⟩ := fm_gdp h
      refine fm_iast (pc := 144) (shSt1 ga2) (fm_inb_ok g23) dX0_listen_144 ?_
      obtain ⟨M24, eM24, h⟩ := fm_ltp h
      refine fm_cgm eM24 ?_
      refine fl_iinc4 (pc := 145) rfl 1 (by decide) (by decide) dX0_listen_145 ?_
      refine fm_goto (pc := 148) 46 (by decide) dX0_listen_148 ?_
      refine fm_fgt [some (.ref 66), some (.ref a1), some (.ref a2), some (.int l3), some (.int (l4 + 1)), none, none, none] (by simp [fm_sub]) ?_
      exact ih _ _ h
theorem sp_X0_listen {d : Nat} {a1 : Nat} {a2 : Nat} {a3 : Int32} {M : fm_M} {x : Unit × fm_M} {Q : Option Value → fm_M → Prop} (h : F_X0_listen a1 a2 a3 M = some x) (hq : Q none x.2) : fm_ct (d + 4) mX0_listen [.ref 66, .ref a1, .ref a2, .int a3] M Q := by
  rw [F_X0_listen] at h
  show fm_mw (d + 4) mX0_listen Q 0 [some (.ref 66), some (.ref a1), some (.ref a2), some (.int a3), none, none, none, none] [] M
  obtain ⟨ga1, h⟩ := fm_gdp h
  obtain ⟨ga2, h⟩ := fm_gdp h
  refine fl_aload0 (pc := 0) dX0_listen_0 ?_
  refine fm_iconstv (pc := 1) 0 (by decide) dX0_listen_1 ?_
  refine fm_puti (pc := 2) lp_0_61 sh_66 rfl dX0_listen_2 ?_
  obtain ⟨M1, eM1, h⟩ := fm_ltp h
  refine fm_cgm eM1 ?_
  refine fl_aload0 (pc := 5) dX0_listen_5 ?_
  refine fm_geti (pc := 6) lk_0_36 sh_66 rfl dX0_listen_6 ?_
  obtain ⟨x2, ex2, h⟩ := fm_ltp h
  refine fm_cgi ex2 ?_
  refine fl_istore4 (pc := 9) rfl (by decide) dX0_listen_9 ?_
  obtain ⟨w6, M7, ew6, h⟩ := fm_bdp h
  refine lp_X0_listen_11 ga1 ga2 ?_ _ _ _ ew6
  intro w69 M79 q9
  cases q9
  refine fm_iconstv (pc := 43) 0 (by decide) dX0_listen_43 ?_
  refine fl_istore4 (pc := 44) rfl (by decide) dX0_listen_44 ?_
  obtain ⟨w25, M26, ew25, h⟩ := fm_bdp h
  refine lp_X0_listen_46 ga1 ga2 ?_ _ _ _ ew25
  intro w259 M269 q9
  cases q9
  refine fm_vret (pc := 151) rfl ?_ dX0_listen_151
  cases h
  exact hq
