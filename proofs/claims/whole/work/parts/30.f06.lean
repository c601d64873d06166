/-! X10_here -/
def F_X10_here  (M : fm_M) : Option (Int32 × fm_M) :=
    if (M.1 76 19) ≤ (M.1 76 20) then (
      some ((-1), M)
    ) else (
      fm_gd (fm_inb (M.1 76 20) 700) (
      some ((M.1 77 (Int32.toNatClampNeg (M.1 76 20))), M))
    )
theorem sp_X10_here {d : Nat}  {M : fm_M} {x : Int32 × fm_M} {Q : Option Value → fm_M → Prop} (h : F_X10_here  M = some x) (hq : Q (some (.int x.1)) x.2) : fm_ct d mX10_here [.ref 76] M Q := by
  rw [F_X10_here] at h
  show fm_mw d mX10_here Q 0 [some (.ref 76)] [] M
  refine fl_aload0 (pc := 0) dX10_here_0 ?_
  refine fm_geti (pc := 1) lk_10_136 sh_76 rfl dX10_here_1 ?_
  refine fl_aload0 (pc := 4) dX10_here_4 ?_
  refine fm_geti (pc := 5) lk_10_139 sh_76 rfl dX10_here_5 ?_
  refine fm_icmp_ge (pc := 8) 23 (by decide) dX10_here_8 (fun c8 => ?_) (fun c8 => ?_)
  · replace h := fm_itp c8 h
    refine fm_iconstv (pc := 23) (-1) (by decide) dX10_here_23 ?_
    refine fm_iret (pc := 24) rfl ?_ dX10_here_24
    cases h
    exact hq
  · replace h := fm_itn c8 h
    refine fl_aload0 (pc := 11) dX10_here_11 ?_
    refine fm_getr (pc := 12) lk_10_7 sh_76 rfl dX10_here_12 ?_
    refine fl_aload0 (pc := 15) dX10_here_15 ?_
    refine fm_geti (pc := 16) lk_10_136 sh_76 rfl dX10_here_16 ?_
    obtain ⟨g1, h⟩ := fm_gdp h
    refine fm_iald (pc := 19) sh_77 (fm_inb_ok g1) dX10_here_19 ?_
    refine fm_goto (pc := 20) 24 (by decide) dX10_here_20 ?_
    refine fm_iret (pc := 24) rfl ?_ dX10_here_24
    cases h
    exact hq
/-! X10_isSmall -/
def F_X10_isSmall (a0 : Int32) (M : fm_M) : Option (Int32 × fm_M) :=
    if a0 < 97 then (
      some (0, M)
    ) else (
      if 122 < a0 then (
        some (0, M)
      ) else (
        some (1, M)
      )
    )
theorem sp_X10_isSmall {d : Nat} {a0 : Int32} {M : fm_M} {x : Int32 × fm_M} {Q : Option Value → fm_M → Prop} (h : F_X10_isSmall a0 M = some x) (hq : Q (some (.int x.1)) x.2) : fm_ct d mX10_isSmall [.int a0] M Q := by
  rw [F_X10_isSmall] at h
  show fm_mw d mX10_isSmall Q 0 [some (.int a0)] [] M
  refine fl_iload0 (pc := 0) dX10_isSmall_0 ?_
  refine fm_bipushv (pc := 1) 97 (by decide) dX10_isSmall_1 ?_
  refine fm_icmp_lt (pc := 3) 16 (by decide) dX10_isSmall_3 (fun c3 => ?_) (fun c3 => ?_)
  · replace h := fm_itp c3 h
    refine fm_iconstv (pc := 16) 0 (by decide) dX10_isSmall_16 ?_
    refine fm_zret (pc := 17) rfl (by decide) ?_ dX10_isSmall_17
    cases h
    exact hq
  · replace h := fm_itn c3 h
    refine fl_iload0 (pc := 6) dX10_isSmall_6 ?_
    refine fm_bipushv (pc := 7) 122 (by decide) dX10_isSmall_7 ?_
    refine fm_icmp_gt (pc := 9) 16 (by decide) dX10_isSmall_9 (fun c9 => ?_) (fun c9 => ?_)
    · replace h := fm_itp c9 h
      refine fm_iconstv (pc := 16) 0 (by decide) dX10_isSmall_16 ?_
      refine fm_zret (pc := 17) rfl (by decide) ?_ dX10_isSmall_17
      cases h
      exact hq
    · replace h := fm_itn c9 h
      refine fm_iconstv (pc := 12) 1 (by decide) dX10_isSmall_12 ?_
      refine fm_goto (pc := 13) 17 (by decide) dX10_isSmall_13 ?_
      refine fm_zret (pc := 17) rfl (by decide) ?_ dX10_isSmall_17
      cases h
      exact hq
/-! X10_isDigit -/
def F_X10_isDigit (a0 : Int32) (M : fm_M) : Option (Int32 × fm_M) :=
    if a0 < 48 then (
      some (0, M)
    ) else (
      if 57 < a0 then (
        some (0, M)
      ) else (
        some (1, M)
      )
    )
theorem sp_X10_isDigit {d : Nat} {a0 : Int32} {M : fm_M} {x : Int32 × fm_M} {Q : Option Value → fm_M → Prop} (h : F_X10_isDigit a0 M = some x) (hq : Q (some (.int x.1)) x.2) : fm_ct d mX10_isDigit [.int a0] M Q := by
  rw [F_X10_isDigit] at h
  show fm_mw d mX10_isDigit Q 0 [some (.int a0)] [] M
  refine fl_iload0 (pc := 0) dX10_isDigit_0 ?_
  refine fm_bipushv (pc := 1) 48 (by decide) dX10_isDigit_1 ?_
  refine fm_icmp_lt (pc := 3) 16 (by decide) dX10_isDigit_3 (fun c3 => ?_) (fun c3 => ?_)
  · replace h := fm_itp c3 h
    refine fm_iconstv (pc := 16) 0 (by decide) dX10_isDigit_16 ?_
    refine fm_zret (pc := 17) rfl (by decide) ?_ dX10_isDigit_17
    cases h
    exact hq
  · replace h := fm_itn c3 h
    refine fl_iload0 (pc := 6) dX10_isDigit_6 ?_
    refine fm_bipushv (pc := 7) 57 (by decide) dX10_isDigit_7 ?_
    refine fm_icmp_gt (pc := 9) 16 (by decide) dX10_isDigit_9 (fun c9 => ?_) (fun c9 => ?_)
    · replace h := fm_itp c9 h
      refine fm_iconstv (pc := 16) 0 (by decide) dX10_isDigit_16 ?_
      refine fm_zret (pc := 17) rfl (by decide) ?_ dX10_isDigit_17
      cases h
      exact hq
    · replace h := fm_itn c9 h
      refine fm_iconstv (pc := 12) 1 (by decide) dX10_isDigit_12 ?_
      refine fm_goto (pc := 13) 17 (by decide) dX10_isDigit_13 ?_
      refine fm_zret (pc := 17) rfl (by decide) ?_ dX10_isDigit_17
      cases h
      exact hq
/-! X10_name -/
def G_X10_name_7 : Nat → Int32 → fm_M → Option ((Int32) × fm_M)
  | 0, _, _ => none
  | n + 1, l1, M =>
    if 6 ≤ l1 then (
      some (l1, M)
    ) else (
      if (M.1 76 20) ≤ ((M.1 76 21) + l1) then (
        fm_lt (fm_up M 76 23 (((M.1 76 23) <<< (5 &&& 31)) ||| 0)) (fun M2 =>
        G_X10_name_7 n (l1 + 1) M2)
      ) else (
        fm_gd (fm_inb ((M.1 76 21) + l1) 700) (
        fm_lt (fm_up M 76 23 (((M.1 76 23) <<< (5 &&& 31)) ||| (((M.1 77 (Int32.toNatClampNeg ((M.1 76 21) + l1))) - 97) + 1))) (fun M4 =>
        G_X10_name_7 n (l1 + 1) M4))
      )
    )
def F_X10_name  (M : fm_M) : Option (Unit × fm_M) :=
    fm_lt (fm_up M 76 23 0) (fun M1 =>
    fm_bd (G_X10_name_7 fm_fuel 0 M1) (fun w5 M6 =>
      some ((), M6)))
theorem lp_X10_name_7 {d : Nat} {Q : Option Value → fm_M → Prop}    {x : (Int32) × fm_M} (k1 : ∀ (v : Int32) (M2 : fm_M), x = (v, M2) → fm_mw d mX10_name Q 63 [some (.ref 76), some (.int v)] [] M2) : ∀ (n : Nat) (l1 : Int32) (M : fm_M), G_X10_name_7 n l1 M = some x → fm_mw d mX10_name Q 7 [some (.ref 76), some (.int l1)] [] M := by
  intro n
  induction n with
  | zero => intro l1 M h; simp [G_X10_name_7] at h
  | succ n ih =>
    intro l1 M h
    rw [G_X10_name_7] at h
    refine fl_iload1 (pc := 7) dX10_name_7 ?_
    refine fm_bipushv (pc := 8) 6 (by decide) dX10_name_8 ?_
    refine fm_icmp_ge (pc := 10) 63 (by decide) dX10_name_10 (fun c10 => ?_) (fun c10 => ?_)
    · replace h := fm_itp c10 h
      refine fm_fgt [some (.ref 76), some (.int l1)] (by simp [fm_sub]) ?_
      cases h
      exact k1 _ _ rfl
    · replace h := fm_itn c10 h
      refine fl_aload0 (pc := 13) dX10_name_13 ?_
      refine fl_aload0 (pc := 14) dX10_name_14 ?_
      refine fm_geti (pc := 15) lk_10_159 sh_76 rfl dX10_name_15 ?_
      refine fm_iconstv (pc := 18) 5 (by decide) dX10_name_18 ?_
      refine fm_ishl (pc := 19) dX10_name_19 ?_
      refine fl_aload0 (pc := 20) dX10_name_20 ?_
      refine fm_geti (pc := 21) lk_10_146 sh_76 rfl dX10_name_21 ?_
      refine fl_iload1 (pc := 24) dX10_name_24 ?_
      refine fm_iadd (pc := 25) dX10_name_25 ?_
      refine fl_aload0 (pc := 26) dX10_name_26 ?_
      refine fm_geti (pc := 27) lk_10_136 sh_76 rfl dX10_name_27 ?_
      refine fm_icmp_ge (pc := 30) 52 (by decide) dX10_name_30 (fun c30 => ?_) (fun c30 => ?_)
      · replace h := fm_itp c30 h
        refine fm_iconstv (pc := 52) 0 (by decide) dX10_name_52 ?_
        refine fm_ior (pc := 53) dX10_name_53 ?_
        refine fm_puti (pc := 54) lp_10_159 sh_76 rfl dX10_name_54 ?_
        obtain ⟨M2, eM2, h⟩ := fm_ltp h
        refine fm_cgm eM2 ?_
        refine fl_iinc1 (pc := 57) rfl 1 (by decide) (by decide) dX10_name_57 ?_
        refine fm_goto (pc := 60) 7 (by decide) dX10_name_60 ?_
        refine fm_fgt [some (.ref 76), some (.int (l1 + 1))] (by simp [fm_sub]) ?_
        exact ih _ _ h
      · replace h := fm_itn c30 h
        refine fl_aload0 (pc := 33) dX10_name_33 ?_
        refine fm_getr (pc := 34) lk_10_7 sh_76 rfl dX10_name_34 ?_
        refine fl_aload0 (pc := 37) dX10_name_37 ?_
        refine fm_geti (pc := 38) lk_10_146 sh_76 rfl dX10_name_38 ?_
        refine fl_iload1 (pc := 41) dX10_name_41 ?_
        refine fm_iadd (pc := 42) dX10_name_42 ?_
        obtain ⟨g3, h⟩ := fm_gdp h
        refine fm_iald (pc := 43) sh_77 (fm_inb_ok g3) dX10_name_43 ?_
        refine fm_bipushv (pc := 44) 97 (by decide) dX10_name_44 ?_
        refine fm_isub (pc := 46) dX10_name_46 ?_
        refine fm_iconstv (pc := 47) 1 (by decide) dX10_name_47 ?_
        refine fm_iadd (pc := 48) dX10_name_48 ?_
        refine fm_goto (pc := 49) 53 (by decide) dX10_name_49 ?_
        refine fm_ior (pc := 53) dX10_name_53 ?_
        refine fm_puti (pc := 54) lp_10_159 sh_76 rfl dX10_name_54 ?_
        obtain ⟨M4, eM4, h⟩ := fm_ltp h
        refine fm_cgm eM4 ?_
        refine fl_iinc1 (pc := 57) rfl 1 (by decide) (by decide) dX10_name_57 ?_
        refine fm_goto (pc := 60) 7 (by decide) dX10_name_60 ?_
        refine fm_fgt [some (.ref 76), some (.int (l1 + 1))] (by simp [fm_sub]) ?_
        exact ih _ _ h
theorem sp_X10_name {d : Nat}  {M : fm_M} {x : Unit × fm_M} {Q : Option Value → fm_M → Prop} (h : F_X10_name  M = some x) (hq : Q none x.2) : fm_ct d mX10_name [.ref 76] M Q := by
  rw [F_X10_name] at h
  show fm_mw d mX10_name Q 0 [some (.ref 76), none] [] M
  refine fl_aload0 (pc := 0) dX10_name_0 ?_
  refine fm_iconstv (pc := 1) 0 (by decide) dX10_name_1 ?_
  refine fm_puti (pc := 2) lp_10_159 sh_76 rfl dX10_name_2 ?_
  obtain ⟨M1, eM1, h⟩ := fm_ltp h
  refine fm_cgm eM1 ?_
  refine fm_iconstv (pc := 5) 0 (by decide) dX10_name_5 ?_
  refine fl_istore1 (pc := 6) rfl (by decide) dX10_name_6 ?_
  obtain ⟨w5, M6, ew5, h⟩ := fm_bdp h
  refine lp_X10_name_7  ?_ _ _ _ ew5
  intro w59 M69 q9
  cases q9
  refine fm_vret (pc := 63) rfl ?_ dX10_name_63
  cases h
  exact hq
/-! X10_sign -/
def J_X10_sign_150 (l1 : Int32) (M : fm_M) : Option (Unit × fm_M) :=
    if (M.1 76 23) < 256 then (
      some ((), M)
    ) else (
      fm_lt (fm_up M 76 20 ((M.1 76 20) + 1)) (fun M4 =>
      some ((), M4))
    )
def J_X10_sign_128 (l1 : Int32) (M : fm_M) : Option (Unit × fm_M) :=
    if l1 = 62 then (
      fm_bd (F_X10_here M) (fun v5 M6 =>
      if v5 = 61 then (
        fm_lt (fm_up M6 76 23 258) (fun M7 =>
        J_X10_sign_150 l1 M7)
      ) else (
        J_X10_sign_150 l1 M6
      ))
    ) else (
      J_X10_sign_150 l1 M
    )
def J_X10_sign_106 (l1 : Int32) (M : fm_M) : Option (Unit × fm_M) :=
    if l1 = 60 then (
      fm_bd (F_X10_here M) (fun v8 M9 =>
      if v8 = 62 then (
        fm_lt (fm_up M9 76 23 257) (fun M10 =>
        J_X10_sign_128 l1 M10)
      ) else (
        J_X10_sign_128 l1 M9
      ))
    ) else (
      J_X10_sign_128 l1 M
    )
def J_X10_sign_76 (l1 : Int32) (s1 : Int32) (M : fm_M) : Option (Unit × fm_M) :=
    fm_lt (fm_up M 76 22 s1) (fun M2 =>
    fm_lt (fm_up M2 76 23 l1) (fun M3 =>
    if l1 = 60 then (
      fm_bd (F_X10_here M3) (fun v11 M12 =>
      if v11 = 61 then (
        fm_lt (fm_up M12 76 23 256) (fun M13 =>
        J_X10_sign_106 l1 M13)
      ) else (
        J_X10_sign_106 l1 M12
      ))
    ) else (
      J_X10_sign_106 l1 M3
    )))
def J_X10_sign_71 (l1 : Int32) (M : fm_M) : Option (Unit × fm_M) :=
    J_X10_sign_76 l1 3 M
def F_X10_sign (a1 : Int32) (M : fm_M) : Option (Unit × fm_M) :=
    fm_lt (fm_up M 76 20 ((M.1 76 20) + 1)) (fun M1 =>
    if a1 = 59 then (
      J_X10_sign_71 a1 M1
    ) else (
      if a1 = 40 then (
        J_X10_sign_71 a1 M1
      ) else (
        if a1 = 41 then (
          J_X10_sign_71 a1 M1
        ) else (
          if a1 = 43 then (
            J_X10_sign_71 a1 M1
          ) else (
            if a1 = 45 then (
              J_X10_sign_71 a1 M1
            ) else (
              if a1 = 42 then (
                J_X10_sign_71 a1 M1
              ) else (
                if a1 = 47 then (
                  J_X10_sign_71 a1 M1
                ) else (
                  if a1 = 60 then (
                    J_X10_sign_71 a1 M1
                  ) else (
                    if a1 = 61 then (
                      J_X10_sign_71 a1 M1
                    ) else (
                      if a1 = 62 then (
                        J_X10_sign_71 a1 M1
                      ) else (
                        J_X10_sign_76 a1 5 M1
                      )
                    )
                  )
                )
              )
            )
          )
        )
      )
    ))
theorem jn_X10_sign_150 {d : Nat} {Q : Option Value → fm_M → Prop}  (l1 : Int32) {x : Unit × fm_M}  (hq : Q none x.2) (M : fm_M) (h : J_X10_sign_150 l1 M = some x) : fm_mw (d + 1) mX10_sign Q 150 [some (.ref 76), some (.int l1)] [] M := by
  rw [J_X10_sign_150] at h
  refine fl_aload0 (pc := 150) dX10_sign_150 ?_
  refine fm_geti (pc := 151) lk_10_159 sh_76 rfl dX10_sign_151 ?_
  refine fm_sipushv (pc := 154) 256 (by decide) dX10_sign_154 ?_
  refine fm_icmp_lt (pc := 157) 170 (by decide) dX10_sign_157 (fun c157 => ?_) (fun c157 => ?_)
  · replace h := fm_itp c157 h
    refine fm_vret (pc := 170) rfl ?_ dX10_sign_170
    cases h
    exact hq
  · replace h := fm_itn c157 h
    refine fl_aload0 (pc := 160) dX10_sign_160 ?_
    refine fm_dup (pc := 161) rfl dX10_sign_161 ?_
    refine fm_geti (pc := 162) lk_10_136 sh_76 rfl dX10_sign_162 ?_
    refine fm_iconstv (pc := 165) 1 (by decide) dX10_sign_165 ?_
    refine fm_iadd (pc := 166) dX10_sign_166 ?_
    refine fm_puti (pc := 167) lp_10_136 sh_76 rfl dX10_sign_167 ?_
    obtain ⟨M4, eM4, h⟩ := fm_ltp h
    refine fm_cgm eM4 ?_
    refine fm_vret (pc := 170) rfl ?_ dX10_sign_170
    cases h
    exact hq
theorem jn_X10_sign_128 {d : Nat} {Q : Option Value → fm_M → Prop}  (l1 : Int32) {x : Unit × fm_M}  (hq : Q none x.2) (M : fm_M) (h : J_X10_sign_128 l1 M = some x) : fm_mw (d + 1) mX10_sign Q 128 [some (.ref 76), some (.int l1)] [] M := by
  rw [J_X10_sign_128] at h
  refine fl_iload1 (pc := 128) dX10_sign_128 ?_
  refine fm_bipushv (pc := 129) 62 (by decide) dX10_sign_129 ?_
  refine fm_icmp_ne (pc := 131) 150 (by decide) dX10_sign_131 (fun c131 => ?_) (fun c131 => ?_)
  · replace h := fm_itn c131 h
    exact jn_X10_sign_150 _  hq _ h
  · replace h := fm_itp c131 h
    refine fl_aload0 (pc := 134) dX10_sign_134 ?_
    obtain ⟨v5, M6, ev5, h⟩ := fm_bdp h
    refine fm_callV (pc := 135) mX10_here [] _ rfl cvX10_here ml_10_142 sh_76 rfl rfl (Nat.le_of_ble_eq_true rfl) (Nat.le_of_ble_eq_true rfl) dX10_sign_135 ?_
    refine sp_X10_here ev5 ?_
    refine fm_ret1 ?_
    refine fm_bipushv (pc := 138) 61 (by decide) dX10_sign_138 ?_
    refine fm_icmp_ne (pc := 140) 150 (by decide) dX10_sign_140 (fun c140 => ?_) (fun c140 => ?_)
    · replace h := fm_itn c140 h
      exact jn_X10_sign_150 _  hq _ h
    · replace h := fm_itp c140 h
      refine fl_aload0 (pc := 143) dX10_sign_143 ?_
      refine fm_sipushv (pc := 144) 258 (by decide) dX10_sign_144 ?_
      refine fm_puti (pc := 147) lp_10_159 sh_76 rfl dX10_sign_147 ?_
      obtain ⟨M7, eM7, h⟩ := fm_ltp h
      refine fm_cgm eM7 ?_
      exact jn_X10_sign_150 _  hq _ h
theorem jn_X10_sign_106 {d : Nat} {Q : Option Value → fm_M → Prop}  (l1 : Int32) {x : Unit × fm_M}  (hq : Q none x.2) (M : fm_M) (h : J_X10_sign_106 l1 M = some x) : fm_mw (d + 1) mX10_sign Q 106 [some (.ref 76), some (.int l1)] [] M := by
  rw [J_X10_sign_106] at h
  refine fl_iload1 (pc := 106) dX10_sign_106 ?_
  refine fm_bipushv (pc := 107) 60 (by decide) dX10_sign_107 ?_
  refine fm_icmp_ne (pc := 109) 128 (by decide) dX10_sign_109 (fun c109 => ?_) (fun c109 => ?_)
  · replace h := fm_itn c109 h
    exact jn_X10_sign_128 _  hq _ h
  · replace h := fm_itp c109 h
    refine fl_aload0 (pc := 112) dX10_sign_112 ?_
    obtain ⟨v8, M9, ev8, h⟩ := fm_bdp h
    refine fm_callV (pc := 113) mX10_here [] _ rfl cvX10_here ml_10_142 sh_76 rfl rfl (Nat.le_of_ble_eq_true rfl) (Nat.le_of_ble_eq_true rfl) dX10_sign_113 ?_
    refine sp_X10_here ev8 ?_
    refine fm_ret1 ?_
    refine fm_bipushv (pc := 116) 62 (by decide) dX10_sign_116 ?_
    refine fm_icmp_ne (pc := 118) 128 (by decide) dX10_sign_118 (fun c118 => ?_) (fun c118 => ?_)
    · replace h := fm_itn c118 h
      exact jn_X10_sign_128 _  hq _ h
    · replace h := fm_itp c118 h
      refine fl_aload0 (pc := 121) dX10_sign_121 ?_
      refine fm_sipushv (pc := 122) 257 (by decide) dX10_sign_122 ?_
      refine fm_puti (pc := 125) lp_10_159 sh_76 rfl dX10_sign_125 ?_
      obtain ⟨M10, eM10, h⟩ := fm_ltp h
      refine fm_cgm eM10 ?_
      exact jn_X10_sign_128 _  hq _ h
theorem jn_X10_sign_76 {d : Nat} {Q : Option Value → fm_M → Prop}  (l1 : Int32) (s1 : Int32) {x : Unit × fm_M}  (hq : Q none x.2) (M : fm_M) (h : J_X10_sign_76 l1 s1 M = some x) : fm_mw (d + 1) mX10_sign Q 76 [some (.ref 76), some (.int l1)] [(.int s1), (.ref 76)] M := by
  rw [J_X10_sign_76] at h
  refine fm_puti (pc := 76) lp_10_149 sh_76 rfl dX10_sign_76 ?_
  obtain ⟨M2, eM2, h⟩ := fm_ltp h
  refine fm_cgm eM2 ?_
  refine fl_aload0 (pc := 79) dX10_sign_79 ?_
  refine fl_iload1 (pc := 80) dX10_sign_80 ?_
  refine fm_puti (pc := 81) lp_10_159 sh_76 rfl dX10_sign_81 ?_
  obtain ⟨M3, eM3, h⟩ := fm_ltp h
  refine fm_cgm eM3 ?_
  refine fl_iload1 (pc := 84) dX10_sign_84 ?_
  refine fm_bipushv (pc := 85) 60 (by decide) dX10_sign_85 ?_
  refine fm_icmp_ne (pc := 87) 106 (by decide) dX10_sign_87 (fun c87 => ?_) (fun c87 => ?_)
  · replace h := fm_itn c87 h
    exact jn_X10_sign_106 _  hq _ h
  · replace h := fm_itp c87 h
    refine fl_aload0 (pc := 90) dX10_sign_90 ?_
    obtain ⟨v11, M12, ev11, h⟩ := fm_bdp h
    refine fm_callV (pc := 91) mX10_here [] _ rfl cvX10_here ml_10_142 sh_76 rfl rfl (Nat.le_of_ble_eq_true rfl) (Nat.le_of_ble_eq_true rfl) dX10_sign_91 ?_
    refine sp_X10_here ev11 ?_
    refine fm_ret1 ?_
    refine fm_bipushv (pc := 94) 61 (by decide) dX10_sign_94 ?_
    refine fm_icmp_ne (pc := 96) 106 (by decide) dX10_sign_96 (fun c96 => ?_) (fun c96 => ?_)
    · replace h := fm_itn c96 h
      exact jn_X10_sign_106 _  hq _ h
    · replace h := fm_itp c96 h
      refine fl_aload0 (pc := 99) dX10_sign_99 ?_
      refine fm_sipushv (pc := 100) 256 (by decide) dX10_sign_100 ?_
      refine fm_puti (pc := 103) lp_10_159 sh_76 rfl dX10_sign_103 ?_
      obtain ⟨M13, eM13, h⟩ := fm_ltp h
      refine fm_cgm eM13 ?_
      exact jn_X10_sign_106 _  hq _ h
theorem jn_X10_sign_71 {d : Nat} {Q : Option Value → fm_M → Prop}  (l1 : Int32) {x : Unit × fm_M}  (hq : Q none x.2) (M : fm_M) (h : J_X10_sign_71 l1 M = some x) : fm_mw (d + 1) mX10_sign Q 71 [some (.ref 76), some (.int l1)] [(.ref 76)] M := by
  rw [J_X10_sign_71] at h
  refine fm_iconstv (pc := 71) 3 (by decide) dX10_sign_71 ?_
  refine fm_goto (pc := 72) 76 (by decide) dX10_sign_72 ?_
  exact jn_X10_sign_76 _ _  hq _ h
theorem sp_X10_sign {d : Nat} {a1 : Int32} {M : fm_M} {x : Unit × fm_M} {Q : Option Value → fm_M → Prop} (h : F_X10_sign a1 M = some x) (hq : Q none x.2) : fm_ct (d + 1) mX10_sign [.ref 76, .int a1] M Q := by
  rw [F_X10_sign] at h
  show fm_mw (d + 1) mX10_sign Q 0 [some (.ref 76), some (.int a1)] [] M
  refine fl_aload0 (pc := 0) dX10_sign_0 ?_
  refine fm_dup (pc := 1) rfl dX10_sign_1 ?_
  refine fm_geti (pc := 2) lk_10_136 sh_76 rfl dX10_sign_2 ?_
  refine fm_iconstv (pc := 5) 1 (by decide) dX10_sign_5 ?_
  refine fm_iadd (pc := 6) dX10_sign_6 ?_
  refine fm_puti (pc := 7) lp_10_136 sh_76 rfl dX10_sign_7 ?_
  obtain ⟨M1, eM1, h⟩ := fm_ltp h
  refine fm_cgm eM1 ?_
  refine fl_aload0 (pc := 10) dX10_sign_10 ?_
  refine fl_iload1 (pc := 11) dX10_sign_11 ?_
  refine fm_bipushv (pc := 12) 59 (by decide) dX10_sign_12 ?_
  refine fm_icmp_eq (pc := 14) 71 (by decide) dX10_sign_14 (fun c14 => ?_) (fun c14 => ?_)
  · replace h := fm_itp c14 h
    exact jn_X10_sign_71 _  hq _ h
  · replace h := fm_itn c14 h
    refine fl_iload1 (pc := 17) dX10_sign_17 ?_
    refine fm_bipushv (pc := 18) 40 (by decide) dX10_sign_18 ?_
    refine fm_icmp_eq (pc := 20) 71 (by decide) dX10_sign_20 (fun c20 => ?_) (fun c20 => ?_)
    · replace h := fm_itp c20 h
      exact jn_X10_sign_71 _  hq _ h
    · replace h := fm_itn c20 h
      refine fl_iload1 (pc := 23) dX10_sign_23 ?_
      refine fm_bipushv (pc := 24) 41 (by decide) dX10_sign_24 ?_
      refine fm_icmp_eq (pc := 26) 71 (by decide) dX10_sign_26 (fun c26 => ?_) (fun c26 => ?_)
      · replace h := fm_itp c26 h
        exact jn_X10_sign_71 _  hq _ h
      · replace h := fm_itn c26 h
        refine fl_iload1 (pc := 29) dX10_sign_29 ?_
        refine fm_bipushv (pc := 30) 43 (by decide) dX10_sign_30 ?_
        refine fm_icmp_eq (pc := 32) 71 (by decide) dX10_sign_32 (fun c32 => ?_) (fun c32 => ?_)
        · replace h := fm_itp c32 h
          exact jn_X10_sign_71 _  hq _ h
        · replace h := fm_itn c32 h
          refine fl_iload1 (pc := 35) dX10_sign_35 ?_
          refine fm_bipushv (pc := 36) 45 (by decide) dX10_sign_36 ?_
          refine fm_icmp_eq (pc := 38) 71 (by decide) dX10_sign_38 (fun c38 => ?_) (fun c38 => ?_)
          · replace h := fm_itp c38 h
            exact jn_X10_sign_71 _  hq _ h
          · replace h := fm_itn c38 h
            refine fl_iload1 (pc := 41) dX10_sign_41 ?_
            refine fm_bipushv (pc := 42) 42 (by decide) dX10_sign_42 ?_
            refine fm_icmp_eq (pc := 44) 71 (by decide) dX10_sign_44 (fun c44 => ?_) (fun c44 => ?_)
            · replace h := fm_itp c44 h
              exact jn_X10_sign_71 _  hq _ h
            · replace h := fm_itn c44 h
              refine fl_iload1 (pc := 47) dX10_sign_47 ?_
              refine fm_bipushv (pc := 48) 47 (by decide) dX10_sign_48 ?_
              refine fm_icmp_eq (pc := 50) 71 (by decide) dX10_sign_50 (fun c50 => ?_) (fun c50 => ?_)
              · replace h := fm_itp c50 h
                exact jn_X10_sign_71 _  hq _ h
              · replace h := fm_itn c50 h
                refine fl_iload1 (pc := 53) dX10_sign_53 ?_
                refine fm_bipushv (pc := 54) 60 (by decide) dX10_sign_54 ?_
                refine fm_icmp_eq (pc := 56) 71 (by decide) dX10_sign_56 (fun c56 => ?_) (fun c56 => ?_)
                · replace h := fm_itp c56 h
                  exact jn_X10_sign_71 _  hq _ h
                · replace h := fm_itn c56 h
                  refine fl_iload1 (pc := 59) dX10_sign_59 ?_
                  refine fm_bipushv (pc := 60) 61 (by decide) dX10_sign_60 ?_
                  refine fm_icmp_eq (pc := 62) 71 (by decide) dX10_sign_62 (fun c62 => ?_) (fun c62 => ?_)
                  · replace h := fm_itp c62 h
                    exact jn_X10_sign_71 _  hq _ h
                  · replace h := fm_itn c62 h
                    refine fl_iload1 (pc := 65) dX10_sign_65 ?_
                    refine fm_bipushv (pc := 66) 62 (by decide) dX10_sign_66 ?_
                    refine fm_icmp_ne (pc := 68) 75 (by decide) dX10_sign_68 (fun c68 => ?_) (fun c68 => ?_)
                    · replace h := fm_itn c68 h
                      refine fm_iconstv (pc := 75) 5 (by decide) dX10_sign_75 ?_
                      exact jn_X10_sign_76 _ _  hq _ h
                    · replace h := fm_itp c68 h
                      exact jn_X10_sign_71 _  hq _ h
/-! X10_wrong -/
def F_X10_wrong (a1 : Int32) (M : fm_M) : Option (Unit × fm_M) :=
    if (M.1 76 24) = 0 then (
      fm_lt (fm_up M 76 24 a1) (fun M1 =>
      fm_lt (fm_up M1 76 25 (M1.1 76 21)) (fun M2 =>
      some ((), M2)))
    ) else (
      some ((), M)
    )
theorem sp_X10_wrong {d : Nat} {a1 : Int32} {M : fm_M} {x : Unit × fm_M} {Q : Option Value → fm_M → Prop} (h : F_X10_wrong a1 M = some x) (hq : Q none x.2) : fm_ct d mX10_wrong [.ref 76, .int a1] M Q := by
  rw [F_X10_wrong] at h
  show fm_mw d mX10_wrong Q 0 [some (.ref 76), some (.int a1)] [] M
  refine fl_aload0 (pc := 0) dX10_wrong_0 ?_
  refine fm_geti (pc := 1) lk_10_184 sh_76 rfl dX10_wrong_1 ?_
  refine fm_if_eq (pc := 4) 8 (by decide) dX10_wrong_4 (fun c4 => ?_) (fun c4 => ?_)
  · replace h := fm_itp c4 h
    refine fl_aload0 (pc := 8) dX10_wrong_8 ?_
    refine fl_iload1 (pc := 9) dX10_wrong_9 ?_
    refine fm_puti (pc := 10) lp_10_184 sh_76 rfl dX10_wrong_10 ?_
    obtain ⟨M1, eM1, h⟩ := fm_ltp h
    refine fm_cgm eM1 ?_
    refine fl_aload0 (pc := 13) dX10_wrong_13 ?_
    refine fl_aload0 (pc := 14) dX10_wrong_14 ?_
    refine fm_geti (pc := 15) lk_10_146 sh_76 rfl dX10_wrong_15 ?_
    refine fm_puti (pc := 18) lp_10_187 sh_76 rfl dX10_wrong_18 ?_
    obtain ⟨M2, eM2, h⟩ := fm_ltp h
    refine fm_cgm eM2 ?_
    refine fm_vret (pc := 21) rfl ?_ dX10_wrong_21
    cases h
    exact hq
  · replace h := fm_itn c4 h
    refine fm_vret (pc := 7) rfl ?_ dX10_wrong_7
    cases h
    exact hq
/-! X10_isWord -/
def F_X10_isWord (a1 : Int32) (M : fm_M) : Option (Int32 × fm_M) :=
    if (M.1 76 24) = 0 then (
      if (M.1 76 22) = 0 then (
        if (M.1 76 23) = a1 then (
          some (1, M)
        ) else (
          some (0, M)
        )
      ) else (
        some (0, M)
      )
    ) else (
      some (0, M)
    )
theorem sp_X10_isWord {d : Nat} {a1 : Int32} {M : fm_M} {x : Int32 × fm_M} {Q : Option Value → fm_M → Prop} (h : F_X10_isWord a1 M = some x) (hq : Q (some (.int x.1)) x.2) : fm_ct d mX10_isWord [.ref 76, .int a1] M Q := by
  rw [F_X10_isWord] at h
  show fm_mw d mX10_isWord Q 0 [some (.ref 76), some (.int a1)] [] M
  refine fl_aload0 (pc := 0) dX10_isWord_0 ?_
  refine fm_geti (pc := 1) lk_10_184 sh_76 rfl dX10_isWord_1 ?_
  refine fm_if_ne (pc := 4) 26 (by decide) dX10_isWord_4 (fun c4 => ?_) (fun c4 => ?_)
  · replace h := fm_itn c4 h
    refine fm_iconstv (pc := 26) 0 (by decide) dX10_isWord_26 ?_
    refine fm_zret (pc := 27) rfl (by decide) ?_ dX10_isWord_27
    cases h
    exact hq
  · replace h := fm_itp c4 h
    refine fl_aload0 (pc := 7) dX10_isWord_7 ?_
    refine fm_geti (pc := 8) lk_10_149 sh_76 rfl dX10_isWord_8 ?_
    refine fm_if_ne (pc := 11) 26 (by decide) dX10_isWord_11 (fun c11 => ?_) (fun c11 => ?_)
    · replace h := fm_itn c11 h
      refine fm_iconstv (pc := 26) 0 (by decide) dX10_isWord_26 ?_
      refine fm_zret (pc := 27) rfl (by decide) ?_ dX10_isWord_27
      cases h
      exact hq
    · replace h := fm_itp c11 h
      refine fl_aload0 (pc := 14) dX10_isWord_14 ?_
      refine fm_geti (pc := 15) lk_10_159 sh_76 rfl dX10_isWord_15 ?_
      refine fl_iload1 (pc := 18) dX10_isWord_18 ?_
      refine fm_icmp_ne (pc := 19) 26 (by decide) dX10_isWord_19 (fun c19 => ?_) (fun c19 => ?_)
      · replace h := fm_itn c19 h
        refine fm_iconstv (pc := 26) 0 (by decide) dX10_isWord_26 ?_
        refine fm_zret (pc := 27) rfl (by decide) ?_ dX10_isWord_27
        cases h
        exact hq
      · replace h := fm_itp c19 h
        refine fm_iconstv (pc := 22) 1 (by decide) dX10_isWord_22 ?_
        refine fm_goto (pc := 23) 27 (by decide) dX10_isWord_23 ?_
        refine fm_zret (pc := 27) rfl (by decide) ?_ dX10_isWord_27
        cases h
        exact hq
/-! X10_isSign -/
def F_X10_isSign (a1 : Int32) (M : fm_M) : Option (Int32 × fm_M) :=
    if (M.1 76 24) = 0 then (
      if (M.1 76 22) = 3 then (
        if (M.1 76 23) = a1 then (
          some (1, M)
        ) else (
          some (0, M)
        )
      ) else (
        some (0, M)
      )
    ) else (
      some (0, M)
    )
theorem sp_X10_isSign {d : Nat} {a1 : Int32} {M : fm_M} {x : Int32 × fm_M} {Q : Option Value → fm_M → Prop} (h : F_X10_isSign a1 M = some x) (hq : Q (some (.int x.1)) x.2) : fm_ct d mX10_isSign [.ref 76, .int a1] M Q := by
  rw [F_X10_isSign] at h
  show fm_mw d mX10_isSign Q 0 [some (.ref 76), some (.int a1)] [] M
  refine fl_aload0 (pc := 0) dX10_isSign_0 ?_
  refine fm_geti (pc := 1) lk_10_184 sh_76 rfl dX10_isSign_1 ?_
  refine fm_if_ne (pc := 4) 27 (by decide) dX10_isSign_4 (fun c4 => ?_) (fun c4 => ?_)
  · replace h := fm_itn c4 h
    refine fm_iconstv (pc := 27) 0 (by decide) dX10_isSign_27 ?_
    refine fm_zret (pc := 28) rfl (by decide) ?_ dX10_isSign_28
    cases h
    exact hq
  · replace h := fm_itp c4 h
    refine fl_aload0 (pc := 7) dX10_isSign_7 ?_
    refine fm_geti (pc := 8) lk_10_149 sh_76 rfl dX10_isSign_8 ?_
    refine fm_iconstv (pc := 11) 3 (by decide) dX10_isSign_11 ?_
    refine fm_icmp_ne (pc := 12) 27 (by decide) dX10_isSign_12 (fun c12 => ?_) (fun c12 => ?_)
    · replace h := fm_itn c12 h
      refine fm_iconstv (pc := 27) 0 (by decide) dX10_isSign_27 ?_
      refine fm_zret (pc := 28) rfl (by decide) ?_ dX10_isSign_28
      cases h
      exact hq
    · replace h := fm_itp c12 h
      refine fl_aload0 (pc := 15) dX10_isSign_15 ?_
      refine fm_geti (pc := 16) lk_10_159 sh_76 rfl dX10_isSign_16 ?_
      refine fl_iload1 (pc := 19) dX10_isSign_19 ?_
      refine fm_icmp_ne (pc := 20) 27 (by decide) dX10_isSign_20 (fun c20 => ?_) (fun c20 => ?_)
      · replace h := fm_itn c20 h
        refine fm_iconstv (pc := 27) 0 (by decide) dX10_isSign_27 ?_
        refine fm_zret (pc := 28) rfl (by decide) ?_ dX10_isSign_28
        cases h
        exact hq
      · replace h := fm_itp c20 h
        refine fm_iconstv (pc := 23) 1 (by decide) dX10_isSign_23 ?_
        refine fm_goto (pc := 24) 28 (by decide) dX10_isSign_24 ?_
        refine fm_zret (pc := 28) rfl (by decide) ?_ dX10_isSign_28
        cases h
        exact hq
/-! X10_found -/
def G_X10_found_3 : Nat → Nat → Nat → Int32 → Int32 → Int32 → Int32 → fm_M → Option (((Int32) ⊕ Int32) × fm_M)
  | 0, _, _, _, _, _, _, _ => none
  | n + 1, a0, n0, l1, l2, l3, l4, M =>
    if l2 ≤ l4 then (
      some (.inl l4, M)
    ) else (
      fm_gd (fm_inb (l1 + l4) n0) (
      if (M.1 a0 (Int32.toNatClampNeg (l1 + l4))) = l3 then (
        some (.inr l4, M)
      ) else (
        G_X10_found_3 n a0 n0 l1 l2 l3 (l4 + 1) M
      ))
    )
def F_X10_found (a0 : Nat) (a1 : Int32) (a2 : Int32) (a3 : Int32) (M : fm_M) : Option (Int32 × fm_M) :=
    fm_bn (fm_arI a0) (fun n0 =>
    fm_bs (G_X10_found_3 fm_fuel a0 n0 a1 a2 a3 0 M) (fun w2 M3 =>
      some ((-1), M3)) (fun r4 M => some (r4, M)))
theorem lp_X10_found_3 {d : Nat} {Q : Option Value → fm_M → Prop} {l1 : Int32} {l2 : Int32} {l3 : Int32} {a0 : Nat} {n0 : Nat} (en0 : fm_arI a0 = some n0) {x : ((Int32) ⊕ Int32) × fm_M} (k1 : ∀ (v : Int32) (M2 : fm_M), x = (.inl v, M2) → fm_mw d mX10_found Q 28 [some (.ref a0), some (.int l1), some (.int l2), some (.int l3), some (.int v)] [] M2) (k2 : ∀ (r : Int32) (M2 : fm_M), x = (.inr r, M2) → Q (some (.int r)) M2) : ∀ (n : Nat) (l4 : Int32) (M : fm_M), G_X10_found_3 n a0 n0 l1 l2 l3 l4 M = some x → fm_mw d mX10_found Q 3 [some (.ref a0), some (.int l1), some (.int l2), some (.int l3), some (.int l4)] [] M := by
  intro n
  induction n with
  | zero => intro l4 M h; simp [G_X10_found_3] at h
  | succ n ih =>
    intro l4 M h
    rw [G_X10_found_3] at h
    refine fl_iload4 (pc := 3) dX10_found_3 ?_
    refine fl_iload2 (pc := 5) dX10_found_5 ?_
    refine fm_icmp_ge (pc := 6) 28 (by decide) dX10_found_6 (fun c6 => ?_) (fun c6 => ?_)
    · replace h := fm_itp c6 h
      refine fm_fgt [some (.ref a0), some (.int l1), some (.int l2), some (.int l3), some (.int l4)] (by simp [fm_sub]) ?_
      cases h
      exact k1 _ _ rfl
    · replace h := fm_itn c6 h
      refine fl_aload0 (pc := 9) dX10_found_9 ?_
      refine fl_iload1 (pc := 10) dX10_found_10 ?_
      refine fl_iload4 (pc := 11) dX10_found_11 ?_
      refine fm_iadd (pc := 13) dX10_found_13 ?_
      obtain ⟨g1, h⟩ := fm_gdp h
      refine fm_iald (pc := 14) (fm_arI_ok en0) (fm_inb_ok g1) dX10_found_14 ?_
      refine fl_iload3 (pc := 15) dX10_found_15 ?_
      refine fm_icmp_ne (pc := 16) 22 (by decide) dX10_found_16 (fun c16 => ?_) (fun c16 => ?_)
      · replace h := fm_itn c16 h
        refine fl_iinc4 (pc := 22) rfl 1 (by decide) (by decide) dX10_found_22 ?_
        refine fm_goto (pc := 25) 3 (by decide) dX10_found_25 ?_
        refine fm_fgt [some (.ref a0), some (.int l1), some (.int l2), some (.int l3), some (.int (l4 + 1))] (by simp [fm_sub]) ?_
        exact ih _ _ h
      · replace h := fm_itp c16 h
        refine fl_iload4 (pc := 19) dX10_found_19 ?_
        refine fm_iret (pc := 21) rfl ?_ dX10_found_21
        cases h
        exact k2 _ _ rfl
theorem sp_X10_found {d : Nat} {a0 : Nat} {a1 : Int32} {a2 : Int32} {a3 : Int32} {M : fm_M} {x : Int32 × fm_M} {Q : Option Value → fm_M → Prop} (h : F_X10_found a0 a1 a2 a3 M = some x) (hq : Q (some (.int x.1)) x.2) : fm_ct d mX10_found [.ref a0, .int a1, .int a2, .int a3] M Q := by
  rw [F_X10_found] at h
  show fm_mw d mX10_found Q 0 [some (.ref a0), some (.int a1), some (.int a2), some (.int a3), none] [] M
  obtain ⟨n0, en0, h⟩ := fm_bnp h
  refine fm_iconstv (pc := 0) 0 (by decide) dX10_found_0 ?_
  refine fl_istore4 (pc := 1) rfl (by decide) dX10_found_1 ?_
  obtain ⟨w9, M3, ew2, hl9, hr9⟩ := fm_bsp h
  refine lp_X10_found_3 en0 ?_ ?_ _ _ _ ew2
  · intro w2 M9 q9
    cases q9
    replace h := hl9 _ rfl
    refine fm_iconstv (pc := 28) (-1) (by decide) dX10_found_28 ?_
    refine fm_iret (pc := 29) rfl ?_ dX10_found_29
    cases h
    exact hq
  · intro r9 M9 q9
    cases q9
    replace h := hr9 _ rfl
    cases h
    exact hq
/-! X10_fresher -/
def F_X10_fresher (a1 : Int32) (M : fm_M) : Option (Int32 × fm_M) :=
    fm_gd (fm_inb (10 + a1) 20) (
    some ((M.1 78 (Int32.toNatClampNeg (10 + a1))), M))
theorem sp_X10_fresher {d : Nat} {a1 : Int32} {M : fm_M} {x : Int32 × fm_M} {Q : Option Value → fm_M → Prop} (h : F_X10_fresher a1 M = some x) (hq : Q (some (.int x.1)) x.2) : fm_ct d mX10_fresher [.ref 76, .int a1] M Q := by
  rw [F_X10_fresher] at h
  show fm_mw d mX10_fresher Q 0 [some (.ref 76), some (.int a1)] [] M
  refine fl_aload0 (pc := 0) dX10_fresher_0 ?_
  refine fm_getr (pc := 1) lk_10_13 sh_76 rfl dX10_fresher_1 ?_
  refine fm_bipushv (pc := 4) 10 (by decide) dX10_fresher_4 ?_
  refine fl_iload1 (pc := 6) dX10_fresher_6 ?_
  refine fm_iadd (pc := 7) dX10_fresher_7 ?_
  obtain ⟨g1, h⟩ := fm_gdp h
  refine fm_iald (pc := 8) sh_78 (fm_inb_ok g1) dX10_fresher_8 ?_
  refine fm_iret (pc := 9) rfl ?_ dX10_fresher_9
  cases h
  exact hq
/-! X10_reads -/
def F_X10_reads (a1 : Int32) (a2 : Int32) (M : fm_M) : Option (Unit × fm_M) :=
    fm_gd (fm_inb (10 + a1) 20) (
    fm_lt (fm_up M 78 (Int32.toNatClampNeg (10 + a1)) a2) (fun M2 =>
    some ((), M2)))
theorem sp_X10_reads {d : Nat} {a1 : Int32} {a2 : Int32} {M : fm_M} {x : Unit × fm_M} {Q : Option Value → fm_M → Prop} (h : F_X10_reads a1 a2 M = some x) (hq : Q none x.2) : fm_ct d mX10_reads [.ref 76, .int a1, .int a2] M Q := by
  rw [F_X10_reads] at h
  show fm_mw d mX10_reads Q 0 [some (.ref 76), some (.int a1), some (.int a2)] [] M
  refine fl_aload0 (pc := 0) dX10_reads_0 ?_
  refine fm_getr (pc := 1) lk_10_13 sh_76 rfl dX10_reads_1 ?_
  refine fm_bipushv (pc := 4) 10 (by decide) dX10_reads_4 ?_
  refine fl_iload1 (pc := 6) dX10_reads_6 ?_
  refine fm_iadd (pc := 7) dX10_reads_7 ?_
  refine fl_iload2 (pc := 8) dX10_reads_8 ?_
  obtain ⟨g1, h⟩ := fm_gdp h
  refine fm_iast (pc := 9) sh_78 (fm_inb_ok g1) dX10_reads_9 ?_
  obtain ⟨M2, eM2, h⟩ := fm_ltp h
  refine fm_cgm eM2 ?_
  refine fm_vret (pc := 10) rfl ?_ dX10_reads_10
  cases h
  exact hq
/-! X10_isFull -/
def J_X10_isFull_29 (l1 : Int32) (M : fm_M) : Option (Int32 × fm_M) :=
    if l1 = 4 then (
      fm_bd (F_X10_fresher 3 M) (fun v1 M2 =>
      if v1 = 8 then (
        some (1, M2)
      ) else (
        some (0, M2)
      ))
    ) else (
      some (0, M)
    )
def J_X10_isFull_14 (l1 : Int32) (M : fm_M) : Option (Int32 × fm_M) :=
    if l1 = 2 then (
      fm_bd (F_X10_fresher 1 M) (fun v3 M4 =>
      if v3 = 10 then (
        some (1, M4)
      ) else (
        J_X10_isFull_29 l1 M4
      ))
    ) else (
      J_X10_isFull_29 l1 M
    )
def F_X10_isFull (a1 : Int32) (M : fm_M) : Option (Int32 × fm_M) :=
    if a1 = 0 then (
      fm_bd (F_X10_fresher 0 M) (fun v5 M6 =>
      if v5 = 8 then (
        some (1, M6)
      ) else (
        J_X10_isFull_14 a1 M6
      ))
    ) else (
      J_X10_isFull_14 a1 M
    )
theorem jn_X10_isFull_29 {d : Nat} {Q : Option Value → fm_M → Prop}  (l1 : Int32) {x : Int32 × fm_M}  (hq : Q (some (.int x.1)) x.2) (M : fm_M) (h : J_X10_isFull_29 l1 M = some x) : fm_mw (d + 1) mX10_isFull Q 29 [some (.ref 76), some (.int l1)] [] M := by
  rw [J_X10_isFull_29] at h
  refine fl_iload1 (pc := 29) dX10_isFull_29 ?_
  refine fm_iconstv (pc := 30) 4 (by decide) dX10_isFull_30 ?_
  refine fm_icmp_ne (pc := 31) 48 (by decide) dX10_isFull_31 (fun c31 => ?_) (fun c31 => ?_)
  · replace h := fm_itn c31 h
    refine fm_iconstv (pc := 48) 0 (by decide) dX10_isFull_48 ?_
    refine fm_zret (pc := 49) rfl (by decide) ?_ dX10_isFull_49
    cases h
    exact hq
  · replace h := fm_itp c31 h
    refine fl_aload0 (pc := 34) dX10_isFull_34 ?_
    refine fm_iconstv (pc := 35) 3 (by decide) dX10_isFull_35 ?_
    obtain ⟨v1, M2, ev1, h⟩ := fm_bdp h
    refine fm_callV (pc := 36) mX10_fresher [_] _ rfl cvX10_fresher ml_10_200 sh_76 rfl rfl (Nat.le_of_ble_eq_true rfl) (Nat.le_of_ble_eq_true rfl) dX10_isFull_36 ?_
    refine sp_X10_fresher ev1 ?_
    refine fm_ret1 ?_
    refine fm_bipushv (pc := 39) 8 (by decide) dX10_isFull_39 ?_
    refine fm_icmp_ne (pc := 41) 48 (by decide) dX10_isFull_41 (fun c41 => ?_) (fun c41 => ?_)
    · replace h := fm_itn c41 h
      refine fm_iconstv (pc := 48) 0 (by decide) dX10_isFull_48 ?_
      refine fm_zret (pc := 49) rfl (by decide) ?_ dX10_isFull_49
      cases h
      exact hq
    · replace h := fm_itp c41 h
      refine fm_iconstv (pc := 44) 1 (by decide) dX10_isFull_44 ?_
      refine fm_goto (pc := 45) 49 (by decide) dX10_isFull_45 ?_
      refine fm_zret (pc := 49) rfl (by decide) ?_ dX10_isFull_49
      cases h
      exact hq
theorem jn_X10_isFull_14 {d : Nat} {Q : Option Value → fm_M → Prop}  (l1 : Int32) {x : Int32 × fm_M}  (hq : Q (some (.int x.1)) x.2) (M : fm_M) (h : J_X10_isFull_14 l1 M = some x) : fm_mw (d + 1) mX10_isFull Q 14 [some (.ref 76), some (.int l1)] [] M := by
  rw [J_X10_isFull_14] at h
  refine fl_iload1 (pc := 14) dX10_isFull_14 ?_
  refine fm_iconstv (pc := 15) 2 (by decide) dX10_isFull_15 ?_
  refine fm_icmp_ne (pc := 16) 29 (by decide) dX10_isFull_16 (fun c16 => ?_) (fun c16 => ?_)
  · replace h := fm_itn c16 h
    exact jn_X10_isFull_29 _  hq _ h
  · replace h := fm_itp c16 h
    refine fl_aload0 (pc := 19) dX10_isFull_19 ?_
    refine fm_iconstv (pc := 20) 1 (by decide) dX10_isFull_20 ?_
    obtain ⟨v3, M4, ev3, h⟩ := fm_bdp h
    refine fm_callV (pc := 21) mX10_fresher [_] _ rfl cvX10_fresher ml_10_200 sh_76 rfl rfl (Nat.le_of_ble_eq_true rfl) (Nat.le_of_ble_eq_true rfl) dX10_isFull_21 ?_
    refine sp_X10_fresher ev3 ?_
    refine fm_ret1 ?_
    refine fm_bipushv (pc := 24) 10 (by decide) dX10_isFull_24 ?_
    refine fm_icmp_eq (pc := 26) 44 (by decide) dX10_isFull_26 (fun c26 => ?_) (fun c26 => ?_)
    · replace h := fm_itp c26 h
      refine fm_iconstv (pc := 44) 1 (by decide) dX10_isFull_44 ?_
      refine fm_goto (pc := 45) 49 (by decide) dX10_isFull_45 ?_
      refine fm_zret (pc := 49) rfl (by decide) ?_ dX10_isFull_49
      cases h
      exact hq
    · replace h := fm_itn c26 h
      exact jn_X10_isFull_29 _  hq _ h
theorem sp_X10_isFull {d : Nat} {a1 : Int32} {M : fm_M} {x : Int32 × fm_M} {Q : Option Value → fm_M → Prop} (h : F_X10_isFull a1 M = some x) (hq : Q (some (.int x.1)) x.2) : fm_ct (d + 1) mX10_isFull [.ref 76, .int a1] M Q := by
  rw [F_X10_isFull] at h
  show fm_mw (d + 1) mX10_isFull Q 0 [some (.ref 76), some (.int a1)] [] M
  refine fl_iload1 (pc := 0) dX10_isFull_0 ?_
  refine fm_if_ne (pc := 1) 14 (by decide) dX10_isFull_1 (fun c1 => ?_) (fun c1 => ?_)
  · replace h := fm_itn c1 h
    exact jn_X10_isFull_14 _  hq _ h
  · replace h := fm_itp c1 h
    refine fl_aload0 (pc := 4) dX10_isFull_4 ?_
    refine fm_iconstv (pc := 5) 0 (by decide) dX10_isFull_5 ?_
    obtain ⟨v5, M6, ev5, h⟩ := fm_bdp h
    refine fm_callV (pc := 6) mX10_fresher [_] _ rfl cvX10_fresher ml_10_200 sh_76 rfl rfl (Nat.le_of_ble_eq_true rfl) (Nat.le_of_ble_eq_true rfl) dX10_isFull_6 ?_
    refine sp_X10_fresher ev5 ?_
    refine fm_ret1 ?_
    refine fm_bipushv (pc := 9) 8 (by decide) dX10_isFull_9 ?_
    refine fm_icmp_eq (pc := 11) 44 (by decide) dX10_isFull_11 (fun c11 => ?_) (fun c11 => ?_)
    · replace h := fm_itp c11 h
      refine fm_iconstv (pc := 44) 1 (by decide) dX10_isFull_44 ?_
      refine fm_goto (pc := 45) 49 (by decide) dX10_isFull_45 ?_
      refine fm_zret (pc := 49) rfl (by decide) ?_ dX10_isFull_49
      cases h
      exact hq
    · replace h := fm_itn c11 h
      exact jn_X10_isFull_14 _  hq _ h
/-! X10_isOnce -/
def F_X10_isOnce (a0 : Int32) (M : fm_M) : Option (Int32 × fm_M) :=
    if a0 = 3 then (
      some (1, M)
    ) else (
      if a0 < 5 then (
        some (0, M)
      ) else (
        if 7 < a0 then (
          some (0, M)
        ) else (
          some (1, M)
        )
      )
    )
theorem sp_X10_isOnce {d : Nat} {a0 : Int32} {M : fm_M} {x : Int32 × fm_M} {Q : Option Value → fm_M → Prop} (h : F_X10_isOnce a0 M = some x) (hq : Q (some (.int x.1)) x.2) : fm_ct d mX10_isOnce [.int a0] M Q := by
  rw [F_X10_isOnce] at h
  show fm_mw d mX10_isOnce Q 0 [some (.int a0)] [] M
  refine fl_iload0 (pc := 0) dX10_isOnce_0 ?_
  refine fm_iconstv (pc := 1) 3 (by decide) dX10_isOnce_1 ?_
  refine fm_icmp_eq (pc := 2) 16 (by decide) dX10_isOnce_2 (fun c2 => ?_) (fun c2 => ?_)
  · replace h := fm_itp c2 h
    refine fm_iconstv (pc := 16) 1 (by decide) dX10_isOnce_16 ?_
    refine fm_goto (pc := 17) 21 (by decide) dX10_isOnce_17 ?_
    refine fm_zret (pc := 21) rfl (by decide) ?_ dX10_isOnce_21
    cases h
    exact hq
  · replace h := fm_itn c2 h
    refine fl_iload0 (pc := 5) dX10_isOnce_5 ?_
    refine fm_iconstv (pc := 6) 5 (by decide) dX10_isOnce_6 ?_
    refine fm_icmp_lt (pc := 7) 20 (by decide) dX10_isOnce_7 (fun c7 => ?_) (fun c7 => ?_)
    · replace h := fm_itp c7 h
      refine fm_iconstv (pc := 20) 0 (by decide) dX10_isOnce_20 ?_
      refine fm_zret (pc := 21) rfl (by decide) ?_ dX10_isOnce_21
      cases h
      exact hq
    · replace h := fm_itn c7 h
      refine fl_iload0 (pc := 10) dX10_isOnce_10 ?_
      refine fm_bipushv (pc := 11) 7 (by decide) dX10_isOnce_11 ?_
      refine fm_icmp_gt (pc := 13) 20 (by decide) dX10_isOnce_13 (fun c13 => ?_) (fun c13 => ?_)
      · replace h := fm_itp c13 h
        refine fm_iconstv (pc := 20) 0 (by decide) dX10_isOnce_20 ?_
        refine fm_zret (pc := 21) rfl (by decide) ?_ dX10_isOnce_21
        cases h
        exact hq
      · replace h := fm_itn c13 h
        refine fm_iconstv (pc := 16) 1 (by decide) dX10_isOnce_16 ?_
        refine fm_goto (pc := 17) 21 (by decide) dX10_isOnce_17 ?_
        refine fm_zret (pc := 21) rfl (by decide) ?_ dX10_isOnce_21
        cases h
        exact hq
/-! X10_knot -/
def F_X10_knot  (M : fm_M) : Option (Unit × fm_M) :=
    if (M.1 76 24) = 0 then (
      if (M.1 76 29) = 64 then (
        fm_bd (F_X10_wrong 2 M) (fun v2 M3 =>
        some ((), M3))
      ) else (
        fm_lt (fm_up M 76 29 ((M.1 76 29) + 1)) (fun M1 =>
        some ((), M1))
      )
    ) else (
      some ((), M)
    )
theorem sp_X10_knot {d : Nat}  {M : fm_M} {x : Unit × fm_M} {Q : Option Value → fm_M → Prop} (h : F_X10_knot  M = some x) (hq : Q none x.2) : fm_ct (d + 1) mX10_knot [.ref 76] M Q := by
  rw [F_X10_knot] at h
  show fm_mw (d + 1) mX10_knot Q 0 [some (.ref 76)] [] M
  refine fl_aload0 (pc := 0) dX10_knot_0 ?_
  refine fm_geti (pc := 1) lk_10_184 sh_76 rfl dX10_knot_1 ?_
  refine fm_if_eq (pc := 4) 8 (by decide) dX10_knot_4 (fun c4 => ?_) (fun c4 => ?_)
  · replace h := fm_itp c4 h
    refine fl_aload0 (pc := 8) dX10_knot_8 ?_
    refine fm_geti (pc := 9) lk_10_243 sh_76 rfl dX10_knot_9 ?_
    refine fm_bipushv (pc := 12) 64 (by decide) dX10_knot_12 ?_
    refine fm_icmp_ne (pc := 14) 25 (by decide) dX10_knot_14 (fun c14 => ?_) (fun c14 => ?_)
    · replace h := fm_itn c14 h
      refine fl_aload0 (pc := 25) dX10_knot_25 ?_
      refine fm_dup (pc := 26) rfl dX10_knot_26 ?_
      refine fm_geti (pc := 27) lk_10_243 sh_76 rfl dX10_knot_27 ?_
      refine fm_iconstv (pc := 30) 1 (by decide) dX10_knot_30 ?_
      refine fm_iadd (pc := 31) dX10_knot_31 ?_
      refine fm_puti (pc := 32) lp_10_243 sh_76 rfl dX10_knot_32 ?_
      obtain ⟨M1, eM1, h⟩ := fm_ltp h
      refine fm_cgm eM1 ?_
      refine fm_vret (pc := 35) rfl ?_ dX10_knot_35
      cases h
      exact hq
    · replace h := fm_itp c14 h
      refine fl_aload0 (pc := 17) dX10_knot_17 ?_
      refine fm_iconstv (pc := 18) 2 (by decide) dX10_knot_18 ?_
      obtain ⟨v2, M3, ev2, h⟩ := fm_bdp h
      refine fm_callV (pc := 19) mX10_wrong [_] _ rfl cvX10_wrong ml_10_193 sh_76 rfl rfl (Nat.le_of_ble_eq_true rfl) (Nat.le_of_ble_eq_true rfl) dX10_knot_19 ?_
      refine sp_X10_wrong ev2 ?_
      refine fm_ret0 ?_
      refine fm_goto (pc := 22) 35 (by decide) dX10_knot_22 ?_
      refine fm_vret (pc := 35) rfl ?_ dX10_knot_35
      cases h
      exact hq
  · replace h := fm_itn c4 h
    refine fm_vret (pc := 7) rfl ?_ dX10_knot_7
    cases h
    exact hq
/-! X10_puts -/
def F_X10_puts (a1 : Int32) (a2 : Int32) (M : fm_M) : Option (Unit × fm_M) :=
    if (M.1 76 24) = 0 then (
      fm_bd (F_X10_fresher 8 M) (fun v1 M2 =>
      fm_gd (fm_inb (64 + v1) 128) (
      fm_lt (fm_up M2 90 (Int32.toNatClampNeg (64 + v1)) a1) (fun M4 =>
      fm_bd (F_X10_fresher 8 M4) (fun v5 M6 =>
      fm_gd (fm_inb (64 + v5) 128) (
      fm_lt (fm_up M6 91 (Int32.toNatClampNeg (64 + v5)) a2) (fun M8 =>
      fm_bd (F_X10_fresher 8 M8) (fun v9 M10 =>
      fm_bd (F_X10_reads 8 (v9 + 1) M10) (fun v11 M12 =>
      some ((), M12)))))))))
    ) else (
      some ((), M)
    )
theorem sp_X10_puts {d : Nat} {a1 : Int32} {a2 : Int32} {M : fm_M} {x : Unit × fm_M} {Q : Option Value → fm_M → Prop} (h : F_X10_puts a1 a2 M = some x) (hq : Q none x.2) : fm_ct (d + 1) mX10_puts [.ref 76, .int a1, .int a2] M Q := by
  rw [F_X10_puts] at h
  show fm_mw (d + 1) mX10_puts Q 0 [some (.ref 76), some (.int a1), some (.int a2)] [] M
  refine fl_aload0 (pc := 0) dX10_puts_0 ?_
  refine fm_geti (pc := 1) lk_10_184 sh_76 rfl dX10_puts_1 ?_
  refine fm_if_eq (pc := 4) 8 (by decide) dX10_puts_4 (fun c4 => ?_) (fun c4 => ?_)
  · replace h := fm_itp c4 h
    refine fl_aload0 (pc := 8) dX10_puts_8 ?_
    refine fm_getr (pc := 9) lk_10_49 sh_76 rfl dX10_puts_9 ?_
    refine fm_bipushv (pc := 12) 64 (by decide) dX10_puts_12 ?_
    refine fl_aload0 (pc := 14) dX10_puts_14 ?_
    refine fm_bipushv (pc := 15) 8 (by decide) dX10_puts_15 ?_
    obtain ⟨v1, M2, ev1, h⟩ := fm_bdp h
    refine fm_callV (pc := 17) mX10_fresher [_] _ rfl cvX10_fresher ml_10_200 sh_76 rfl rfl (Nat.le_of_ble_eq_true rfl) (Nat.le_of_ble_eq_true rfl) dX10_puts_17 ?_
    refine sp_X10_fresher ev1 ?_
    refine fm_ret1 ?_
    refine fm_iadd (pc := 20) dX10_puts_20 ?_
    refine fl_iload1 (pc := 21) dX10_puts_21 ?_
    obtain ⟨g3, h⟩ := fm_gdp h
    refine fm_iast (pc := 22) sh_90 (fm_inb_ok g3) dX10_puts_22 ?_
    obtain ⟨M4, eM4, h⟩ := fm_ltp h
    refine fm_cgm eM4 ?_
    refine fl_aload0 (pc := 23) dX10_puts_23 ?_
    refine fm_getr (pc := 24) lk_10_52 sh_76 rfl dX10_puts_24 ?_
    refine fm_bipushv (pc := 27) 64 (by decide) dX10_puts_27 ?_
    refine fl_aload0 (pc := 29) dX10_puts_29 ?_
    refine fm_bipushv (pc := 30) 8 (by decide) dX10_puts_30 ?_
    obtain ⟨v5, M6, ev5, h⟩ := fm_bdp h
    refine fm_callV (pc := 32) mX10_fresher [_] _ rfl cvX10_fresher ml_10_200 sh_76 rfl rfl (Nat.le_of_ble_eq_true rfl) (Nat.le_of_ble_eq_true rfl) dX10_puts_32 ?_
    refine sp_X10_fresher ev5 ?_
    refine fm_ret1 ?_
    refine fm_iadd (pc := 35) dX10_puts_35 ?_
    refine fl_iload2 (pc := 36) dX10_puts_36 ?_
    obtain ⟨g7, h⟩ := fm_gdp h
    refine fm_iast (pc := 37) sh_91 (fm_inb_ok g7) dX10_puts_37 ?_
    obtain ⟨M8, eM8, h⟩ := fm_ltp h
    refine fm_cgm eM8 ?_
    refine fl_aload0 (pc := 38) dX10_puts_38 ?_
    refine fm_bipushv (pc := 39) 8 (by decide) dX10_puts_39 ?_
    refine fl_aload0 (pc := 41) dX10_puts_41 ?_
    refine fm_bipushv (pc := 42) 8 (by decide) dX10_puts_42 ?_
    obtain ⟨v9, M10, ev9, h⟩ := fm_bdp h
    refine fm_callV (pc := 44) mX10_fresher [_] _ rfl cvX10_fresher ml_10_200 sh_76 rfl rfl (Nat.le_of_ble_eq_true rfl) (Nat.le_of_ble_eq_true rfl) dX10_puts_44 ?_
    refine sp_X10_fresher ev9 ?_
    refine fm_ret1 ?_
    refine fm_iconstv (pc := 47) 1 (by decide) dX10_puts_47 ?_
    refine fm_iadd (pc := 48) dX10_puts_48 ?_
    obtain ⟨v11, M12, ev11, h⟩ := fm_bdp h
    refine fm_callV (pc := 49) mX10_reads [_, _] _ rfl cvX10_reads ml_10_221 sh_76 rfl rfl (Nat.le_of_ble_eq_true rfl) (Nat.le_of_ble_eq_true rfl) dX10_puts_49 ?_
    refine sp_X10_reads ev11 ?_
    refine fm_ret0 ?_
    refine fm_vret (pc := 52) rfl ?_ dX10_puts_52
    cases h
    exact hq
  · replace h := fm_itn c4 h
    refine fm_vret (pc := 7) rfl ?_ dX10_puts_7
    cases h
    exact hq
/-! X10_half -/
def G_X10_half_7 : Nat → Nat → Nat → Int32 → Int32 → fm_M → Option ((Int32) × fm_M)
  | 0, _, _, _, _, _ => none
  | n + 1, a0, n0, l1, l2, M =>
    if l1 ≤ l2 then (
      some (l2, M)
    ) else (
      fm_gd (fm_inb (l1 + l2) n0) (
      fm_gd (fm_inb l2 n0) (
      fm_lt (fm_up M a0 (Int32.toNatClampNeg l2) (M.1 a0 (Int32.toNatClampNeg (l1 + l2)))) (fun M4 =>
      G_X10_half_7 n a0 n0 l1 (l2 + 1) M4)))
    )
def F_X10_half (a0 : Nat) (M : fm_M) : Option (Unit × fm_M) :=
    fm_bn (fm_arI a0) (fun n0 =>
    fm_lt (((nI n0) / 2)) (fun x1 =>
    fm_bd (G_X10_half_7 fm_fuel a0 n0 x1 0 M) (fun w5 M6 =>
      some ((), M6))))
theorem lp_X10_half_7 {d : Nat} {Q : Option Value → fm_M → Prop} {l1 : Int32} {a0 : Nat} {n0 : Nat} (en0 : fm_arI a0 = some n0) {x : (Int32) × fm_M} (k1 : ∀ (v : Int32) (M2 : fm_M), x = (v, M2) → fm_mw d mX10_half Q 26 [some (.ref a0), some (.int l1), some (.int v)] [] M2) : ∀ (n : Nat) (l2 : Int32) (M : fm_M), G_X10_half_7 n a0 n0 l1 l2 M = some x → fm_mw d mX10_half Q 7 [some (.ref a0), some (.int l1), some (.int l2)] [] M := by
  intro n
  induction n with
  | zero => intro l2 M h; simp [G_X10_half_7] at h
  | succ n ih =>
    intro l2 M h
    rw [G_X10_half_7] at h
    refine fl_iload2 (pc := 7) dX10_half_7 ?_
    refine fl_iload1 (pc := 8) dX10_half_8 ?_
    refine fm_icmp_ge (pc := 9) 26 (by decide) dX10_half_9 (fun c9 => ?_) (fun c9 => ?_)
    · replace h := fm_itp c9 h
      refine fm_fgt [some (.ref a0), some (.int l1), some (.int l2)] (by simp [fm_sub]) ?_
      cases h
      exact k1 _ _ rfl
    · replace h := fm_itn c9 h
      refine fl_aload0 (pc := 12) dX10_half_12 ?_
      refine fl_iload2 (pc := 13) dX10_half_13 ?_
      refine fl_aload0 (pc := 14) dX10_half_14 ?_
      refine fl_iload1 (pc := 15) dX10_half_15 ?_
      refine fl_iload2 (pc := 16) dX10_half_16 ?_
      refine fm_iadd (pc := 17) dX10_half_17 ?_
      obtain ⟨g2, h⟩ := fm_gdp h
      refine fm_iald (pc := 18) (fm_arI_ok en0) (fm_inb_ok g2) dX10_half_18 ?_
      obtain ⟨g3, h⟩ := fm_gdp h
      refine fm_iast (pc := 19) (fm_arI_ok en0) (fm_inb_ok g3) dX10_half_19 ?_
      obtain ⟨M4, eM4, h⟩ := fm_ltp h
      refine fm_cgm eM4 ?_
      refine fl_iinc2 (pc := 20) rfl 1 (by decide) (by decide) dX10_half_20 ?_
      refine fm_goto (pc := 23) 7 (by decide) dX10_half_23 ?_
      refine fm_fgt [some (.ref a0), some (.int l1), some (.int (l2 + 1))] (by simp [fm_sub]) ?_
      exact ih _ _ h
theorem sp_X10_half {d : Nat} {a0 : Nat} {M : fm_M} {x : Unit × fm_M} {Q : Option Value → fm_M → Prop} (h : F_X10_half a0 M = some x) (hq : Q none x.2) : fm_ct d mX10_half [.ref a0] M Q := by
  rw [F_X10_half] at h
  show fm_mw d mX10_half Q 0 [some (.ref a0), none, none] [] M
  obtain ⟨n0, en0, h⟩ := fm_bnp h
  refine fl_aload0 (pc := 0) dX10_half_0 ?_
  refine fm_alen (pc := 1) (fm_arI_ok en0) dX10_half_1 ?_
  refine fm_iconstv (pc := 2) 2 (by decide) dX10_half_2 ?_
  refine fm_idiv (pc := 3) (by decide) dX10_half_3 ?_
  obtain ⟨x1, ex1, h⟩ := fm_ltp h
  refine fm_cgi ex1 ?_
  refine fl_istore1 (pc := 4) rfl (by decide) dX10_half_4 ?_
  refine fm_iconstv (pc := 5) 0 (by decide) dX10_half_5 ?_
  refine fl_istore2 (pc := 6) rfl (by decide) dX10_half_6 ?_
  obtain ⟨w5, M6, ew5, h⟩ := fm_bdp h
  refine lp_X10_half_7 en0 ?_ _ _ _ ew5
  intro w59 M69 q9
  cases q9
  refine fm_vret (pc := 26) rfl ?_ dX10_half_26
  cases h
  exact hq
/-! X10_starts -/
def G_X10_starts_35 : Nat → Int32 → Int32 → fm_M → Option ((Int32) × fm_M)
  | 0, _, _, _ => none
  | n + 1, l1, l2, M =>
    if 8 ≤ l2 then (
      some (l2, M)
    ) else (
      fm_gd (fm_inb 0 20) (
      if (M.1 78 (Int32.toNatClampNeg 0)) ≤ l2 then (
        fm_gd (fm_inb ((8 * l1) + l2) 184) (
        fm_lt (fm_up M 98 (Int32.toNatClampNeg ((8 * l1) + l2)) 0) (fun M12 =>
        G_X10_starts_35 n l1 (l2 + 1) M12))
      ) else (
        fm_gd (fm_inb l2 16) (
        fm_gd (fm_inb ((8 * l1) + l2) 184) (
        fm_lt (fm_up M 98 (Int32.toNatClampNeg ((8 * l1) + l2)) (M.1 80 (Int32.toNatClampNeg l2))) (fun M15 =>
        G_X10_starts_35 n l1 (l2 + 1) M15)))
      ))
    )
def J_X10_starts_116 (rec : Int32 → fm_M → Option ((Int32) × fm_M)) (l1 : Int32) (l2 : Int32) (s1 : Int32) (s2 : Int32) (M : fm_M) : Option ((Int32) × fm_M) :=
    fm_gd (fm_inb s1 230) (
    fm_lt (fm_up M 99 (Int32.toNatClampNeg s1) s2) (fun M20 =>
    fm_gd (fm_inb ((10 * l1) + l2) 230) (
    fm_lt (fm_up M20 100 (Int32.toNatClampNeg ((10 * l1) + l2)) (-1)) (fun M22 =>
    fm_gd (fm_inb ((10 * l1) + l2) 230) (
    fm_lt (fm_up M22 101 (Int32.toNatClampNeg ((10 * l1) + l2)) (-1)) (fun M24 =>
    rec (l2 + 1) M24))))))
def G_X10_starts_80 : Nat → Int32 → Int32 → fm_M → Option ((Int32) × fm_M)
  | 0, _, _, _ => none
  | n + 1, l1, l2, M =>
    if 10 ≤ l2 then (
      some (l2, M)
    ) else (
      fm_gd (fm_inb 1 20) (
      if (M.1 78 (Int32.toNatClampNeg 1)) ≤ l2 then (
        J_X10_starts_116 (G_X10_starts_80 n l1) l1 l2 ((10 * l1) + l2) 0 M
      ) else (
        fm_gd (fm_inb l2 20) (
        J_X10_starts_116 (G_X10_starts_80 n l1) l1 l2 ((10 * l1) + l2) (M.1 86 (Int32.toNatClampNeg l2)) M)
      ))
    )
def F_X10_starts (a1 : Int32) (M : fm_M) : Option (Unit × fm_M) :=
    fm_gd (fm_inb a1 23) (
    fm_lt (fm_up M 94 (Int32.toNatClampNeg a1) 0) (fun M2 =>
    fm_gd (fm_inb 4 20) (
    fm_gd (fm_inb a1 23) (
    fm_lt (fm_up M2 95 (Int32.toNatClampNeg a1) (M2.1 78 (Int32.toNatClampNeg 4))) (fun M5 =>
    fm_gd (fm_inb a1 23) (
    fm_lt (fm_up M5 96 (Int32.toNatClampNeg a1) 0) (fun M7 =>
    fm_gd (fm_inb a1 23) (
    fm_lt (fm_up M7 97 (Int32.toNatClampNeg a1) 0) (fun M9 =>
    fm_bd (G_X10_starts_35 fm_fuel a1 0 M9) (fun w16 M17 =>
      fm_bd (G_X10_starts_80 fm_fuel a1 0 M17) (fun w26 M27 =>
        some ((), M27))))))))))))
theorem lp_X10_starts_35 {d : Nat} {Q : Option Value → fm_M → Prop} {l1 : Int32}   {x : (Int32) × fm_M} (k1 : ∀ (v : Int32) (M2 : fm_M), x = (v, M2) → fm_mw d mX10_starts Q 78 [some (.ref 76), some (.int l1), some (.int v)] [] M2) : ∀ (n : Nat) (l2 : Int32) (M : fm_M), G_X10_starts_35 n l1 l2 M = some x → fm_mw d mX10_starts Q 35 [some (.ref 76), some (.int l1), some (.int l2)] [] M := by
  intro n
  induction n with
  | zero => intro l2 M h; simp [G_X10_starts_35] at h
  | succ n ih =>
    intro l2 M h
    rw [G_X10_starts_35] at h
    refine fl_iload2 (pc := 35) dX10_starts_35 ?_
    refine fm_bipushv (pc := 36) 8 (by decide) dX10_starts_36 ?_
    refine fm_icmp_ge (pc := 38) 78 (by decide) dX10_starts_38 (fun c38 => ?_) (fun c38 => ?_)
    · replace h := fm_itp c38 h
      refine fm_fgt [some (.ref 76), some (.int l1), some (.int l2)] (by simp [fm_sub]) ?_
      cases h
      exact k1 _ _ rfl
    · replace h := fm_itn c38 h
      refine fl_aload0 (pc := 41) dX10_starts_41 ?_
      refine fm_getr (pc := 42) lk_10_78 sh_76 rfl dX10_starts_42 ?_
      refine fm_bipushv (pc := 45) 8 (by decide) dX10_starts_45 ?_
      refine fl_iload1 (pc := 47) dX10_starts_47 ?_
      refine fm_imul (pc := 48) dX10_starts_48 ?_
      refine fl_iload2 (pc := 49) dX10_starts_49 ?_
      refine fm_iadd (pc := 50) dX10_starts_50 ?_
      refine fl_iload2 (pc := 51) dX10_starts_51 ?_
      refine fl_aload0 (pc := 52) dX10_starts_52 ?_
      refine fm_getr (pc := 53) lk_10_13 sh_76 rfl dX10_starts_53 ?_
      refine fm_iconstv (pc := 56) 0 (by decide) dX10_starts_56 ?_
      obtain ⟨g10, h⟩ := fm_gdp h
      refine fm_iald (pc := 57) sh_78 (fm_inb_ok g10) dX10_starts_57 ?_
      refine fm_icmp_ge (pc := 58) 70 (by decide) dX10_starts_58 (fun c58 => ?_) (fun c58 => ?_)
      · replace h := fm_itp c58 h
        refine fm_iconstv (pc := 70) 0 (by decide) dX10_starts_70 ?_
        obtain ⟨g11, h⟩ := fm_gdp h
        refine fm_iast (pc := 71) sh_98 (fm_inb_ok g11) dX10_starts_71 ?_
        obtain ⟨M12, eM12, h⟩ := fm_ltp h
        refine fm_cgm eM12 ?_
        refine fl_iinc2 (pc := 72) rfl 1 (by decide) (by decide) dX10_starts_72 ?_
        refine fm_goto (pc := 75) 35 (by decide) dX10_starts_75 ?_
        refine fm_fgt [some (.ref 76), some (.int l1), some (.int (l2 + 1))] (by simp [fm_sub]) ?_
        exact ih _ _ h
      · replace h := fm_itn c58 h
        refine fl_aload0 (pc := 61) dX10_starts_61 ?_
        refine fm_getr (pc := 62) lk_10_19 sh_76 rfl dX10_starts_62 ?_
        refine fl_iload2 (pc := 65) dX10_starts_65 ?_
        obtain ⟨g13, h⟩ := fm_gdp h
        refine fm_iald (pc := 66) sh_80 (fm_inb_ok g13) dX10_starts_66 ?_
        refine fm_goto (pc := 67) 71 (by decide) dX10_starts_67 ?_
        obtain ⟨g14, h⟩ := fm_gdp h
        refine fm_iast (pc := 71) sh_98 (fm_inb_ok g14) dX10_starts_71 ?_
        obtain ⟨M15, eM15, h⟩ := fm_ltp h
        refine fm_cgm eM15 ?_
        refine fl_iinc2 (pc := 72) rfl 1 (by decide) (by decide) dX10_starts_72 ?_
        refine fm_goto (pc := 75) 35 (by decide) dX10_starts_75 ?_
        refine fm_fgt [some (.ref 76), some (.int l1), some (.int (l2 + 1))] (by simp [fm_sub]) ?_
        exact ih _ _ h
theorem jn_X10_starts_116 {d : Nat} {Q : Option Value → fm_M → Prop} (rec : Int32 → fm_M → Option ((Int32) × fm_M))  (l1 : Int32) (l2 : Int32) (s1 : Int32) (s2 : Int32) {x : (Int32) × fm_M}  (ih : ∀ (l2 : Int32) (M : fm_M), rec l2 M = some x → fm_mw d mX10_starts Q 80 [some (.ref 76), some (.int l1), some (.int l2)] [] M) (k1 : ∀ (v : Int32) (M2 : fm_M), x = (v, M2) → fm_mw d mX10_starts Q 147 [some (.ref 76), some (.int l1), some (.int v)] [] M2) (M : fm_M) (h : J_X10_starts_116 rec l1 l2 s1 s2 M = some x) : fm_mw d mX10_starts Q 116 [some (.ref 76), some (.int l1), some (.int l2)] [(.int s2), (.int s1), (.ref 99)] M := by
  rw [J_X10_starts_116] at h
  obtain ⟨g19, h⟩ := fm_gdp h
  refine fm_iast (pc := 116) sh_99 (fm_inb_ok g19) dX10_starts_116 ?_
  obtain ⟨M20, eM20, h⟩ := fm_ltp h
  refine fm_cgm eM20 ?_
  refine fl_aload0 (pc := 117) dX10_starts_117 ?_
  refine fm_getr (pc := 118) lk_10_84 sh_76 rfl dX10_starts_118 ?_
  refine fm_bipushv (pc := 121) 10 (by decide) dX10_starts_121 ?_
  refine fl_iload1 (pc := 123) dX10_starts_123 ?_
  refine fm_imul (pc := 124) dX10_starts_124 ?_
  refine fl_iload2 (pc := 125) dX10_starts_125 ?_
  refine fm_iadd (pc := 126) dX10_starts_126 ?_
  refine fm_iconstv (pc := 127) (-1) (by decide) dX10_starts_127 ?_
  obtain ⟨g21, h⟩ := fm_gdp h
  refine fm_iast (pc := 128) sh_100 (fm_inb_ok g21) dX10_starts_128 ?_
  obtain ⟨M22, eM22, h⟩ := fm_ltp h
  refine fm_cgm eM22 ?_
  refine fl_aload0 (pc := 129) dX10_starts_129 ?_
  refine fm_getr (pc := 130) lk_10_87 sh_76 rfl dX10_starts_130 ?_
  refine fm_bipushv (pc := 133) 10 (by decide) dX10_starts_133 ?_
  refine fl_iload1 (pc := 135) dX10_starts_135 ?_
  refine fm_imul (pc := 136) dX10_starts_136 ?_
  refine fl_iload2 (pc := 137) dX10_starts_137 ?_
  refine fm_iadd (pc := 138) dX10_starts_138 ?_
  refine fm_iconstv (pc := 139) (-1) (by decide) dX10_starts_139 ?_
  obtain ⟨g23, h⟩ := fm_gdp h
  refine fm_iast (pc := 140) sh_101 (fm_inb_ok g23) dX10_starts_140 ?_
  obtain ⟨M24, eM24, h⟩ := fm_ltp h
  refine fm_cgm eM24 ?_
  refine fl_iinc2 (pc := 141) rfl 1 (by decide) (by decide) dX10_starts_141 ?_
  refine fm_goto (pc := 144) 80 (by decide) dX10_starts_144 ?_
  refine fm_fgt [some (.ref 76), some (.int l1), some (.int (l2 + 1))] (by simp [fm_sub]) ?_
  exact ih _ _ h
theorem lp_X10_starts_80 {d : Nat} {Q : Option Value → fm_M → Prop} {l1 : Int32}   {x : (Int32) × fm_M} (k1 : ∀ (v : Int32) (M2 : fm_M), x = (v, M2) → fm_mw d mX10_starts Q 147 [some (.ref 76), some (.int l1), some (.int v)] [] M2) : ∀ (n : Nat) (l2 : Int32) (M : fm_M), G_X10_starts_80 n l1 l2 M = some x → fm_mw d mX10_starts Q 80 [some (.ref 76), some (.int l1), some (.int l2)] [] M := by
  intro n
  induction n with
  | zero => intro l2 M h; simp [G_X10_starts_80] at h
  | succ n ih =>
    intro l2 M h
    rw [G_X10_starts_80] at h
    refine fl_iload2 (pc := 80) dX10_starts_80 ?_
    refine fm_bipushv (pc := 81) 10 (by decide) dX10_starts_81 ?_
    refine fm_icmp_ge (pc := 83) 147 (by decide) dX10_starts_83 (fun c83 => ?_) (fun c83 => ?_)
    · replace h := fm_itp c83 h
      refine fm_fgt [some (.ref 76), some (.int l1), some (.int l2)] (by simp [fm_sub]) ?_
      cases h
      exact k1 _ _ rfl
    · replace h := fm_itn c83 h
      refine fl_aload0 (pc := 86) dX10_starts_86 ?_
      refine fm_getr (pc := 87) lk_10_81 sh_76 rfl dX10_starts_87 ?_
      refine fm_bipushv (pc := 90) 10 (by decide) dX10_starts_90 ?_
      refine fl_iload1 (pc := 92) dX10_starts_92 ?_
      refine fm_imul (pc := 93) dX10_starts_93 ?_
      refine fl_iload2 (pc := 94) dX10_starts_94 ?_
      refine fm_iadd (pc := 95) dX10_starts_95 ?_
      refine fl_iload2 (pc := 96) dX10_starts_96 ?_
      refine fl_aload0 (pc := 97) dX10_starts_97 ?_
      refine fm_getr (pc := 98) lk_10_13 sh_76 rfl dX10_starts_98 ?_
      refine fm_iconstv (pc := 101) 1 (by decide) dX10_starts_101 ?_
      obtain ⟨g18, h⟩ := fm_gdp h
      refine fm_iald (pc := 102) sh_78 (fm_inb_ok g18) dX10_starts_102 ?_
      refine fm_icmp_ge (pc := 103) 115 (by decide) dX10_starts_103 (fun c103 => ?_) (fun c103 => ?_)
      · replace h := fm_itp c103 h
        refine fm_iconstv (pc := 115) 0 (by decide) dX10_starts_115 ?_
        exact jn_X10_starts_116 _ _ _ _ _  ih k1 _ h
      · replace h := fm_itn c103 h
        refine fl_aload0 (pc := 106) dX10_starts_106 ?_
        refine fm_getr (pc := 107) lk_10_37 sh_76 rfl dX10_starts_107 ?_
        refine fl_iload2 (pc := 110) dX10_starts_110 ?_
        obtain ⟨g25, h⟩ := fm_gdp h
        refine fm_iald (pc := 111) sh_86 (fm_inb_ok g25) dX10_starts_111 ?_
        refine fm_goto (pc := 112) 116 (by decide) dX10_starts_112 ?_
        exact jn_X10_starts_116 _ _ _ _ _  ih k1 _ h
theorem sp_X10_starts {d : Nat} {a1 : Int32} {M : fm_M} {x : Unit × fm_M} {Q : Option Value → fm_M → Prop} (h : F_X10_starts a1 M = some x) (hq : Q none x.2) : fm_ct d mX10_starts [.ref 76, .int a1] M Q := by
  rw [F_X10_starts] at h
  show fm_mw d mX10_starts Q 0 [some (.ref 76), some (.int a1), none] [] M
  refine fl_aload0 (pc := 0) dX10_starts_0 ?_
  refine fm_getr (pc := 1) lk_10_66 sh_76 rfl dX10_starts_1 ?_
  refine fl_iload1 (pc := 4) dX10_starts_4 ?_
  refine fm_iconstv (pc := 5) 0 (by decide) dX10_starts_5 ?_
  obtain ⟨g1, h⟩ := fm_gdp h
  refine fm_iast (pc := 6) sh_94 (fm_inb_ok g1) dX10_starts_6 ?_
  obtain ⟨M2, eM2, h⟩ := fm_ltp h
  refine fm_cgm eM2 ?_
  refine fl_aload0 (pc := 7) dX10_starts_7 ?_
  refine fm_getr (pc := 8) lk_10_69 sh_76 rfl dX10_starts_8 ?_
  refine fl_iload1 (pc := 11) dX10_starts_11 ?_
  refine fl_aload0 (pc := 12) dX10_starts_12 ?_
  refine fm_getr (pc := 13) lk_10_13 sh_76 rfl dX10_starts_13 ?_
  refine fm_iconstv (pc := 16) 4 (by decide) dX10_starts_16 ?_
  obtain ⟨g3, h⟩ := fm_gdp h
  refine fm_iald (pc := 17) sh_78 (fm_inb_ok g3) dX10_starts_17 ?_
  obtain ⟨g4, h⟩ := fm_gdp h
  refine fm_iast (pc := 18) sh_95 (fm_inb_ok g4) dX10_starts_18 ?_
  obtain ⟨M5, eM5, h⟩ := fm_ltp h
  refine fm_cgm eM5 ?_
  refine fl_aload0 (pc := 19) dX10_starts_19 ?_
  refine fm_getr (pc := 20) lk_10_72 sh_76 rfl dX10_starts_20 ?_
  refine fl_iload1 (pc := 23) dX10_starts_23 ?_
  refine fm_iconstv (pc := 24) 0 (by decide) dX10_starts_24 ?_
  obtain ⟨g6, h⟩ := fm_gdp h
  refine fm_iast (pc := 25) sh_96 (fm_inb_ok g6) dX10_starts_25 ?_
  obtain ⟨M7, eM7, h⟩ := fm_ltp h
  refine fm_cgm eM7 ?_
  refine fl_aload0 (pc := 26) dX10_starts_26 ?_
  refine fm_getr (pc := 27) lk_10_75 sh_76 rfl dX10_starts_27 ?_
  refine fl_iload1 (pc := 30) dX10_starts_30 ?_
  refine fm_iconstv (pc := 31) 0 (by decide) dX10_starts_31 ?_
  obtain ⟨g8, h⟩ := fm_gdp h
  refine fm_iast (pc := 32) sh_97 (fm_inb_ok g8) dX10_starts_32 ?_
  obtain ⟨M9, eM9, h⟩ := fm_ltp h
  refine fm_cgm eM9 ?_
  refine fm_iconstv (pc := 33) 0 (by decide) dX10_starts_33 ?_
  refine fl_istore2 (pc := 34) rfl (by decide) dX10_starts_34 ?_
  obtain ⟨w16, M17, ew16, h⟩ := fm_bdp h
  refine lp_X10_starts_35  ?_ _ _ _ ew16
  intro w169 M179 q9
  cases q9
  refine fm_iconstv (pc := 78) 0 (by decide) dX10_starts_78 ?_
  refine fl_istore2 (pc := 79) rfl (by decide) dX10_starts_79 ?_
  obtain ⟨w26, M27, ew26, h⟩ := fm_bdp h
  refine lp_X10_starts_80  ?_ _ _ _ ew26
  intro w269 M279 q9
  cases q9
  refine fm_vret (pc := 147) rfl ?_ dX10_starts_147
  cases h
  exact hq
/-! X10_begins -/
def F_X10_begins  (M : fm_M) : Option (Unit × fm_M) :=
    fm_bd (F_X10_starts 0 M) (fun v1 M2 =>
    some ((), M2))
theorem sp_X10_begins {d : Nat}  {M : fm_M} {x : Unit × fm_M} {Q : Option Value → fm_M → Prop} (h : F_X10_begins  M = some x) (hq : Q none x.2) : fm_ct (d + 1) mX10_begins [.ref 76] M Q := by
  rw [F_X10_begins] at h
  show fm_mw (d + 1) mX10_begins Q 0 [some (.ref 76)] [] M
  refine fl_aload0 (pc := 0) dX10_begins_0 ?_
  refine fm_iconstv (pc := 1) 0 (by decide) dX10_begins_1 ?_
  obtain ⟨v1, M2, ev1, h⟩ := fm_bdp h
  refine fm_callV (pc := 2) mX10_starts [_] _ rfl cvX10_starts ml_10_313 sh_76 rfl rfl (Nat.le_of_ble_eq_true rfl) (Nat.le_of_ble_eq_true rfl) dX10_begins_2 ?_
  refine sp_X10_starts ev1 ?_
  refine fm_ret0 ?_
  refine fm_vret (pc := 5) rfl ?_ dX10_begins_5
  cases h
  exact hq
/-! X10_fault -/
def F_X10_fault (a1 : Int32) (M : fm_M) : Option (Int32 × fm_M) :=
    fm_lt (fm_up M 76 0 0) (fun M1 =>
    if a1 = 0 then (
      some ((M1.1 76 26), M1)
    ) else (
      if a1 = 1 then (
        some ((M1.1 76 27), M1)
      ) else (
        some ((-1), M1)
      )
    ))
theorem sp_X10_fault {d : Nat} {a1 : Int32} {M : fm_M} {x : Int32 × fm_M} {Q : Option Value → fm_M → Prop} (h : F_X10_fault a1 M = some x) (hq : Q (some (.int x.1)) x.2) : fm_ct d mX10_fault [.ref 76, .int a1] M Q := by
  rw [F_X10_fault] at h
  show fm_mw d mX10_fault Q 0 [some (.ref 76), some (.int a1)] [] M
  refine fl_aload0 (pc := 0) dX10_fault_0 ?_
  refine fm_iconstv (pc := 1) 0 (by decide) dX10_fault_1 ?_
  refine fm_puti (pc := 2) lp_10_130 sh_76 rfl dX10_fault_2 ?_
  obtain ⟨M1, eM1, h⟩ := fm_ltp h
  refine fm_cgm eM1 ?_
  refine fl_iload1 (pc := 5) dX10_fault_5 ?_
  refine fm_if_ne (pc := 6) 16 (by decide) dX10_fault_6 (fun c6 => ?_) (fun c6 => ?_)
  · replace h := fm_itn c6 h
    refine fl_iload1 (pc := 16) dX10_fault_16 ?_
    refine fm_iconstv (pc := 17) 1 (by decide) dX10_fault_17 ?_
    refine fm_icmp_ne (pc := 18) 28 (by decide) dX10_fault_18 (fun c18 => ?_) (fun c18 => ?_)
    · replace h := fm_itn c18 h
      refine fm_iconstv (pc := 28) (-1) (by decide) dX10_fault_28 ?_
      refine fm_iret (pc := 29) rfl ?_ dX10_fault_29
      cases h
      exact hq
    · replace h := fm_itp c18 h
      refine fl_aload0 (pc := 21) dX10_fault_21 ?_
      refine fm_geti (pc := 22) lk_10_55 sh_76 rfl dX10_fault_22 ?_
      refine fm_goto (pc := 25) 29 (by decide) dX10_fault_25 ?_
      refine fm_iret (pc := 29) rfl ?_ dX10_fault_29
      cases h
      exact hq
  · replace h := fm_itp c6 h
    refine fl_aload0 (pc := 9) dX10_fault_9 ?_
    refine fm_geti (pc := 10) lk_10_276 sh_76 rfl dX10_fault_10 ?_
    refine fm_goto (pc := 13) 29 (by decide) dX10_fault_13 ?_
    refine fm_iret (pc := 29) rfl ?_ dX10_fault_29
    cases h
    exact hq
/-! X10_named -/
def F_X10_named (a1 : Int32) (a2 : Int32) (M : fm_M) : Option (Int32 × fm_M) :=
    fm_lt (fm_up M 76 0 0) (fun M1 =>
    if a1 = 0 then (
      fm_gd (fm_inb 0 20) (
      fm_bd (F_X10_found 79 0 (M1.1 78 (Int32.toNatClampNeg 0)) a2 M1) (fun v3 M4 =>
      some (v3, M4)))
    ) else (
    if a1 = 1 then (
      fm_gd (fm_inb 1 20) (
      fm_bd (F_X10_found 84 0 (M1.1 78 (Int32.toNatClampNeg 1)) a2 M1) (fun v6 M7 =>
      some (v6, M7)))
    ) else (
    some ((-1), M1))))
theorem sp_X10_named {d : Nat} {a1 : Int32} {a2 : Int32} {M : fm_M} {x : Int32 × fm_M} {Q : Option Value → fm_M → Prop} (h : F_X10_named a1 a2 M = some x) (hq : Q (some (.int x.1)) x.2) : fm_ct (d + 1) mX10_named [.ref 76, .int a1, .int a2] M Q := by
  rw [F_X10_named] at h
  show fm_mw (d + 1) mX10_named Q 0 [some (.ref 76), some (.int a1), some (.int a2)] [] M
  refine fl_aload0 (pc := 0) dX10_named_0 ?_
  refine fm_iconstv (pc := 1) 0 (by decide) dX10_named_1 ?_
  refine fm_puti (pc := 2) lp_10_130 sh_76 rfl dX10_named_2 ?_
  obtain ⟨M1, eM1, h⟩ := fm_ltp h
  refine fm_cgm eM1 ?_
  refine fl_iload1 (pc := 5) dX10_named_5 ?_
  by_cases s6_0 : a1 = 0
  · replace h := fm_itp s6_0 h
    refine fm_lsw (pc := 6) 32 (26) (by decide) (by rw [s6_0]; rfl) (by decide) dX10_named_6 ?_
    refine fl_aload0 (pc := 32) dX10_named_32 ?_
    refine fm_getr (pc := 33) lk_10_16 sh_76 rfl dX10_named_33 ?_
    refine fm_iconstv (pc := 36) 0 (by decide) dX10_named_36 ?_
    refine fl_aload0 (pc := 37) dX10_named_37 ?_
    refine fm_getr (pc := 38) lk_10_13 sh_76 rfl dX10_named_38 ?_
    refine fm_iconstv (pc := 41) 0 (by decide) dX10_named_41 ?_
    obtain ⟨g2, h⟩ := fm_gdp h
    refine fm_iald (pc := 42) sh_78 (fm_inb_ok g2) dX10_named_42 ?_
    refine fl_iload2 (pc := 43) dX10_named_43 ?_
    obtain ⟨v3, M4, ev3, h⟩ := fm_bdp h
    refine fm_callS (pc := 44) mX10_found [_, _, _, _] _ rfl csX10_found ml_10_196 rfl (Nat.le_of_ble_eq_true rfl) (Nat.le_of_ble_eq_true rfl) dX10_named_44 ?_
    refine sp_X10_found ev3 ?_
    refine fm_ret1 ?_
    refine fm_iret (pc := 47) rfl ?_ dX10_named_47
    cases h
    exact hq
  · replace h := fm_itn s6_0 h
    by_cases s6_1 : a1 = 1
    · replace h := fm_itp s6_1 h
      refine fm_lsw (pc := 6) 48 (42) (by decide) (by rw [s6_1]; rfl) (by decide) dX10_named_6 ?_
      refine fl_aload0 (pc := 48) dX10_named_48 ?_
      refine fm_getr (pc := 49) lk_10_31 sh_76 rfl dX10_named_49 ?_
      refine fm_iconstv (pc := 52) 0 (by decide) dX10_named_52 ?_
      refine fl_aload0 (pc := 53) dX10_named_53 ?_
      refine fm_getr (pc := 54) lk_10_13 sh_76 rfl dX10_named_54 ?_
      refine fm_iconstv (pc := 57) 1 (by decide) dX10_named_57 ?_
      obtain ⟨g5, h⟩ := fm_gdp h
      refine fm_iald (pc := 58) sh_78 (fm_inb_ok g5) dX10_named_58 ?_
      refine fl_iload2 (pc := 59) dX10_named_59 ?_
      obtain ⟨v6, M7, ev6, h⟩ := fm_bdp h
      refine fm_callS (pc := 60) mX10_found [_, _, _, _] _ rfl csX10_found ml_10_196 rfl (Nat.le_of_ble_eq_true rfl) (Nat.le_of_ble_eq_true rfl) dX10_named_60 ?_
      refine sp_X10_found ev6 ?_
      refine fm_ret1 ?_
      refine fm_iret (pc := 63) rfl ?_ dX10_named_63
      cases h
      exact hq
    · replace h := fm_itn s6_1 h
      refine fm_lsw (pc := 6) 64 (58) (by decide) (by show Op.lookupswitch.offset [(0, 26), (1, 42)] (58) _ = _; rw [lv_osw (k := 0) (a := 0) s6_0 rfl]; rw [lv_osw (k := 1) (a := 1) s6_1 rfl]; rfl) (by decide) dX10_named_6 ?_
      refine fm_iconstv (pc := 64) (-1) (by decide) dX10_named_64 ?_
      refine fm_iret (pc := 65) rfl ?_ dX10_named_65
      cases h
      exact hq
/-! X10_is -/
def F_X10_is (a0 : Int32) (M : fm_M) : Option (Int64 × fm_M) :=
    if a0 = 0 then (
      some (0, M)
    ) else (
      some (1, M)
    )
theorem sp_X10_is {d : Nat} {a0 : Int32} {M : fm_M} {x : Int64 × fm_M} {Q : Option Value → fm_M → Prop} (h : F_X10_is a0 M = some x) (hq : Q (some (.long x.1)) x.2) : fm_ct d mX10_is [.int a0] M Q := by
  rw [F_X10_is] at h
  show fm_mw d mX10_is Q 0 [some (.int a0)] [] M
  refine fl_iload0 (pc := 0) dX10_is_0 ?_
  refine fm_if_eq (pc := 1) 8 (by decide) dX10_is_1 (fun c1 => ?_) (fun c1 => ?_)
  · replace h := fm_itp c1 h
    refine fm_lconstv (pc := 8) 0 (by decide) dX10_is_8 ?_
    refine fm_lret (pc := 9) rfl ?_ dX10_is_9
    cases h
    exact hq
  · replace h := fm_itn c1 h
    refine fm_lconstv (pc := 4) 1 (by decide) dX10_is_4 ?_
    refine fm_goto (pc := 5) 9 (by decide) dX10_is_5 ?_
    refine fm_lret (pc := 9) rfl ?_ dX10_is_9
    cases h
    exact hq
/-! X10_works -/
def J_X10_works_407 (l1 : Int32) (l2 : Int64) (l4 : Int64) (l6 : Int64) (M : fm_M) : Option (Int32 × fm_M) :=
    fm_gd (fm_inb ((M.1 76 32) - 1) 64) (
    fm_lt (fm_upL M 93 (Int32.toNatClampNeg ((M.1 76 32) - 1)) l6) (fun M8 =>
    if 0 < (lg_cmp l6 1000000000000) then (
      some (0, M8)
    ) else (
      if (lg_cmp l6 (-1000000000000)) < 0 then (
        some (0, M8)
      ) else (
        some (1, M8)
      )
    )))
def J_X10_works_212 (l1 : Int32) (l2 : Int64) (l4 : Int64) (M : fm_M) : Option (Int32 × fm_M) :=
    fm_lt ((l4 * l2)) (fun x6 =>
    J_X10_works_407 l1 l2 l4 x6 M)
def J_X10_works_250 (l1 : Int32) (l2 : Int64) (l4 : Int64) (s0 : Int32) (M : fm_M) : Option (Int32 × fm_M) :=
    fm_bd (F_X10_is s0 M) (fun v14 M15 =>
    J_X10_works_407 l1 l2 l4 v14 M15)
def J_X10_works_290 (l1 : Int32) (l2 : Int64) (l4 : Int64) (s0 : Int32) (M : fm_M) : Option (Int32 × fm_M) :=
    fm_bd (F_X10_is s0 M) (fun v16 M17 =>
    J_X10_works_407 l1 l2 l4 v16 M17)
def J_X10_works_270 (l1 : Int32) (l2 : Int64) (l4 : Int64) (s0 : Int32) (M : fm_M) : Option (Int32 × fm_M) :=
    fm_bd (F_X10_is s0 M) (fun v18 M19 =>
    J_X10_works_407 l1 l2 l4 v18 M19)
def J_X10_works_310 (l1 : Int32) (l2 : Int64) (l4 : Int64) (s0 : Int32) (M : fm_M) : Option (Int32 × fm_M) :=
    fm_bd (F_X10_is s0 M) (fun v20 M21 =>
    J_X10_works_407 l1 l2 l4 v20 M21)
def J_X10_works_350 (l1 : Int32) (l2 : Int64) (l4 : Int64) (s0 : Int32) (M : fm_M) : Option (Int32 × fm_M) :=
    fm_bd (F_X10_is s0 M) (fun v22 M23 =>
    J_X10_works_407 l1 l2 l4 v22 M23)
def J_X10_works_330 (l1 : Int32) (l2 : Int64) (l4 : Int64) (s0 : Int32) (M : fm_M) : Option (Int32 × fm_M) :=
    fm_bd (F_X10_is s0 M) (fun v24 M25 =>
    J_X10_works_407 l1 l2 l4 v24 M25)
def J_X10_works_376 (l1 : Int32) (l2 : Int64) (l4 : Int64) (s0 : Int32) (M : fm_M) : Option (Int32 × fm_M) :=
    fm_bd (F_X10_is s0 M) (fun v26 M27 =>
    J_X10_works_407 l1 l2 l4 v26 M27)
def J_X10_works_375 (l1 : Int32) (l2 : Int64) (l4 : Int64) (M : fm_M) : Option (Int32 × fm_M) :=
    J_X10_works_376 l1 l2 l4 0 M
def J_X10_works_402 (l1 : Int32) (l2 : Int64) (l4 : Int64) (s0 : Int32) (M : fm_M) : Option (Int32 × fm_M) :=
    fm_bd (F_X10_is s0 M) (fun v28 M29 =>
    J_X10_works_407 l1 l2 l4 v28 M29)
def J_X10_works_397 (l1 : Int32) (l2 : Int64) (l4 : Int64) (M : fm_M) : Option (Int32 × fm_M) :=
    J_X10_works_402 l1 l2 l4 1 M
def F_X10_works (a1 : Int32) (M : fm_M) : Option (Int32 × fm_M) :=
    fm_gd (fm_inb ((M.1 76 32) - 1) 64) (
    fm_lt ((M.2 93 (Int32.toNatClampNeg ((M.1 76 32) - 1)))) (fun x2 =>
    if a1 = 260 then (
      if (lg_cmp x2 0) = 0 then (
        fm_bd (F_X10_is 1 M) (fun v34 M35 =>
        fm_gd (fm_inb ((M.1 76 32) - 1) 64) (
        fm_lt (fm_upL M35 93 (Int32.toNatClampNeg ((M.1 76 32) - 1)) v34) (fun M37 =>
        some (1, M37))))
      ) else (
        fm_bd (F_X10_is 0 M) (fun v30 M31 =>
        fm_gd (fm_inb ((M.1 76 32) - 1) 64) (
        fm_lt (fm_upL M31 93 (Int32.toNatClampNeg ((M.1 76 32) - 1)) v30) (fun M33 =>
        some (1, M33))))
      )
    ) else (
      fm_gd (fm_inb ((M.1 76 32) - 2) 64) (
      fm_lt ((M.2 93 (Int32.toNatClampNeg ((M.1 76 32) - 2)))) (fun x4 =>
      fm_lt (fm_up M 76 32 ((M.1 76 32) - 1)) (fun M5 =>
      if a1 = 42 then (
        if (lg_cmp x4 0) = 0 then (
          J_X10_works_212 a1 x2 x4 M5
        ) else (
          fm_gd (fm_nzl (l_abs x4)) (
          if (lg_cmp (l_abs x2) (1000000000000 / (l_abs x4))) ≤ 0 then (
            J_X10_works_212 a1 x2 x4 M5
          ) else (
            some (0, M5)
          ))
        )
      ) else (
      if a1 = 43 then (
        fm_lt ((x4 + x2)) (fun x10 =>
        J_X10_works_407 a1 x2 x4 x10 M5)
      ) else (
      if a1 = 45 then (
        fm_lt ((x4 - x2)) (fun x11 =>
        J_X10_works_407 a1 x2 x4 x11 M5)
      ) else (
      if a1 = 47 then (
        if (lg_cmp x2 0) = 0 then (
          some (0, M5)
        ) else (
          fm_gd (fm_nzl x2) (
          fm_lt ((x4 / x2)) (fun x13 =>
          J_X10_works_407 a1 x2 x4 x13 M5))
        )
      ) else (
      if a1 = 60 then (
        if 0 ≤ (lg_cmp x4 x2) then (
          J_X10_works_250 a1 x2 x4 0 M5
        ) else (
          J_X10_works_250 a1 x2 x4 1 M5
        )
      ) else (
      if a1 = 61 then (
        if (lg_cmp x4 x2) = 0 then (
          J_X10_works_290 a1 x2 x4 1 M5
        ) else (
          J_X10_works_290 a1 x2 x4 0 M5
        )
      ) else (
      if a1 = 62 then (
        if (lg_cmp x4 x2) ≤ 0 then (
          J_X10_works_270 a1 x2 x4 0 M5
        ) else (
          J_X10_works_270 a1 x2 x4 1 M5
        )
      ) else (
      if a1 = 256 then (
        if 0 < (lg_cmp x4 x2) then (
          J_X10_works_310 a1 x2 x4 0 M5
        ) else (
          J_X10_works_310 a1 x2 x4 1 M5
        )
      ) else (
      if a1 = 257 then (
        if (lg_cmp x4 x2) = 0 then (
          J_X10_works_350 a1 x2 x4 0 M5
        ) else (
          J_X10_works_350 a1 x2 x4 1 M5
        )
      ) else (
      if a1 = 258 then (
        if (lg_cmp x4 x2) < 0 then (
          J_X10_works_330 a1 x2 x4 0 M5
        ) else (
          J_X10_works_330 a1 x2 x4 1 M5
        )
      ) else (
      if a1 = 261 then (
        if (lg_cmp x4 0) = 0 then (
          J_X10_works_375 a1 x2 x4 M5
        ) else (
          if (lg_cmp x2 0) = 0 then (
            J_X10_works_375 a1 x2 x4 M5
          ) else (
            J_X10_works_376 a1 x2 x4 1 M5
          )
        )
      ) else (
      if (lg_cmp x4 0) = 0 then (
        if (lg_cmp x2 0) = 0 then (
          J_X10_works_402 a1 x2 x4 0 M5
        ) else (
          J_X10_works_397 a1 x2 x4 M5
        )
      ) else (
        J_X10_works_397 a1 x2 x4 M5
      )))))))))))))))
    )))
theorem jn_X10_works_407 {d : Nat} {Q : Option Value → fm_M → Prop}  (l1 : Int32) (l2 : Int64) (l4 : Int64) (l6 : Int64) {x : Int32 × fm_M}  (hq : Q (some (.int x.1)) x.2) (M : fm_M) (h : J_X10_works_407 l1 l2 l4 l6 M = some x) : fm_mw (d + 1) mX10_works Q 407 [some (.ref 76), some (.int l1), some (.long l2), none, some (.long l4), none, some (.long l6), none] [] M := by
  rw [J_X10_works_407] at h
  refine fl_aload0 (pc := 407) dX10_works_407 ?_
  refine fm_getr (pc := 408) lk_10_63 sh_76 rfl dX10_works_408 ?_
  refine fl_aload0 (pc := 411) dX10_works_411 ?_
  refine fm_geti (pc := 412) lk_10_293 sh_76 rfl dX10_works_412 ?_
  refine fm_iconstv (pc := 415) 1 (by decide) dX10_works_415 ?_
  refine fm_isub (pc := 416) dX10_works_416 ?_
  refine fl_lload6 (pc := 417) dX10_works_417 ?_
  obtain ⟨g7, h⟩ := fm_gdp h
  refine fm_last (pc := 419) sh_93 (fm_inb_ok g7) dX10_works_419 ?_
  obtain ⟨M8, eM8, h⟩ := fm_ltp h
  refine fm_cgm eM8 ?_
  refine fl_lload6 (pc := 420) dX10_works_420 ?_
  refine fm_ldc2 (pc := 422) kc_10_306 dX10_works_422 ?_
  refine fm_lcmp (pc := 425) dX10_works_425 ?_
  refine fm_if_gt (pc := 426) 442 (by decide) dX10_works_426 (fun c426 => ?_) (fun c426 => ?_)
  · replace h := fm_itp c426 h
    refine fm_iconstv (pc := 442) 0 (by decide) dX10_works_442 ?_
    refine fm_zret (pc := 443) rfl (by decide) ?_ dX10_works_443
    cases h
    exact hq
  · replace h := fm_itn c426 h
    refine fl_lload6 (pc := 429) dX10_works_429 ?_
    refine fm_ldc2 (pc := 431) kc_10_308 dX10_works_431 ?_
    refine fm_lcmp (pc := 434) dX10_works_434 ?_
    refine fm_if_lt (pc := 435) 442 (by decide) dX10_works_435 (fun c435 => ?_) (fun c435 => ?_)
    · replace h := fm_itp c435 h
      refine fm_iconstv (pc := 442) 0 (by decide) dX10_works_442 ?_
      refine fm_zret (pc := 443) rfl (by decide) ?_ dX10_works_443
      cases h
      exact hq
    · replace h := fm_itn c435 h
      refine fm_iconstv (pc := 438) 1 (by decide) dX10_works_438 ?_
      refine fm_goto (pc := 439) 443 (by decide) dX10_works_439 ?_
      refine fm_zret (pc := 443) rfl (by decide) ?_ dX10_works_443
      cases h
      exact hq
theorem jn_X10_works_212 {d : Nat} {Q : Option Value → fm_M → Prop}  (l1 : Int32) (l2 : Int64) (l4 : Int64) {x : Int32 × fm_M}  (hq : Q (some (.int x.1)) x.2) (M : fm_M) (h : J_X10_works_212 l1 l2 l4 M = some x) : fm_mw (d + 1) mX10_works Q 212 [some (.ref 76), some (.int l1), some (.long l2), none, some (.long l4), none, none, none] [] M := by
  rw [J_X10_works_212] at h
  refine fl_lload4 (pc := 212) dX10_works_212 ?_
  refine fl_lload2 (pc := 214) dX10_works_214 ?_
  refine fm_lmul (pc := 215) dX10_works_215 ?_
  obtain ⟨x6, ex6, h⟩ := fm_ltp h
  refine fm_cgl ex6 ?_
  refine fl_lstore6 (pc := 216) rfl (by decide) dX10_works_216 ?_
  refine fm_goto (pc := 218) 407 (by decide) dX10_works_218 ?_
  exact jn_X10_works_407 _ _ _ _  hq _ h
theorem jn_X10_works_250 {d : Nat} {Q : Option Value → fm_M → Prop}  (l1 : Int32) (l2 : Int64) (l4 : Int64) (s0 : Int32) {x : Int32 × fm_M}  (hq : Q (some (.int x.1)) x.2) (M : fm_M) (h : J_X10_works_250 l1 l2 l4 s0 M = some x) : fm_mw (d + 1) mX10_works Q 250 [some (.ref 76), some (.int l1), some (.long l2), none, some (.long l4), none, none, none] [(.int s0)] M := by
  rw [J_X10_works_250] at h
  obtain ⟨v14, M15, ev14, h⟩ := fm_bdp h
  refine fm_callS (pc := 250) mX10_is [_] _ rfl csX10_is ml_10_296 rfl (Nat.le_of_ble_eq_true rfl) (Nat.le_of_ble_eq_true rfl) dX10_works_250 ?_
  refine sp_X10_is ev14 ?_
  refine fm_ret1 ?_
  refine fl_lstore6 (pc := 253) rfl (by decide) dX10_works_253 ?_
  refine fm_goto (pc := 255) 407 (by decide) dX10_works_255 ?_
  exact jn_X10_works_407 _ _ _ _  hq _ h
theorem jn_X10_works_290 {d : Nat} {Q : Option Value → fm_M → Prop}  (l1 : Int32) (l2 : Int64) (l4 : Int64) (s0 : Int32) {x : Int32 × fm_M}  (hq : Q (some (.int x.1)) x.2) (M : fm_M) (h : J_X10_works_290 l1 l2 l4 s0 M = some x) : fm_mw (d + 1) mX10_works Q 290 [some (.ref 76), some (.int l1), some (.long l2), none, some (.long l4), none, none, none] [(.int s0)] M := by
  rw [J_X10_works_290] at h
  obtain ⟨v16, M17, ev16, h⟩ := fm_bdp h
  refine fm_callS (pc := 290) mX10_is [_] _ rfl csX10_is ml_10_296 rfl (Nat.le_of_ble_eq_true rfl) (Nat.le_of_ble_eq_true rfl) dX10_works_290 ?_
  refine sp_X10_is ev16 ?_
  refine fm_ret1 ?_
  refine fl_lstore6 (pc := 293) rfl (by decide) dX10_works_293 ?_
  refine fm_goto (pc := 295) 407 (by decide) dX10_works_295 ?_
  exact jn_X10_works_407 _ _ _ _  hq _ h
theorem jn_X10_works_270 {d : Nat} {Q : Option Value → fm_M → Prop}  (l1 : Int32) (l2 : Int64) (l4 : Int64) (s0 : Int32) {x : Int32 × fm_M}  (hq : Q (some (.int x.1)) x.2) (M : fm_M) (h : J_X10_works_270 l1 l2 l4 s0 M = some x) : fm_mw (d + 1) mX10_works Q 270 [some (.ref 76), some (.int l1), some (.long l2), none, some (.long l4), none, none, none] [(.int s0)] M := by
  rw [J_X10_works_270] at h
  obtain ⟨v18, M19, ev18, h⟩ := fm_bdp h
  refine fm_callS (pc := 270) mX10_is [_] _ rfl csX10_is ml_10_296 rfl (Nat.le_of_ble_eq_true rfl) (Nat.le_of_ble_eq_true rfl) dX10_works_270 ?_
  refine sp_X10_is ev18 ?_
  refine fm_ret1 ?_
  refine fl_lstore6 (pc := 273) rfl (by decide) dX10_works_273 ?_
  refine fm_goto (pc := 275) 407 (by decide) dX10_works_275 ?_
  exact jn_X10_works_407 _ _ _ _  hq _ h
theorem jn_X10_works_310 {d : Nat} {Q : Option Value → fm_M → Prop}  (l1 : Int32) (l2 : Int64) (l4 : Int64) (s0 : Int32) {x : Int32 × fm_M}  (hq : Q (some (.int x.1)) x.2) (M : fm_M) (h : J_X10_works_310 l1 l2 l4 s0 M = some x) : fm_mw (d + 1) mX10_works Q 310 [some (.ref 76), some (.int l1), some (.long l2), none, some (.long l4), none, none, none] [(.int s0)] M := by
  rw [J_X10_works_310] at h
  obtain ⟨v20, M21, ev20, h⟩ := fm_bdp h
  refine fm_callS (pc := 310) mX10_is [_] _ rfl csX10_is ml_10_296 rfl (Nat.le_of_ble_eq_true rfl) (Nat.le_of_ble_eq_true rfl) dX10_works_310 ?_
  refine sp_X10_is ev20 ?_
  refine fm_ret1 ?_
  refine fl_lstore6 (pc := 313) rfl (by decide) dX10_works_313 ?_
  refine fm_goto (pc := 315) 407 (by decide) dX10_works_315 ?_
  exact jn_X10_works_407 _ _ _ _  hq _ h
theorem jn_X10_works_350 {d : Nat} {Q : Option Value → fm_M → Prop}  (l1 : Int32) (l2 : Int64) (l4 : Int64) (s0 : Int32) {x : Int32 × fm_M}  (hq : Q (some (.int x.1)) x.2) (M : fm_M) (h : J_X10_works_350 l1 l2 l4 s0 M = some x) : fm_mw (d + 1) mX10_works Q 350 [some (.ref 76), some (.int l1), some (.long l2), none, some (.long l4), none, none, none] [(.int s0)] M := by
  rw [J_X10_works_350] at h
  obtain ⟨v22, M23, ev22, h⟩ := fm_bdp h
  refine fm_callS (pc := 350) mX10_is [_] _ rfl csX10_is ml_10_296 rfl (Nat.le_of_ble_eq_true rfl) (Nat.le_of_ble_eq_true rfl) dX10_works_350 ?_
  refine sp_X10_is ev22 ?_
  refine fm_ret1 ?_
  refine fl_lstore6 (pc := 353) rfl (by decide) dX10_works_353 ?_
  refine fm_goto (pc := 355) 407 (by decide) dX10_works_355 ?_
  exact jn_X10_works_407 _ _ _ _  hq _ h
theorem jn_X10_works_330 {d : Nat} {Q : Option Value → fm_M → Prop}  (l1 : Int32) (l2 : Int64) (l4 : Int64) (s0 : Int32) {x : Int32 × fm_M}  (hq : Q (some (.int x.1)) x.2) (M : fm_M) (h : J_X10_works_330 l1 l2 l4 s0 M = some x) : fm_mw (d + 1) mX10_works Q 330 [some (.ref 76), some (.int l1), some (.long l2), none, some (.long l4), none, none, none] [(.int s0)] M := by
  rw [J_X10_works_330] at h
  obtain ⟨v24, M25, ev24, h⟩ := fm_bdp h
  refine fm_callS (pc := 330) mX10_is [_] _ rfl csX10_is ml_10_296 rfl (Nat.le_of_ble_eq_true rfl) (Nat.le_of_ble_eq_true rfl) dX10_works_330 ?_
  refine sp_X10_is ev24 ?_
  refine fm_ret1 ?_
  refine fl_lstore6 (pc := 333) rfl (by decide) dX10_works_333 ?_
  refine fm_goto (pc := 335) 407 (by decide) dX10_works_335 ?_
  exact jn_X10_works_407 _ _ _ _  hq _ h
theorem jn_X10_works_376 {d : Nat} {Q : Option Value → fm_M → Prop}  (l1 : Int32) (l2 : Int64) (l4 : Int64) (s0 : Int32) {x : Int32 × fm_M}  (hq : Q (some (.int x.1)) x.2) (M : fm_M) (h : J_X10_works_376 l1 l2 l4 s0 M = some x) : fm_mw (d + 1) mX10_works Q 376 [some (.ref 76), some (.int l1), some (.long l2), none, some (.long l4), none, none, none] [(.int s0)] M := by
  rw [J_X10_works_376] at h
  obtain ⟨v26, M27, ev26, h⟩ := fm_bdp h
  refine fm_callS (pc := 376) mX10_is [_] _ rfl csX10_is ml_10_296 rfl (Nat.le_of_ble_eq_true rfl) (Nat.le_of_ble_eq_true rfl) dX10_works_376 ?_
  refine sp_X10_is ev26 ?_
  refine fm_ret1 ?_
  refine fl_lstore6 (pc := 379) rfl (by decide) dX10_works_379 ?_
  refine fm_goto (pc := 381) 407 (by decide) dX10_works_381 ?_
  exact jn_X10_works_407 _ _ _ _  hq _ h
theorem jn_X10_works_375 {d : Nat} {Q : Option Value → fm_M → Prop}  (l1 : Int32) (l2 : Int64) (l4 : Int64) {x : Int32 × fm_M}  (hq : Q (some (.int x.1)) x.2) (M : fm_M) (h : J_X10_works_375 l1 l2 l4 M = some x) : fm_mw (d + 1) mX10_works Q 375 [some (.ref 76), some (.int l1), some (.long l2), none, some (.long l4), none, none, none] [] M := by
  rw [J_X10_works_375] at h
  refine fm_iconstv (pc := 375) 0 (by decide) dX10_works_375 ?_
  exact jn_X10_works_376 _ _ _ _  hq _ h
theorem jn_X10_works_402 {d : Nat} {Q : Option Value → fm_M → Prop}  (l1 : Int32) (l2 : Int64) (l4 : Int64) (s0 : Int32) {x : Int32 × fm_M}  (hq : Q (some (.int x.1)) x.2) (M : fm_M) (h : J_X10_works_402 l1 l2 l4 s0 M = some x) : fm_mw (d + 1) mX10_works Q 402 [some (.ref 76), some (.int l1), some (.long l2), none, some (.long l4), none, none, none] [(.int s0)] M := by
  rw [J_X10_works_402] at h
  obtain ⟨v28, M29, ev28, h⟩ := fm_bdp h
  refine fm_callS (pc := 402) mX10_is [_] _ rfl csX10_is ml_10_296 rfl (Nat.le_of_ble_eq_true rfl) (Nat.le_of_ble_eq_true rfl) dX10_works_402 ?_
  refine sp_X10_is ev28 ?_
  refine fm_ret1 ?_
  refine fl_lstore6 (pc := 405) rfl (by decide) dX10_works_405 ?_
  exact jn_X10_works_407 _ _ _ _  hq _ h
theorem jn_X10_works_397 {d : Nat} {Q : Option Value → fm_M → Prop}  (l1 : Int32) (l2 : Int64) (l4 : Int64) {x : Int32 × fm_M}  (hq : Q (some (.int x.1)) x.2) (M : fm_M) (h : J_X10_works_397 l1 l2 l4 M = some x) : fm_mw (d + 1) mX10_works Q 397 [some (.ref 76), some (.int l1), some (.long l2), none, some (.long l4), none, none, none] [] M := by
  rw [J_X10_works_397] at h
  refine fm_iconstv (pc := 397) 1 (by decide) dX10_works_397 ?_
  refine fm_goto (pc := 398) 402 (by decide) dX10_works_398 ?_
  exact jn_X10_works_402 _ _ _ _  hq _ h
theorem sp_X10_works {d : Nat} {a1 : Int32} {M : fm_M} {x : Int32 × fm_M} {Q : Option Value → fm_M → Prop} (h : F_X10_works a1 M = some x) (hq : Q (some (.int x.1)) x.2) : fm_ct (d + 1) mX10_works [.ref 76, .int a1] M Q := by
  rw [F_X10_works] at h
  show fm_mw (d + 1) mX10_works Q 0 [some (.ref 76), some (.int a1), none, none, none, none, none, none] [] M
  refine fl_aload0 (pc := 0) dX10_works_0 ?_
  refine fm_getr (pc := 1) lk_10_63 sh_76 rfl dX10_works_1 ?_
  refine fl_aload0 (pc := 4) dX10_works_4 ?_
  refine fm_geti (pc := 5) lk_10_293 sh_76 rfl dX10_works_5 ?_
  refine fm_iconstv (pc := 8) 1 (by decide) dX10_works_8 ?_
  refine fm_isub (pc := 9) dX10_works_9 ?_
  obtain ⟨g1, h⟩ := fm_gdp h
  refine fm_lald (pc := 10) sh_93 (fm_inb_ok g1) dX10_works_10 ?_
  obtain ⟨x2, ex2, h⟩ := fm_ltp h
  refine fm_cgl ex2 ?_
  refine fl_lstore2 (pc := 11) rfl (by decide) dX10_works_11 ?_
  refine fl_iload1 (pc := 12) dX10_works_12 ?_
  refine fm_sipushv (pc := 13) 260 (by decide) dX10_works_13 ?_
  refine fm_icmp_ne (pc := 16) 46 (by decide) dX10_works_16 (fun c16 => ?_) (fun c16 => ?_)
  · replace h := fm_itn c16 h
    refine fl_aload0 (pc := 46) dX10_works_46 ?_
    refine fm_getr (pc := 47) lk_10_63 sh_76 rfl dX10_works_47 ?_
    refine fl_aload0 (pc := 50) dX10_works_50 ?_
    refine fm_geti (pc := 51) lk_10_293 sh_76 rfl dX10_works_51 ?_
    refine fm_iconstv (pc := 54) 2 (by decide) dX10_works_54 ?_
    refine fm_isub (pc := 55) dX10_works_55 ?_
    obtain ⟨g3, h⟩ := fm_gdp h
    refine fm_lald (pc := 56) sh_93 (fm_inb_ok g3) dX10_works_56 ?_
    obtain ⟨x4, ex4, h⟩ := fm_ltp h
    refine fm_cgl ex4 ?_
    refine fl_lstore4 (pc := 57) rfl (by decide) dX10_works_57 ?_
    refine fl_aload0 (pc := 59) dX10_works_59 ?_
    refine fm_dup (pc := 60) rfl dX10_works_60 ?_
    refine fm_geti (pc := 61) lk_10_293 sh_76 rfl dX10_works_61 ?_
    refine fm_iconstv (pc := 64) 1 (by decide) dX10_works_64 ?_
    refine fm_isub (pc := 65) dX10_works_65 ?_
    refine fm_puti (pc := 66) lp_10_293 sh_76 rfl dX10_works_66 ?_
    obtain ⟨M5, eM5, h⟩ := fm_ltp h
    refine fm_cgm eM5 ?_
    refine fl_iload1 (pc := 69) dX10_works_69 ?_
    by_cases s70_0 : a1 = 42
    · replace h := fm_itp s70_0 h
      refine fm_lsw (pc := 70) 186 (116) (by decide) (by rw [s70_0]; rfl) (by decide) dX10_works_70 ?_
      refine fl_lload4 (pc := 186) dX10_works_186 ?_
      refine fm_lconstv (pc := 188) 0 (by decide) dX10_works_188 ?_
      refine fm_lcmp (pc := 189) dX10_works_189 ?_
      refine fm_if_eq (pc := 190) 212 (by decide) dX10_works_190 (fun c190 => ?_) (fun c190 => ?_)
      · replace h := fm_itp c190 h
        exact jn_X10_works_212 _ _ _  hq _ h
      · replace h := fm_itn c190 h
        refine fl_lload2 (pc := 193) dX10_works_193 ?_
        refine fq_mabsl (pc := 194) ml_10_300 (Nat.le_of_ble_eq_true rfl) dX10_works_194 ?_
        refine fm_ldc2 (pc := 197) kc_10_306 dX10_works_197 ?_
        refine fl_lload4 (pc := 200) dX10_works_200 ?_
        refine fq_mabsl (pc := 202) ml_10_300 (Nat.le_of_ble_eq_true rfl) dX10_works_202 ?_
        obtain ⟨g9, h⟩ := fm_gdp h
        refine fm_ldiv (pc := 205) (fm_nzl_ok g9) dX10_works_205 ?_
        refine fm_lcmp (pc := 206) dX10_works_206 ?_
        refine fm_if_le (pc := 207) 212 (by decide) dX10_works_207 (fun c207 => ?_) (fun c207 => ?_)
        · replace h := fm_itp c207 h
          exact jn_X10_works_212 _ _ _  hq _ h
        · replace h := fm_itn c207 h
          refine fm_iconstv (pc := 210) 0 (by decide) dX10_works_210 ?_
          refine fm_zret (pc := 211) rfl (by decide) ?_ dX10_works_211
          cases h
          exact hq
    · replace h := fm_itn s70_0 h
      by_cases s70_1 : a1 = 43
      · replace h := fm_itp s70_1 h
        refine fm_lsw (pc := 70) 168 (98) (by decide) (by rw [s70_1]; rfl) (by decide) dX10_works_70 ?_
        refine fl_lload4 (pc := 168) dX10_works_168 ?_
        refine fl_lload2 (pc := 170) dX10_works_170 ?_
        refine fm_ladd (pc := 171) dX10_works_171 ?_
        obtain ⟨x10, ex10, h⟩ := fm_ltp h
        refine fm_cgl ex10 ?_
        refine fl_lstore6 (pc := 172) rfl (by decide) dX10_works_172 ?_
        refine fm_goto (pc := 174) 407 (by decide) dX10_works_174 ?_
        exact jn_X10_works_407 _ _ _ _  hq _ h
      · replace h := fm_itn s70_1 h
        by_cases s70_2 : a1 = 45
        · replace h := fm_itp s70_2 h
          refine fm_lsw (pc := 70) 177 (107) (by decide) (by rw [s70_2]; rfl) (by decide) dX10_works_70 ?_
          refine fl_lload4 (pc := 177) dX10_works_177 ?_
          refine fl_lload2 (pc := 179) dX10_works_179 ?_
          refine fm_lsub (pc := 180) dX10_works_180 ?_
          obtain ⟨x11, ex11, h⟩ := fm_ltp h
          refine fm_cgl ex11 ?_
          refine fl_lstore6 (pc := 181) rfl (by decide) dX10_works_181 ?_
          refine fm_goto (pc := 183) 407 (by decide) dX10_works_183 ?_
          exact jn_X10_works_407 _ _ _ _  hq _ h
        · replace h := fm_itn s70_2 h
          by_cases s70_3 : a1 = 47
          · replace h := fm_itp s70_3 h
            refine fm_lsw (pc := 70) 221 (151) (by decide) (by rw [s70_3]; rfl) (by decide) dX10_works_70 ?_
            refine fl_lload2 (pc := 221) dX10_works_221 ?_
            refine fm_lconstv (pc := 222) 0 (by decide) dX10_works_222 ?_
            refine fm_lcmp (pc := 223) dX10_works_223 ?_
            refine fm_if_ne (pc := 224) 229 (by decide) dX10_works_224 (fun c224 => ?_) (fun c224 => ?_)
            · replace h := fm_itn c224 h
              refine fl_lload4 (pc := 229) dX10_works_229 ?_
              refine fl_lload2 (pc := 231) dX10_works_231 ?_
              obtain ⟨g12, h⟩ := fm_gdp h
              refine fm_ldiv (pc := 232) (fm_nzl_ok g12) dX10_works_232 ?_
              obtain ⟨x13, ex13, h⟩ := fm_ltp h
              refine fm_cgl ex13 ?_
              refine fl_lstore6 (pc := 233) rfl (by decide) dX10_works_233 ?_
              refine fm_goto (pc := 235) 407 (by decide) dX10_works_235 ?_
              exact jn_X10_works_407 _ _ _ _  hq _ h
            · replace h := fm_itp c224 h
              refine fm_iconstv (pc := 227) 0 (by decide) dX10_works_227 ?_
              refine fm_zret (pc := 228) rfl (by decide) ?_ dX10_works_228
              cases h
              exact hq
          · replace h := fm_itn s70_3 h
            by_cases s70_4 : a1 = 60
            · replace h := fm_itp s70_4 h
              refine fm_lsw (pc := 70) 238 (168) (by decide) (by rw [s70_4]; rfl) (by decide) dX10_works_70 ?_
              refine fl_lload4 (pc := 238) dX10_works_238 ?_
              refine fl_lload2 (pc := 240) dX10_works_240 ?_
              refine fm_lcmp (pc := 241) dX10_works_241 ?_
              refine fm_if_ge (pc := 242) 249 (by decide) dX10_works_242 (fun c242 => ?_) (fun c242 => ?_)
              · replace h := fm_itp c242 h
                refine fm_iconstv (pc := 249) 0 (by decide) dX10_works_249 ?_
                exact jn_X10_works_250 _ _ _ _  hq _ h
              · replace h := fm_itn c242 h
                refine fm_iconstv (pc := 245) 1 (by decide) dX10_works_245 ?_
                refine fm_goto (pc := 246) 250 (by decide) dX10_works_246 ?_
                exact jn_X10_works_250 _ _ _ _  hq _ h
            · replace h := fm_itn s70_4 h
              by_cases s70_5 : a1 = 61
              · replace h := fm_itp s70_5 h
                refine fm_lsw (pc := 70) 278 (208) (by decide) (by rw [s70_5]; rfl) (by decide) dX10_works_70 ?_
                refine fl_lload4 (pc := 278) dX10_works_278 ?_
                refine fl_lload2 (pc := 280) dX10_works_280 ?_
                refine fm_lcmp (pc := 281) dX10_works_281 ?_
                refine fm_if_ne (pc := 282) 289 (by decide) dX10_works_282 (fun c282 => ?_) (fun c282 => ?_)
                · replace h := fm_itn c282 h
                  refine fm_iconstv (pc := 289) 0 (by decide) dX10_works_289 ?_
                  exact jn_X10_works_290 _ _ _ _  hq _ h
                · replace h := fm_itp c282 h
                  refine fm_iconstv (pc := 285) 1 (by decide) dX10_works_285 ?_
                  refine fm_goto (pc := 286) 290 (by decide) dX10_works_286 ?_
                  exact jn_X10_works_290 _ _ _ _  hq _ h
              · replace h := fm_itn s70_5 h
                by_cases s70_6 : a1 = 62
                · replace h := fm_itp s70_6 h
                  refine fm_lsw (pc := 70) 258 (188) (by decide) (by rw [s70_6]; rfl) (by decide) dX10_works_70 ?_
                  refine fl_lload4 (pc := 258) dX10_works_258 ?_
                  refine fl_lload2 (pc := 260) dX10_works_260 ?_
                  refine fm_lcmp (pc := 261) dX10_works_261 ?_
                  refine fm_if_le (pc := 262) 269 (by decide) dX10_works_262 (fun c262 => ?_) (fun c262 => ?_)
                  · replace h := fm_itp c262 h
                    refine fm_iconstv (pc := 269) 0 (by decide) dX10_works_269 ?_
                    exact jn_X10_works_270 _ _ _ _  hq _ h
                  · replace h := fm_itn c262 h
                    refine fm_iconstv (pc := 265) 1 (by decide) dX10_works_265 ?_
                    refine fm_goto (pc := 266) 270 (by decide) dX10_works_266 ?_
                    exact jn_X10_works_270 _ _ _ _  hq _ h
                · replace h := fm_itn s70_6 h
                  by_cases s70_7 : a1 = 256
                  · replace h := fm_itp s70_7 h
                    refine fm_lsw (pc := 70) 298 (228) (by decide) (by rw [s70_7]; rfl) (by decide) dX10_works_70 ?_
                    refine fl_lload4 (pc := 298) dX10_works_298 ?_
                    refine fl_lload2 (pc := 300) dX10_works_300 ?_
                    refine fm_lcmp (pc := 301) dX10_works_301 ?_
                    refine fm_if_gt (pc := 302) 309 (by decide) dX10_works_302 (fun c302 => ?_) (fun c302 => ?_)
                    · replace h := fm_itp c302 h
                      refine fm_iconstv (pc := 309) 0 (by decide) dX10_works_309 ?_
                      exact jn_X10_works_310 _ _ _ _  hq _ h
                    · replace h := fm_itn c302 h
                      refine fm_iconstv (pc := 305) 1 (by decide) dX10_works_305 ?_
                      refine fm_goto (pc := 306) 310 (by decide) dX10_works_306 ?_
                      exact jn_X10_works_310 _ _ _ _  hq _ h
                  · replace h := fm_itn s70_7 h
                    by_cases s70_8 : a1 = 257
                    · replace h := fm_itp s70_8 h
                      refine fm_lsw (pc := 70) 338 (268) (by decide) (by rw [s70_8]; rfl) (by decide) dX10_works_70 ?_
                      refine fl_lload4 (pc := 338) dX10_works_338 ?_
                      refine fl_lload2 (pc := 340) dX10_works_340 ?_
                      refine fm_lcmp (pc := 341) dX10_works_341 ?_
                      refine fm_if_eq (pc := 342) 349 (by decide) dX10_works_342 (fun c342 => ?_) (fun c342 => ?_)
                      · replace h := fm_itp c342 h
                        refine fm_iconstv (pc := 349) 0 (by decide) dX10_works_349 ?_
                        exact jn_X10_works_350 _ _ _ _  hq _ h
                      · replace h := fm_itn c342 h
                        refine fm_iconstv (pc := 345) 1 (by decide) dX10_works_345 ?_
                        refine fm_goto (pc := 346) 350 (by decide) dX10_works_346 ?_
                        exact jn_X10_works_350 _ _ _ _  hq _ h
                    · replace h := fm_itn s70_8 h
                      by_cases s70_9 : a1 = 258
                      · replace h := fm_itp s70_9 h
                        refine fm_lsw (pc := 70) 318 (248) (by decide) (by rw [s70_9]; rfl) (by decide) dX10_works_70 ?_
                        refine fl_lload4 (pc := 318) dX10_works_318 ?_
                        refine fl_lload2 (pc := 320) dX10_works_320 ?_
                        refine fm_lcmp (pc := 321) dX10_works_321 ?_
                        refine fm_if_lt (pc := 322) 329 (by decide) dX10_works_322 (fun c322 => ?_) (fun c322 => ?_)
                        · replace h := fm_itp c322 h
                          refine fm_iconstv (pc := 329) 0 (by decide) dX10_works_329 ?_
                          exact jn_X10_works_330 _ _ _ _  hq _ h
                        · replace h := fm_itn c322 h
                          refine fm_iconstv (pc := 325) 1 (by decide) dX10_works_325 ?_
                          refine fm_goto (pc := 326) 330 (by decide) dX10_works_326 ?_
                          exact jn_X10_works_330 _ _ _ _  hq _ h
                      · replace h := fm_itn s70_9 h
                        by_cases s70_10 : a1 = 261
                        · replace h := fm_itp s70_10 h
                          refine fm_lsw (pc := 70) 358 (288) (by decide) (by rw [s70_10]; rfl) (by decide) dX10_works_70 ?_
                          refine fl_lload4 (pc := 358) dX10_works_358 ?_
                          refine fm_lconstv (pc := 360) 0 (by decide) dX10_works_360 ?_
                          refine fm_lcmp (pc := 361) dX10_works_361 ?_
                          refine fm_if_eq (pc := 362) 375 (by decide) dX10_works_362 (fun c362 => ?_) (fun c362 => ?_)
                          · replace h := fm_itp c362 h
                            exact jn_X10_works_375 _ _ _  hq _ h
                          · replace h := fm_itn c362 h
                            refine fl_lload2 (pc := 365) dX10_works_365 ?_
                            refine fm_lconstv (pc := 366) 0 (by decide) dX10_works_366 ?_
                            refine fm_lcmp (pc := 367) dX10_works_367 ?_
                            refine fm_if_eq (pc := 368) 375 (by decide) dX10_works_368 (fun c368 => ?_) (fun c368 => ?_)
                            · replace h := fm_itp c368 h
                              exact jn_X10_works_375 _ _ _  hq _ h
                            · replace h := fm_itn c368 h
                              refine fm_iconstv (pc := 371) 1 (by decide) dX10_works_371 ?_
                              refine fm_goto (pc := 372) 376 (by decide) dX10_works_372 ?_
                              exact jn_X10_works_376 _ _ _ _  hq _ h
                        · replace h := fm_itn s70_10 h
                          refine fm_lsw (pc := 70) 384 (314) (by decide) (by show Op.lookupswitch.offset [(42, 116), (43, 98), (45, 107), (47, 151), (60, 168), (61, 208), (62, 188), (256, 228), (257, 268), (258, 248), (261, 288)] (314) _ = _; rw [lv_osw (k := 42) (a := 42) s70_0 rfl]; rw [lv_osw (k := 43) (a := 43) s70_1 rfl]; rw [lv_osw (k := 45) (a := 45) s70_2 rfl]; rw [lv_osw (k := 47) (a := 47) s70_3 rfl]; rw [lv_osw (k := 60) (a := 60) s70_4 rfl]; rw [lv_osw (k := 61) (a := 61) s70_5 rfl]; rw [lv_osw (k := 62) (a := 62) s70_6 rfl]; rw [lv_osw (k := 256) (a := 256) s70_7 rfl]; rw [lv_osw (k := 257) (a := 257) s70_8 rfl]; rw [lv_osw (k := 258) (a := 258) s70_9 rfl]; rw [lv_osw (k := 261) (a := 261) s70_10 rfl]; rfl) (by decide) dX10_works_70 ?_
                          refine fl_lload4 (pc := 384) dX10_works_384 ?_
                          refine fm_lconstv (pc := 386) 0 (by decide) dX10_works_386 ?_
                          refine fm_lcmp (pc := 387) dX10_works_387 ?_
                          refine fm_if_ne (pc := 388) 397 (by decide) dX10_works_388 (fun c388 => ?_) (fun c388 => ?_)
                          · replace h := fm_itn c388 h
                            exact jn_X10_works_397 _ _ _  hq _ h
                          · replace h := fm_itp c388 h
                            refine fl_lload2 (pc := 391) dX10_works_391 ?_
                            refine fm_lconstv (pc := 392) 0 (by decide) dX10_works_392 ?_
                            refine fm_lcmp (pc := 393) dX10_works_393 ?_
                            refine fm_if_eq (pc := 394) 401 (by decide) dX10_works_394 (fun c394 => ?_) (fun c394 => ?_)
                            · replace h := fm_itp c394 h
                              refine fm_iconstv (pc := 401) 0 (by decide) dX10_works_401 ?_
                              exact jn_X10_works_402 _ _ _ _  hq _ h
                            · replace h := fm_itn c394 h
                              exact jn_X10_works_397 _ _ _  hq _ h
  · replace h := fm_itp c16 h
    refine fl_aload0 (pc := 19) dX10_works_19 ?_
    refine fm_getr (pc := 20) lk_10_63 sh_76 rfl dX10_works_20 ?_
    refine fl_aload0 (pc := 23) dX10_works_23 ?_
    refine fm_geti (pc := 24) lk_10_293 sh_76 rfl dX10_works_24 ?_
    refine fm_iconstv (pc := 27) 1 (by decide) dX10_works_27 ?_
    refine fm_isub (pc := 28) dX10_works_28 ?_
    refine fl_lload2 (pc := 29) dX10_works_29 ?_
    refine fm_lconstv (pc := 30) 0 (by decide) dX10_works_30 ?_
    refine fm_lcmp (pc := 31) dX10_works_31 ?_
    refine fm_if_ne (pc := 32) 39 (by decide) dX10_works_32 (fun c32 => ?_) (fun c32 => ?_)
    · replace h := fm_itn c32 h
      refine fm_iconstv (pc := 39) 0 (by decide) dX10_works_39 ?_
      obtain ⟨v30, M31, ev30, h⟩ := fm_bdp h
      refine fm_callS (pc := 40) mX10_is [_] _ rfl csX10_is ml_10_296 rfl (Nat.le_of_ble_eq_true rfl) (Nat.le_of_ble_eq_true rfl) dX10_works_40 ?_
      refine sp_X10_is ev30 ?_
      refine fm_ret1 ?_
      obtain ⟨g32, h⟩ := fm_gdp h
      refine fm_last (pc := 43) sh_93 (fm_inb_ok g32) dX10_works_43 ?_
      obtain ⟨M33, eM33, h⟩ := fm_ltp h
      refine fm_cgm eM33 ?_
      refine fm_iconstv (pc := 44) 1 (by decide) dX10_works_44 ?_
      refine fm_zret (pc := 45) rfl (by decide) ?_ dX10_works_45
      cases h
      exact hq
    · replace h := fm_itp c32 h
      refine fm_iconstv (pc := 35) 1 (by decide) dX10_works_35 ?_
      refine fm_goto (pc := 36) 40 (by decide) dX10_works_36 ?_
      obtain ⟨v34, M35, ev34, h⟩ := fm_bdp h
      refine fm_callS (pc := 40) mX10_is [_] _ rfl csX10_is ml_10_296 rfl (Nat.le_of_ble_eq_true rfl) (Nat.le_of_ble_eq_true rfl) dX10_works_40 ?_
      refine sp_X10_is ev34 ?_
      refine fm_ret1 ?_
      obtain ⟨g36, h⟩ := fm_gdp h
      refine fm_last (pc := 43) sh_93 (fm_inb_ok g36) dX10_works_43 ?_
      obtain ⟨M37, eM37, h⟩ := fm_ltp h
      refine fm_cgm eM37 ?_
      refine fm_iconstv (pc := 44) 1 (by decide) dX10_works_44 ?_
      refine fm_zret (pc := 45) rfl (by decide) ?_ dX10_works_45
      cases h
      exact hq
/-! X10_goes -/
def J_X10_goes_85 (rec : Int32 → fm_M → Option (((Int32) ⊕ Int32) × fm_M)) (l1 : Int32) (l2 : Int32) (s1 : Int32) (s2 : Int64) (M : fm_M) : Option (((Int32) ⊕ Int32) × fm_M) :=
    fm_gd (fm_inb s1 64) (
    fm_lt (fm_upL M 93 (Int32.toNatClampNeg s1) s2) (fun M10 =>
    fm_lt (fm_up M10 76 32 ((M10.1 76 32) + 1)) (fun M11 =>
    rec (l2 + 1) M11)))
def G_X10_goes_12 : Nat → Int32 → Int32 → fm_M → Option (((Int32) ⊕ Int32) × fm_M)
  | 0, _, _, _ => none
  | n + 1, l1, l2, M =>
    fm_gd (fm_inb l1 6) (
    if (M.1 89 (Int32.toNatClampNeg l1)) ≤ l2 then (
      some (.inl l2, M)
    ) else (
      fm_gd (fm_inb l2 128) (
      if (M.1 90 (Int32.toNatClampNeg l2)) = 2 then (
        fm_gd (fm_inb l2 128) (
        fm_bd (F_X10_works (M.1 91 (Int32.toNatClampNeg l2)) M) (fun v14 M15 =>
        if v14 = 0 then (
          some (.inr 0, M15)
        ) else (
          G_X10_goes_12 n l1 (l2 + 1) M15
        )))
      ) else (
        fm_gd (fm_inb l2 128) (
        if (M.1 90 (Int32.toNatClampNeg l2)) = 0 then (
          fm_gd (fm_inb l2 128) (
          J_X10_goes_85 (G_X10_goes_12 n l1) l1 l2 (M.1 76 32) (Int32.toInt64 (M.1 91 (Int32.toNatClampNeg l2))) M)
        ) else (
          fm_gd (fm_inb l2 128) (
          fm_gd (fm_inb (M.1 91 (Int32.toNatClampNeg l2)) 7) (
          J_X10_goes_85 (G_X10_goes_12 n l1) l1 l2 (M.1 76 32) (M.2 92 (Int32.toNatClampNeg (M.1 91 (Int32.toNatClampNeg l2)))) M))
        ))
      ))
    ))
def F_X10_goes (a1 : Int32) (M : fm_M) : Option (Int32 × fm_M) :=
    fm_lt (fm_up M 76 32 0) (fun M1 =>
    fm_gd (fm_inb a1 6) (
    fm_lt ((M1.1 88 (Int32.toNatClampNeg a1))) (fun x3 =>
    fm_bs (G_X10_goes_12 fm_fuel a1 x3 M1) (fun w16 M17 =>
      some (1, M17)) (fun r18 M => some (r18, M)))))
theorem jn_X10_goes_85 {d : Nat} {Q : Option Value → fm_M → Prop} (rec : Int32 → fm_M → Option (((Int32) ⊕ Int32) × fm_M))  (l1 : Int32) (l2 : Int32) (s1 : Int32) (s2 : Int64) {x : ((Int32) ⊕ Int32) × fm_M}  (ih : ∀ (l2 : Int32) (M : fm_M), rec l2 M = some x → fm_mw (d + 2) mX10_goes Q 12 [some (.ref 76), some (.int l1), some (.int l2)] [] M) (k1 : ∀ (v : Int32) (M2 : fm_M), x = (.inl v, M2) → fm_mw (d + 2) mX10_goes Q 102 [some (.ref 76), some (.int l1), some (.int v)] [] M2) (k2 : ∀ (r : Int32) (M2 : fm_M), x = (.inr r, M2) → Q (some (.int r)) M2) (M : fm_M) (h : J_X10_goes_85 rec l1 l2 s1 s2 M = some x) : fm_mw (d + 2) mX10_goes Q 85 [some (.ref 76), some (.int l1), some (.int l2)] [(.long s2), (.int s1), (.ref 93)] M := by
  rw [J_X10_goes_85] at h
  obtain ⟨g9, h⟩ := fm_gdp h
  refine fm_last (pc := 85) sh_93 (fm_inb_ok g9) dX10_goes_85 ?_
  obtain ⟨M10, eM10, h⟩ := fm_ltp h
  refine fm_cgm eM10 ?_
  refine fl_aload0 (pc := 86) dX10_goes_86 ?_
  refine fm_dup (pc := 87) rfl dX10_goes_87 ?_
  refine fm_geti (pc := 88) lk_10_293 sh_76 rfl dX10_goes_88 ?_
  refine fm_iconstv (pc := 91) 1 (by decide) dX10_goes_91 ?_
  refine fm_iadd (pc := 92) dX10_goes_92 ?_
  refine fm_puti (pc := 93) lp_10_293 sh_76 rfl dX10_goes_93 ?_
  obtain ⟨M11, eM11, h⟩ := fm_ltp h
  refine fm_cgm eM11 ?_
  refine fl_iinc2 (pc := 96) rfl 1 (by decide) (by decide) dX10_goes_96 ?_
  refine fm_goto (pc := 99) 12 (by decide) dX10_goes_99 ?_
  refine fm_fgt [some (.ref 76), some (.int l1), some (.int (l2 + 1))] (by simp [fm_sub]) ?_
  exact ih _ _ h
theorem lp_X10_goes_12 {d : Nat} {Q : Option Value → fm_M → Prop} {l1 : Int32}   {x : ((Int32) ⊕ Int32) × fm_M} (k1 : ∀ (v : Int32) (M2 : fm_M), x = (.inl v, M2) → fm_mw (d + 2) mX10_goes Q 102 [some (.ref 76), some (.int l1), some (.int v)] [] M2) (k2 : ∀ (r : Int32) (M2 : fm_M), x = (.inr r, M2) → Q (some (.int r)) M2) : ∀ (n : Nat) (l2 : Int32) (M : fm_M), G_X10_goes_12 n l1 l2 M = some x → fm_mw (d + 2) mX10_goes Q 12 [some (.ref 76), some (.int l1), some (.int l2)] [] M := by
  intro n
  induction n with
  | zero => intro l2 M h; simp [G_X10_goes_12] at h
  | succ n ih =>
    intro l2 M h
    rw [G_X10_goes_12] at h
    refine fl_iload2 (pc := 12) dX10_goes_12 ?_
    refine fl_aload0 (pc := 13) dX10_goes_13 ?_
    refine fm_getr (pc := 14) lk_10_46 sh_76 rfl dX10_goes_14 ?_
    refine fl_iload1 (pc := 17) dX10_goes_17 ?_
    obtain ⟨g4, h⟩ := fm_gdp h
    refine fm_iald (pc := 18) sh_89 (fm_inb_ok g4) dX10_goes_18 ?_
    refine fm_icmp_ge (pc := 19) 102 (by decide) dX10_goes_19 (fun c19 => ?_) (fun c19 => ?_)
    · replace h := fm_itp c19 h
      refine fm_fgt [some (.ref 76), some (.int l1), some (.int l2)] (by simp [fm_sub]) ?_
      cases h
      exact k1 _ _ rfl
    · replace h := fm_itn c19 h
      refine fl_aload0 (pc := 22) dX10_goes_22 ?_
      refine fm_getr (pc := 23) lk_10_49 sh_76 rfl dX10_goes_23 ?_
      refine fl_iload2 (pc := 26) dX10_goes_26 ?_
      obtain ⟨g5, h⟩ := fm_gdp h
      refine fm_iald (pc := 27) sh_90 (fm_inb_ok g5) dX10_goes_27 ?_
      refine fm_iconstv (pc := 28) 2 (by decide) dX10_goes_28 ?_
      refine fm_icmp_ne (pc := 29) 47 (by decide) dX10_goes_29 (fun c29 => ?_) (fun c29 => ?_)
      · replace h := fm_itn c29 h
        refine fl_aload0 (pc := 47) dX10_goes_47 ?_
        refine fm_getr (pc := 48) lk_10_63 sh_76 rfl dX10_goes_48 ?_
        refine fl_aload0 (pc := 51) dX10_goes_51 ?_
        refine fm_geti (pc := 52) lk_10_293 sh_76 rfl dX10_goes_52 ?_
        refine fl_aload0 (pc := 55) dX10_goes_55 ?_
        refine fm_getr (pc := 56) lk_10_49 sh_76 rfl dX10_goes_56 ?_
        refine fl_iload2 (pc := 59) dX10_goes_59 ?_
        obtain ⟨g6, h⟩ := fm_gdp h
        refine fm_iald (pc := 60) sh_90 (fm_inb_ok g6) dX10_goes_60 ?_
        refine fm_if_ne (pc := 61) 74 (by decide) dX10_goes_61 (fun c61 => ?_) (fun c61 => ?_)
        · replace h := fm_itn c61 h
          refine fl_aload0 (pc := 74) dX10_goes_74 ?_
          refine fm_getr (pc := 75) lk_10_59 sh_76 rfl dX10_goes_75 ?_
          refine fl_aload0 (pc := 78) dX10_goes_78 ?_
          refine fm_getr (pc := 79) lk_10_52 sh_76 rfl dX10_goes_79 ?_
          refine fl_iload2 (pc := 82) dX10_goes_82 ?_
          obtain ⟨g7, h⟩ := fm_gdp h
          refine fm_iald (pc := 83) sh_91 (fm_inb_ok g7) dX10_goes_83 ?_
          obtain ⟨g8, h⟩ := fm_gdp h
          refine fm_lald (pc := 84) sh_92 (fm_inb_ok g8) dX10_goes_84 ?_
          exact jn_X10_goes_85 _ _ _ _ _  ih k1 k2 _ h
        · replace h := fm_itp c61 h
          refine fl_aload0 (pc := 64) dX10_goes_64 ?_
          refine fm_getr (pc := 65) lk_10_52 sh_76 rfl dX10_goes_65 ?_
          refine fl_iload2 (pc := 68) dX10_goes_68 ?_
          obtain ⟨g12, h⟩ := fm_gdp h
          refine fm_iald (pc := 69) sh_91 (fm_inb_ok g12) dX10_goes_69 ?_
          refine fm_i2l (pc := 70) dX10_goes_70 ?_
          refine fm_goto (pc := 71) 85 (by decide) dX10_goes_71 ?_
          exact jn_X10_goes_85 _ _ _ _ _  ih k1 k2 _ h
      · replace h := fm_itp c29 h
        refine fl_aload0 (pc := 32) dX10_goes_32 ?_
        refine fl_aload0 (pc := 33) dX10_goes_33 ?_
        refine fm_getr (pc := 34) lk_10_52 sh_76 rfl dX10_goes_34 ?_
        refine fl_iload2 (pc := 37) dX10_goes_37 ?_
        obtain ⟨g13, h⟩ := fm_gdp h
        refine fm_iald (pc := 38) sh_91 (fm_inb_ok g13) dX10_goes_38 ?_
        obtain ⟨v14, M15, ev14, h⟩ := fm_bdp h
        refine fm_callV (pc := 39) mX10_works [_] _ rfl cvX10_works ml_10_310 sh_76 rfl rfl (Nat.le_of_ble_eq_true rfl) (Nat.le_of_ble_eq_true rfl) dX10_goes_39 ?_
        refine sp_X10_works ev14 ?_
        refine fm_ret1 ?_
        refine fm_if_ne (pc := 42) 96 (by decide) dX10_goes_42 (fun c42 => ?_) (fun c42 => ?_)
        · replace h := fm_itn c42 h
          refine fl_iinc2 (pc := 96) rfl 1 (by decide) (by decide) dX10_goes_96 ?_
          refine fm_goto (pc := 99) 12 (by decide) dX10_goes_99 ?_
          refine fm_fgt [some (.ref 76), some (.int l1), some (.int (l2 + 1))] (by simp [fm_sub]) ?_
          exact ih _ _ h
        · replace h := fm_itp c42 h
          refine fm_iconstv (pc := 45) 0 (by decide) dX10_goes_45 ?_
          refine fm_zret (pc := 46) rfl (by decide) ?_ dX10_goes_46
          cases h
          exact k2 _ _ rfl
theorem sp_X10_goes {d : Nat} {a1 : Int32} {M : fm_M} {x : Int32 × fm_M} {Q : Option Value → fm_M → Prop} (h : F_X10_goes a1 M = some x) (hq : Q (some (.int x.1)) x.2) : fm_ct (d + 2) mX10_goes [.ref 76, .int a1] M Q := by
  rw [F_X10_goes] at h
  show fm_mw (d + 2) mX10_goes Q 0 [some (.ref 76), some (.int a1), none] [] M
  refine fl_aload0 (pc := 0) dX10_goes_0 ?_
  refine fm_iconstv (pc := 1) 0 (by decide) dX10_goes_1 ?_
  refine fm_puti (pc := 2) lp_10_293 sh_76 rfl dX10_goes_2 ?_
  obtain ⟨M1, eM1, h⟩ := fm_ltp h
  refine fm_cgm eM1 ?_
  refine fl_aload0 (pc := 5) dX10_goes_5 ?_
  refine fm_getr (pc := 6) lk_10_43 sh_76 rfl dX10_goes_6 ?_
  refine fl_iload1 (pc := 9) dX10_goes_9 ?_
  obtain ⟨g2, h⟩ := fm_gdp h
  refine fm_iald (pc := 10) sh_88 (fm_inb_ok g2) dX10_goes_10 ?_
  obtain ⟨x3, ex3, h⟩ := fm_ltp h
  refine fm_cgi ex3 ?_
  refine fl_istore2 (pc := 11) rfl (by decide) dX10_goes_11 ?_
  obtain ⟨w9, M17, ew16, hl9, hr9⟩ := fm_bsp h
  refine lp_X10_goes_12  ?_ ?_ _ _ _ ew16
  · intro w16 M9 q9
    cases q9
    replace h := hl9 _ rfl
    refine fm_iconstv (pc := 102) 1 (by decide) dX10_goes_102 ?_
    refine fm_zret (pc := 103) rfl (by decide) ?_ dX10_goes_103
    cases h
    exact hq
  · intro r9 M9 q9
    cases q9
    replace h := hr9 _ rfl
    cases h
    exact hq
