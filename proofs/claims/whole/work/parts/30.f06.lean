/-! X10_here -/
def F_X10_here  (M : fm_M) : Option (Int32 × fm_M) :=
    if (M.1 76 19) ≤ (M.1 76 20) then (
      some ((-1), M)
    ) else (
      fm_gd (fm_inb (M.1 76 20) 700) (
      some ((M.1 77 (Int32.toNatClampNeg (M.1 76 20))), M))
    )
theorem sp_X10_here {d : Nat}  {M : fm_M} {x : Int32 × fm_M} {Q : Option Value → fm_M → Prop} (h : F_X10_here  M = some x) (hq : Q (some (.int x.1)) x.2) : fm_ct d mX10_here [.ref 76] M Q := by
  rw [F_X10_here] at h
  show fm_mw d mX10_here Q 0 [some (.ref 76)] [] M
  refine fl_aload0 (pc := 0) dX10_here_0 ?_
  refine fm_geti (pc := 1) lk_10_136 sh_76 rfl dX10_here_1 ?_
  refine fl_aload0 (pc := 4) dX10_here_4 ?_
  refine fm_geti (pc := 5) lk_10_139 sh_76 rfl dX10_here_5 ?_
  refine fm_icmp_ge (pc := 8) 23 (by decide) dX10_here_8 (fun c8 => ?_) (fun c8 => ?_)
  · replace h := fm_itp c8 h
    refine fm_iconstv (pc := 23) (-1) (by decide) dX10_here_23 ?_
    refine fm_iret (pc := 24) rfl ?_ dX10_here_24
    cases h
    exact hq
  · replace h := fm_itn c8 h
    refine fl_aload0 (pc := 11) dX10_here_11 ?_
    refine fm_getr (pc := 12) lk_10_7 sh_76 rfl dX10_here_12 ?_
    refine fl_aload0 (pc := 15) dX10_here_15 ?_
    refine fm_geti (pc := 16) lk_10_136 sh_76 rfl dX10_here_16 ?_
    obtain ⟨g1, h⟩ := fm_gdp h
    refine fm_iald (pc := 19) sh_77 (fm_inb_ok g1) dX10_here_19 ?_
    refine fm_goto (pc := 20) 24 (by decide) dX10_here_20 ?_
    refine fm_iret (pc := 24) rfl ?_ dX10_here_24
    cases h
    exact hq
/-! X10_isSmall -/
def F_X10_isSmall (a0 : Int32) (M : fm_M) : Option (Int32 × fm_M) :=
    if a0 < 97 then (
      some (0, M)
    ) else (
      if 122 < a0 then (
        some (0, M)
      ) else (
        some (1, M)
      )
    )
theorem sp_X10_isSmall {d : Nat} {a0 : Int32} {M : fm_M} {x : Int32 × fm_M} {Q : Option Value → fm_M → Prop} (h : F_X10_isSmall a0 M = some x) (hq : Q (some (.int x.1)) x.2) : fm_ct d mX10_isSmall [.int a0] M Q := by
  rw [F_X10_isSmall] at h
  show fm_mw d mX10_isSmall Q 0 [some (.int a0)] [] M
  refine fl_iload0 (pc := 0) dX10_isSmall_0 ?_
  refine fm_bipushv (pc := 1) 97 (by decide) dX10_isSmall_1 ?_
  refine fm_icmp_lt (pc := 3) 16 (by decide) dX10_isSmall_3 (fun c3 => ?_) (fun c3 => ?_)
  · replace h := fm_itp c3 h
    refine fm_iconstv (pc := 16) 0 (by decide) dX10_isSmall_16 ?_
    refine fm_zret (pc := 17) rfl (by decide) ?_ dX10_isSmall_17
    cases h
    exact hq
  · replace h := fm_itn c3 h
    refine fl_iload0 (pc := 6) dX10_isSmall_6 ?_
    refine fm_bipushv (pc := 7) 122 (by decide) dX10_isSmall_7 ?_
    refine fm_icmp_gt (pc := 9) 16 (by decide) dX10_isSmall_9 (fun c9 => ?_) (fun c9 => ?_)
    · replace h := fm_itp c9 h
      refine fm_iconstv (pc := 16) 0 (by decide) dX10_isSmall_16 ?_
      refine fm_zret (pc := 17) rfl (by decide) ?_ dX10_isSmall_17
      cases h
      exact hq
    · replace h := fm_itn c9 h
      refine fm_iconstv (pc := 12) 1 (by decide) dX10_isSmall_12 ?_
      refine fm_goto (pc := 13) 17 (by decide) dX10_isSmall_13 ?_
      refine fm_zret (pc := 17) rfl (by decide) ?_ dX10_isSmall_17
      cases h
      exact hq
/-! X10_isDigit -/
def F_X10_isDigit (a0 : Int32) (M : fm_M) : Option (Int32 × fm_M) :=
    if a0 < 48 then (
      some (0, M)
    ) else (
      if 57 < a0 then (
        some (0, M)
      ) else (
        some (1, M)
      )
    )
theorem sp_X10_isDigit {d : Nat} {a0 : Int32} {M : fm_M} {x : Int32 × fm_M} {Q : Option Value → fm_M → Prop} (h : F_X10_isDigit a0 M = some x) (hq : Q (some (.int x.1)) x.2) : fm_ct d mX10_isDigit [.int a0] M Q := by
  rw [F_X10_isDigit] at h
  show fm_mw d mX10_isDigit Q 0 [some (.int a0)] [] M
  refine fl_iload0 (pc := 0) dX10_isDigit_0 ?_
  refine fm_bipushv (pc := 1) 48 (by decide) dX10_isDigit_1 ?_
  refine fm_icmp_lt (pc := 3) 16 (by decide) dX10_isDigit_3 (fun c3 => ?_) (fun c3 => ?_)
  · replace h := fm_itp c3 h
    refine fm_iconstv (pc := 16) 0 (by decide) dX10_isDigit_16 ?_
    refine fm_zret (pc := 17) rfl (by decide) ?_ dX10_isDigit_17
    cases h
    exact hq
  · replace h := fm_itn c3 h
    refine fl_iload0 (pc := 6) dX10_isDigit_6 ?_
    refine fm_bipushv (pc := 7) 57 (by decide) dX10_isDigit_7 ?_
    refine fm_icmp_gt (pc := 9) 16 (by decide) dX10_isDigit_9 (fun c9 => ?_) (fun c9 => ?_)
    · replace h := fm_itp c9 h
      refine fm_iconstv (pc := 16) 0 (by decide) dX10_isDigit_16 ?_
      refine fm_zret (pc := 17) rfl (by decide) ?_ dX10_isDigit_17
      cases h
      exact hq
    · replace h := fm_itn c9 h
      refine fm_iconstv (pc := 12) 1 (by decide) dX10_isDigit_12 ?_
      refine fm_goto (pc := 13) 17 (by decide) dX10_isDigit_13 ?_
      refine fm_zret (pc := 17) rfl (by decide) ?_ dX10_isDigit_17
      cases h
      exact hq
/-! X10_name -/
def G_X10_name_7 : Nat → Int32 → fm_M → Option ((Int32) × fm_M)
  | 0, _, _ => none
  | n + 1, l1, M =>
    if 6 ≤ l1 then (
      some (l1, M)
    ) else (
      if (M.1 76 20) ≤ ((M.1 76 21) + l1) then (
        fm_lt (fm_up M 76 23 (((M.1 76 23) <<< (5 &&& 31)) ||| 0)) (fun M2 =>
        G_X10_name_7 n (l1 + 1) M2)
      ) else (
        fm_gd (fm_inb ((M.1 76 21) + l1) 700) (
        fm_lt (fm_up M 76 23 (((M.1 76 23) <<< (5 &&& 31)) ||| (((M.1 77 (Int32.toNatClampNeg ((M.1 76 21) + l1))) - 97) + 1))) (fun M4 =>
        G_X10_name_7 n (l1 + 1) M4))
      )
    )
def F_X10_name  (M : fm_M) : Option (Unit × fm_M) :=
    fm_lt (fm_up M 76 23 0) (fun M1 =>
    fm_bd (G_X10_name_7 fm_fuel 0 M1) (fun w5 M6 =>
      some ((), M6)))
theorem lp_X10_name_7 {d : Nat} {Q : Option Value → fm_M → Prop}    {x : (Int32) × fm_M} (k1 : ∀ (v : Int32) (M2 : fm_M), x = (v, M2) → fm_mw d mX10_name Q 63 [some (.ref 76), some (.int v)] [] M2) : ∀ (n : Nat) (l1 : Int32) (M : fm_M), G_X10_name_7 n l1 M = some x → fm_mw d mX10_name Q 7 [some (.ref 76), some (.int l1)] [] M := by
  intro n
  induction n with
  | zero => intro l1 M h; simp [G_X10_name_7] at h
  | succ n ih =>
    intro l1 M h
    rw [G_X10_name_7] at h
    refine fl_iload1 (pc := 7) dX10_name_7 ?_
    refine fm_bipushv (pc := 8) 6 (by decide) dX10_name_8 ?_
    refine fm_icmp_ge (pc := 10) 63 (by decide) dX10_name_10 (fun c10 => ?_) (fun c10 => ?_)
    · replace h := fm_itp c10 h
      refine fm_fgt [some (.ref 76), some (.int l1)] (by simp [fm_sub]) ?_
      cases h
      exact k1 _ _ rfl
    · replace h := fm_itn c10 h
      refine fl_aload0 (pc := 13) dX10_name_13 ?_
      refine fl_aload0 (pc := 14) dX10_name_14 ?_
      refine fm_geti (pc := 15) lk_10_159 sh_76 rfl dX10_name_15 ?_
      refine fm_iconstv (pc := 18) 5 (by decide) dX10_name_18 ?_
      refine fm_ishl (pc := 19) dX10_name_19 ?_
      refine fl_aload0 (pc := 20) dX10_name_20 ?_
      refine fm_geti (pc := 21) lk_10_146 sh_76 rfl dX10_name_21 ?_
      refine fl_iload1 (pc := 24) dX10_name_24 ?_
      refine fm_iadd (pc := 25) dX10_name_25 ?_
      refine fl_aload0 (pc := 26) dX10_name_26 ?_
      refine fm_geti (pc := 27) lk_10_136 sh_76 rfl dX10_name_27 ?_
      refine fm_icmp_ge (pc := 30) 52 (by decide) dX10_name_30 (fun c30 => ?_) (fun c30 => ?_)
      · replace h := fm_itp c30 h
        refine fm_iconstv (pc := 52) 0 (by decide) dX10_name_52 ?_
        refine fm_ior (pc := 53) dX10_name_53 ?_
        refine fm_puti (pc := 54) lp_10_159 sh_76 rfl dX10_name_54 ?_
        obtain ⟨M2, eM2, h⟩ := fm_ltp h
        refine fm_cgm eM2 ?_
        refine fl_iinc1 (pc := 57) rfl 1 (by decide) (by decide) dX10_name_57 ?_
        refine fm_goto (pc := 60) 7 (by decide) dX10_name_60 ?_
        refine fm_fgt [some (.ref 76), some (.int (l1 + 1))] (by simp [fm_sub]) ?_
        exact ih _ _ h
      · replace h := fm_itn c30 h
        refine fl_aload0 (pc := 33) dX10_name_33 ?_
        refine fm_getr (pc := 34) lk_10_7 sh_76 rfl dX10_name_34 ?_
        refine fl_aload0 (pc := 37) dX10_name_37 ?_
        refine fm_geti (pc := 38) lk_10_146 sh_76 rfl dX10_name_38 ?_
        refine fl_iload1 (pc := 41) dX10_name_41 ?_
        refine fm_iadd (pc := 42) dX10_name_42 ?_
        obtain ⟨g3, h⟩ := fm_gdp h
        refine fm_iald (pc := 43) sh_77 (fm_inb_ok g3) dX10_name_43 ?_
        refine fm_bipushv (pc := 44) 97 (by decide) dX10_name_44 ?_
        refine fm_isub (pc := 46) dX10_name_46 ?_
        refine fm_iconstv (pc := 47) 1 (by decide) dX10_name_47 ?_
        refine fm_iadd (pc := 48) dX10_name_48 ?_
        refine fm_goto (pc := 49) 53 (by decide) dX10_name_49 ?_
        refine fm_ior (pc := 53) dX10_name_53 ?_
        refine fm_puti (pc := 54) lp_10_159 sh_76 rfl dX10_name_54 ?_
        obtain ⟨M4, eM4, h⟩ := fm_ltp h
        refine fm_cgm eM4 ?_
        refine fl_iinc1 (pc := 57) rfl 1 (by decide) (by decide) dX10_name_57 ?_
        refine fm_goto (pc := 60) 7 (by decide) dX10_name_60 ?_
        refine fm_fgt [some (.ref 76), some (.int (l1 + 1))] (by simp [fm_sub]) ?_
        exact ih _ _ h
theorem sp_X10_name {d : Nat}  {M : fm_M} {x : Unit × fm_M} {Q : Option Value → fm_M → Prop} (h : F_X10_name  M = some x) (hq : Q none x.2) : fm_ct d mX10_name [.ref 76] M Q := by
  rw [F_X10_name] at h
  show fm_mw d mX10_name Q 0 [some (.ref 76), none] [] M
  refine fl_aload0 (pc := 0) dX10_name_0 ?_
  refine fm_iconstv (pc := 1) 0 (by decide) dX10_name_1 ?_
  refine fm_puti (pc := 2) lp_10_159 sh_76 rfl dX10_name_2 ?_
  obtain ⟨M1, eM1, h⟩ := fm_ltp h
  refine fm_cgm eM1 ?_
  refine fm_iconstv (pc := 5) 0 (by decide) dX10_name_5 ?_
  refine fl_istore1 (pc := 6) rfl (by decide) dX10_name_6 ?_
  obtain ⟨w5, M6, ew5, h⟩ := fm_bdp h
  refine lp_X10_name_7  ?_ _ _ _ ew5
  intro w59 M69 q9
  cases q9
  refine fm_vret (pc := 63) rfl ?_ dX10_name_63
  cases h
  exact hq
/-! X10_sign -/
def J_X10_sign_150 (l1 : Int32) (M : fm_M) : Option (Unit × fm_M) :=
    if (M.1 76 23) < 256 then (
      some ((), M)
    ) else (
      fm_lt (fm_up M 76 20 ((M.1 76 20) + 1)) (fun M4 =>
      some ((), M4))
    )
def J_X10_sign_128 (l1 : Int32) (M : fm_M) : Option (Unit × fm_M) :=
    if l1 = 62 then (
      fm_bd (F_X10_here M) (fun v5 M6 =>
      if v5 = 61 then (
        fm_lt (fm_up M6 76 23 258) (fun M7 =>
        J_X10_sign_150 l1 M7)
      ) else (
        J_X10_sign_150 l1 M6
      ))
    ) else (
      J_X10_sign_150 l1 M
    )
def J_X10_sign_106 (l1 : Int32) (M : fm_M) : Option (Unit × fm_M) :=
    if l1 = 60 then (
      fm_bd (F_X10_here M) (fun v8 M9 =>
      if v8 = 62 then (
        fm_lt (fm_up M9 76 23 257) (fun M10 =>
        J_X10_sign_128 l1 M10)
      ) else (
        J_X10_sign_128 l1 M9
      ))
    ) else (
      J_X10_sign_128 l1 M
    )
def J_X10_sign_76 (l1 : Int32) (s1 : Int32) (M : fm_M) : Option (Unit × fm_M) :=
    fm_lt (fm_up M 76 22 s1) (fun M2 =>
    fm_lt (fm_up M2 76 23 l1) (fun M3 =>
    if l1 = 60 then (
      fm_bd (F_X10_here M3) (fun v11 M12 =>
      if v11 = 61 then (
        fm_lt (fm_up M12 76 23 256) (fun M13 =>
        J_X10_sign_106 l1 M13)
      ) else (
        J_X10_sign_106 l1 M12
      ))
    ) else (
      J_X10_sign_106 l1 M3
    )))
def J_X10_sign_71 (l1 : Int32) (M : fm_M) : Option (Unit × fm_M) :=
    J_X10_sign_76 l1 3 M
def F_X10_sign (a1 : Int32) (M : fm_M) : Option (Unit × fm_M) :=
    fm_lt (fm_up M 76 20 ((M.1 76 20) + 1)) (fun M1 =>
    if a1 = 59 then (
      J_X10_sign_71 a1 M1
    ) else (
      if a1 = 40 then (
        J_X10_sign_71 a1 M1
      ) else (
        if a1 = 41 then (
          J_X10_sign_71 a1 M1
        ) else (
          if a1 = 43 then (
            J_X10_sign_71 a1 M1
          ) else (
            if a1 = 45 then (
              J_X10_sign_71 a1 M1
            ) else (
              if a1 = 42 then (
                J_X10_sign_71 a1 M1
              ) else (
                if a1 = 47 then (
                  J_X10_sign_71 a1 M1
                ) else (
                  if a1 = 60 then (
                    J_X10_sign_71 a1 M1
                  ) else (
                    if a1 = 61 then (
                      J_X10_sign_71 a1 M1
                    ) else (
                      if a1 = 62 then (
                        J_X10_sign_71 a1 M1
                      ) else (
                        J_X10_sign_76 a1 5 M1
                      )
                    )
                  )
                )
              )
            )
          )
        )
      )
    ))
theorem jn_X10_sign_150 {d : Nat} {Q : Option Value → fm_M → Prop}  (l1 : Int32) {x : Unit × fm_M}  (hq : Q none x.2) (M : fm_M) (h : J_X10_sign_150 l1 M = some x) : fm_mw (d + 1) mX10_sign Q 150 [some (.ref 76), some (.int l1)] [] M := by
  rw [J_X10_sign_150] at h
  refine fl_aload0 (pc := 150) dX10_sign_150 ?_
  refine fm_geti (pc := 151) lk_10_159 sh_76 rfl dX10_sign_151 ?_
  refine fm_sipushv (pc := 154) 256 (by decide) dX10_sign_154 ?_
  refine fm_icmp_lt (pc := 157) 170 (by decide) dX10_sign_157 (fun c157 => ?_) (fun c157 => ?_)
  · replace h := fm_itp c157 h
    refine fm_vret (pc := 170) rfl ?_ dX10_sign_170
    cases h
    exact hq
  · replace h := fm_itn c157 h
    refine fl_aload0 (pc := 160) dX10_sign_160 ?_
    refine fm_dup (pc := 161) rfl dX10_sign_161 ?_
    refine fm_geti (pc := 162) lk_10_136 sh_76 rfl dX10_sign_162 ?_
    refine fm_iconstv (pc := 165) 1 (by decide) dX10_sign_165 ?_
    refine fm_iadd (pc := 166) dX10_sign_166 ?_
    refine fm_puti (pc := 167) lp_10_136 sh_76 rfl dX10_sign_167 ?_
    obtain ⟨M4, eM4, h⟩ := fm_ltp h
    refine fm_cgm eM4 ?_
    refine fm_vret (pc := 170) rfl ?_ dX10_sign_170
    cases h
    exact hq
theorem jn_X10_sign_128 {d : Nat} {Q : Option Value → fm_M → Prop}  (l1 : Int32) {x : Unit × fm_M}  (hq : Q none x.2) (M : fm_M) (h : J_X10_sign_128 l1 M = some x) : fm_mw (d + 1) mX10_sign Q 128 [some (.ref 76), some (.int l1)] [] M := by
  rw [J_X10_sign_128] at h
  refine fl_iload1 (pc := 128) dX10_sign_128 ?_
  refine fm_bipushv (pc := 129) 62 (by decide) dX10_sign_129 ?_
  refine fm_icmp_ne (pc := 131) 150 (by decide) dX10_sign_131 (fun c131 => ?_) (fun c131 => ?_)
  · replace h := fm_itn c131 h
    exact jn_X10_sign_150 _  hq _ h
  · replace h := fm_itp c131 h
    refine fl_aload0 (pc := 134) dX10_sign_134 ?_
    obtain ⟨v5, M6, ev5, h⟩ := fm_bdp h
    refine fm_callV (pc := 135) mX10_here [] _ rfl cvX10_here ml_10_142 sh_76 rfl rfl (Nat.le_of_ble_eq_true rfl) (Nat.le_of_ble_eq_true rfl) dX10_sign_135 ?_
    refine sp_X10_here ev5 ?_
    refine fm_ret1 ?_
    refine fm_bipushv (pc := 138) 61 (by decide) dX10_sign_138 ?_
    refine fm_icmp_ne (pc := 140) 150 (by decide) dX10_sign_140 (fun c140 => ?_) (fun c140 => ?_)
    · replace h := fm_itn c140 h
      exact jn_X10_sign_150 _  hq _ h
    · replace h := fm_itp c140 h
      refine fl_aload0 (pc := 143) dX10_sign_143 ?_
      refine fm_sipushv (pc := 144) 258 (by decide) dX10_sign_144 ?_
      refine fm_puti (pc := 147) lp_10_159 sh_76 rfl dX10_sign_147 ?_
      obtain ⟨M7, eM7, h⟩ := fm_ltp h
      refine fm_cgm eM7 ?_
      exact jn_X10_sign_150 _  hq _ h
theorem jn_X10_sign_106 {d : Nat} {Q : Option Value → fm_M → Prop}  (l1 : Int32) {x : Unit × fm_M}  (hq : Q none x.2) (M : fm_M) (h : J_X10_sign_106 l1 M = some x) : fm_mw (d + 1) mX10_sign Q 106 [some (.ref 76), some (.int l1)] [] M := by
  rw [J_X10_sign_106] at h
  refine fl_iload1 (pc := 106) dX10_sign_106 ?_
  refine fm_bipushv (pc := 107) 60 (by decide) dX10_sign_107 ?_
  refine fm_icmp_ne (pc := 109) 128 (by decide) dX10_sign_109 (fun c109 => ?_) (fun c109 => ?_)
  · replace h := fm_itn c109 h
    exact jn_X10_sign_128 _  hq _ h
  · replace h := fm_itp c109 h
    refine fl_aload0 (pc := 112) dX10_sign_112 ?_
    obtain ⟨v8, M9, ev8, h⟩ := fm_bdp h
    refine fm_callV (pc := 113) mX10_here [] _ rfl cvX10_here ml_10_142 sh_76 rfl rfl (Nat.le_of_ble_eq_true rfl) (Nat.le_of_ble_eq_true rfl) dX10_sign_113 ?_
    refine sp_X10_here ev8 ?_
    refine fm_ret1 ?_
    refine fm_bipushv (pc := 116) 62 (by decide) dX10_sign_116 ?_
    refine fm_icmp_ne (pc := 118) 128 (by decide) dX10_sign_118 (fun c118 => ?_) (fun c118 => ?_)
    · replace h := fm_itn c118 h
      exact jn_X10_sign_128 _  hq _ h
    · replace h := fm_itp c118 h
      refine fl_aload0 (pc := 121) dX10_sign_121 ?_
      refine fm_sipushv (pc := 122) 257 (by decide) dX10_sign_122 ?_
      refine fm_puti (pc := 125) lp_10_159 sh_76 rfl dX10_sign_125 ?_
      obtain ⟨M10, eM10, h⟩ := fm_ltp h
      refine fm_cgm eM10 ?_
      exact jn_X10_sign_128 _  hq _ h
theorem jn_X10_sign_76 {d : Nat} {Q : Option Value → fm_M → Prop}  (l1 : Int32) (s1 : Int32) {x : Unit × fm_M}  (hq : Q none x.2) (M : fm_M) (h : J_X10_sign_76 l1 s1 M = some x) : fm_mw (d + 1) mX10_sign Q 76 [some (.ref 76), some (.int l1)] [(.int s1), (.ref 76)] M := by
  rw [J_X10_sign_76] at h
  refine fm_puti (pc := 76) lp_10_149 sh_76 rfl dX10_sign_76 ?_
  obtain ⟨M2, eM2, h⟩ := fm_ltp h
  refine fm_cgm eM2 ?_
  refine fl_aload0 (pc := 79) dX10_sign_79 ?_
  refine fl_iload1 (pc := 80) dX10_sign_80 ?_
  refine fm_puti (pc := 81) lp_10_159 sh_76 rfl dX10_sign_81 ?_
  obtain ⟨M3, eM3, h⟩ := fm_ltp h
  refine fm_cgm eM3 ?_
  refine fl_iload1 (pc := 84) dX10_sign_84 ?_
  refine fm_bipushv (pc := 85) 60 (by decide) dX10_sign_85 ?_
  refine fm_icmp_ne (pc := 87) 106 (by decide) dX10_sign_87 (fun c87 => ?_) (fun c87 => ?_)
  · replace h := fm_itn c87 h
    exact jn_X10_sign_106 _  hq _ h
  · replace h := fm_itp c87 h
    refine fl_aload0 (pc := 90) dX10_sign_90 ?_
    obtain ⟨v11, M12, ev11, h⟩ := fm_bdp h
    refine fm_callV (pc := 91) mX10_here [] _ rfl cvX10_here ml_10_142 sh_76 rfl rfl (Nat.le_of_ble_eq_true rfl) (Nat.le_of_ble_eq_true rfl) dX10_sign_91 ?_
    refine sp_X10_here ev11 ?_
    refine fm_ret1 ?_
    refine fm_bipushv (pc := 94) 61 (by decide) dX10_sign_94 ?_
    refine fm_icmp_ne (pc := 96) 106 (by decide) dX10_sign_96 (fun c96 => ?_) (fun c96 => ?_)
    · replace h := fm_itn c96 h
      exact jn_X10_sign_106 _  hq _ h
    · replace h := fm_itp c96 h
      refine fl_aload0 (pc := 99) dX10_sign_99 ?_
      refine fm_sipushv (pc := 100) 256 (by decide) dX10_sign_100 ?_
      refine fm_puti (pc := 103) lp_10_159 sh_76 rfl dX10_sign_103 ?_
      obtain ⟨M13, eM13, h⟩ := fm_ltp h
      refine fm_cgm eM13 ?_
      exact jn_X10_sign_106 _  hq _ h
theorem jn_X10_sign_71 {d : Nat} {Q : Option Value → fm_M → Prop}  (l1 : Int32) {x : Unit × fm_M}  (hq : Q none x.2) (M : fm_M) (h : J_X10_sign_71 l1 M = some x) : fm_mw (d + 1) mX10_sign Q 71 [some (.ref 76), some (.int l1)] [(.ref 76)] M := by
  rw [J_X10_sign_71] at h
  refine fm_iconstv (pc := 71) 3 (by decide) dX10_sign_71 ?_
  refine fm_goto (pc := 72) 76 (by decide) dX10_sign_72 ?_
  exact jn_X10_sign_76 _ _  hq _ h
theorem sp_X10_sign {d : Nat} {a1 : Int32} {M : fm_M} {x : Unit × fm_M} {Q : Option Value → fm_M → Prop} (h : F_X10_sign a1 M = some x) (hq : Q none x.2) : fm_ct (d + 1) mX10_sign [.ref 76, .int a1] M Q := by
  rw [F_X10_sign] at h
  show fm_mw (d + 1) mX10_sign Q 0 [some (.ref 76), some (.int a1)] [] M
  refine fl_aload0 (pc := 0) dX10_sign_0 ?_
  refine fm_dup (pc := 1) rfl dX10_sign_1 ?_
  refine fm_geti (pc := 2) lk_10_136 sh_76 rfl dX10_sign_2 ?_
  refine fm_iconstv (pc := 5) 1 (by decide) dX10_sign_5 ?_
  refine fm_iadd (pc := 6) dX10_sign_6 ?_
  refine fm_puti (pc := 7) lp_10_136 sh_76 rfl dX10_sign_7 ?_
  obtain ⟨M1, eM1, h⟩ := fm_ltp h
  refine fm_cgm eM1 ?_
  refine fl_aload0 (pc := 10) dX10_sign_10 ?_
  refine fl_iload1 (pc := 11) dX10_sign_11 ?_
  refine fm_bipushv (pc := 12) 59 (by decide) dX10_sign_12 ?_
  refine fm_icmp_eq (pc := 14) 71 (by decide) dX10_sign_14 (fun c14 => ?_) (fun c14 => ?_)
  · replace h := fm_itp c14 h
    exact jn_X10_sign_71 _  hq _ h
  · replace h := fm_itn c14 h
    refine fl_iload1 (pc := 17) dX10_sign_17 ?_
    refine fm_bipushv (pc := 18) 40 (by decide) dX10_sign_18 ?_
    refine fm_icmp_eq (pc := 20) 71 (by decide) dX10_sign_20 (fun c20 => ?_) (fun c20 => ?_)
    · replace h := fm_itp c20 h
      exact jn_X10_sign_71 _  hq _ h
    · replace h := fm_itn c20 h
      refine fl_iload1 (pc := 23) dX10_sign_23 ?_
      refine fm_bipushv (pc := 24) 41 (by decide) dX10_sign_24 ?_
      refine fm_icmp_eq (pc := 26) 71 (by decide) dX10_sign_26 (fun c26 => ?_) (fun c26 => ?_)
      · replace h := fm_itp c26 h
        exact jn_X10_sign_71 _  hq _ h
      · replace h := fm_itn c26 h
        refine fl_iload1 (pc := 29) dX10_sign_29 ?_
        refine fm_bipushv (pc := 30) 43 (by decide) dX10_sign_30 ?_
        refine fm_icmp_eq (pc := 32) 71 (by decide) dX10_sign_32 (fun c32 => ?_) (fun c32 => ?_)
        · replace h := fm_itp c32 h
          exact jn_X10_sign_71 _  hq _ h
        · replace h := fm_itn c32 h
          refine fl_iload1 (pc := 35) dX10_sign_35 ?_
          refine fm_bipushv (pc := 36) 45 (by decide) dX10_sign_36 ?_
          refine fm_icmp_eq (pc := 38) 71 (by decide) dX10_sign_38 (fun c38 => ?_) (fun c38 => ?_)
          · replace h := fm_itp c38 h
            exact jn_X10_sign_71 _  hq _ h
          · replace h := fm_itn c38 h
            refine fl_iload1 (pc := 41) dX10_sign_41 ?_
            refine fm_bipushv (pc := 42) 42 (by decide) dX10_sign_42 ?_
            refine fm_icmp_eq (pc := 44) 71 (by decide) dX10_sign_44 (fun c44 => ?_) (fun c44 => ?_)
            · replace h := fm_itp c44 h
              exact jn_X10_sign_71 _  hq _ h
            · replace h := fm_itn c44 h
              refine fl_iload1 (pc := 47) dX10_sign_47 ?_
              refine fm_bipushv (pc := 48) 47 (by decide) dX10_sign_48 ?_
              refine fm_icmp_eq (pc := 50) 71 (by decide) dX10_sign_50 (fun c50 => ?_) (fun c50 => ?_)
              · replace h := fm_itp c50 h
                exact jn_X10_sign_71 _  hq _ h
              · replace h := fm_itn c50 h
                refine fl_iload1 (pc := 53) dX10_sign_53 ?_
                refine fm_bipushv (pc := 54) 60 (by decide) dX10_sign_54 ?_
                refine fm_icmp_eq (pc := 56) 71 (by decide) dX10_sign_56 (fun c56 => ?_) (fun c56 => ?_)
                · replace h := fm_itp c56 h
                  exact jn_X10_sign_71 _  hq _ h
                · replace h := fm_itn c56 h
                  refine fl_iload1 (pc := 59) dX10_sign_59 ?_
                  refine fm_bipushv (pc := 60) 61 (by decide) dX10_sign_60 ?_
                  refine fm_icmp_eq (pc := 62) 71 (by decide) dX10_sign_62 (fun c62 => ?_) (fun c62 => ?_)
                  · replace h := fm_itp c62 h
                    exact jn_X10_sign_71 _  hq _ h
                  · replace h := fm_itn c62 h
                    refine fl_iload1 (pc := 65) dX10_sign_65 ?_
                    refine fm_bipushv (pc := 66) 62 (by decide) dX10_sign_66 ?_
                    refine fm_icmp_ne (pc := 68) 75 (by decide) dX10_sign_68 (fun c68 => ?_) (fun c68 => ?_)
                    · replace h := fm_itn c68 h
                      refine fm_iconstv (pc := 75) 5 (by decide) dX10_sign_75 ?_
                      exact jn_X10_sign_76 _ _  hq _ h
                    · replace h := fm_itp c68 h
                      exact jn_X10_sign_71 _  hq _ h
/-! X10_word -/
def G_X10_word_15 : Nat → Int32 → Int32 → Int32 → fm_M → Option ((Int32) × fm_M)
  | 0, _, _, _, _ => none
  | n + 1, l1, l2, l3, M =>
    fm_gd (fm_inb (l2 + l3) 111) (
    if (fm_chr (l2 + l3)) = 32 then (
      some (l3, M)
    ) else (
      if (M.1 76 20) ≤ ((M.1 76 21) + l3) then (
        some (l3, M)
      ) else (
        fm_gd (fm_inb ((M.1 76 21) + l3) 700) (
        fm_gd (fm_inb (l2 + l3) 111) (
        if (M.1 77 (Int32.toNatClampNeg ((M.1 76 21) + l3))) = (fm_chr (l2 + l3)) then (
          G_X10_word_15 n l1 l2 (l3 + 1) M
        ) else (
          some (l3, M)
        )))
      )
    ))
def G_X10_word_97 : Nat → Int32 → Int32 → Int32 → fm_M → Option ((Int32) × fm_M)
  | 0, _, _, _, _ => none
  | n + 1, l1, l3, l2, M =>
    fm_gd (fm_inb l2 111) (
    if (fm_chr l2) = 32 then (
      some (l2, M)
    ) else (
      G_X10_word_97 n l1 l3 (l2 + 1) M
    ))
def G_X10_word_4 : Nat → Int32 → Int32 → fm_M → Option (((Int32 × Int32) ⊕ Int32) × fm_M)
  | 0, _, _, _ => none
  | n + 1, l1, l2, M =>
    if 111 ≤ l2 then (
      some (.inl (l1, l2), M)
    ) else (
      fm_bd (G_X10_word_15 fm_fuel l1 l2 0 M) (fun w4 M5 =>
        fm_gd (fm_inb (l2 + w4) 111) (
        if (fm_chr (l2 + w4)) = 32 then (
          if ((M5.1 76 21) + w4) = (M5.1 76 20) then (
            some (.inr l1, M5)
          ) else (
            fm_bd (G_X10_word_97 fm_fuel l1 w4 l2 M5) (fun w10 M11 =>
              G_X10_word_4 n (l1 + 1) (w10 + 1) M11)
          )
        ) else (
          fm_bd (G_X10_word_97 fm_fuel l1 w4 l2 M5) (fun w8 M9 =>
            G_X10_word_4 n (l1 + 1) (w8 + 1) M9)
        )))
    )
def F_X10_word  (M : fm_M) : Option (Int32 × fm_M) :=
    fm_bs (G_X10_word_4 fm_fuel 0 0 M) (fun w12 M13 =>
      some ((-1), M13)) (fun r14 M => some (r14, M))
theorem lp_X10_word_15 {d : Nat} {Q : Option Value → fm_M → Prop} {l1 : Int32} {l2 : Int32}   {x : (Int32) × fm_M} (k1 : ∀ (v : Int32) (M2 : fm_M), x = (v, M2) → fm_mw (d + 4) mX10_word Q 69 [some (.ref 76), some (.int l1), some (.int l2), some (.int v)] [] M2) : ∀ (n : Nat) (l3 : Int32) (M : fm_M), G_X10_word_15 n l1 l2 l3 M = some x → fm_mw (d + 4) mX10_word Q 15 [some (.ref 76), some (.int l1), some (.int l2), some (.int l3)] [] M := by
  intro n
  induction n with
  | zero => intro l3 M h; simp [G_X10_word_15] at h
  | succ n ih =>
    intro l3 M h
    rw [G_X10_word_15] at h
    refine fs_ldc (pc := 15) rfl dX10_word_15 ?_
    refine fl_iload2 (pc := 17) dX10_word_17 ?_
    refine fl_iload3 (pc := 18) dX10_word_18 ?_
    refine fm_iadd (pc := 19) dX10_word_19 ?_
    obtain ⟨g1, h⟩ := fm_gdp h
    refine fq_char (pc := 20) nl_10_180 (Nat.le_of_ble_eq_true rfl) (fm_inb_ok g1) dX10_word_20 ?_
    refine fm_bipushv (pc := 23) 32 (by decide) dX10_word_23 ?_
    refine fm_icmp_eq (pc := 25) 69 (by decide) dX10_word_25 (fun c25 => ?_) (fun c25 => ?_)
    · replace h := fm_itp c25 h
      refine fm_fgt [some (.ref 76), some (.int l1), some (.int l2), some (.int l3)] (by simp [fm_sub]) ?_
      cases h
      exact k1 _ _ rfl
    · replace h := fm_itn c25 h
      refine fl_aload0 (pc := 28) dX10_word_28 ?_
      refine fm_geti (pc := 29) lk_10_146 sh_76 rfl dX10_word_29 ?_
      refine fl_iload3 (pc := 32) dX10_word_32 ?_
      refine fm_iadd (pc := 33) dX10_word_33 ?_
      refine fl_aload0 (pc := 34) dX10_word_34 ?_
      refine fm_geti (pc := 35) lk_10_136 sh_76 rfl dX10_word_35 ?_
      refine fm_icmp_ge (pc := 38) 69 (by decide) dX10_word_38 (fun c38 => ?_) (fun c38 => ?_)
      · replace h := fm_itp c38 h
        refine fm_fgt [some (.ref 76), some (.int l1), some (.int l2), some (.int l3)] (by simp [fm_sub]) ?_
        cases h
        exact k1 _ _ rfl
      · replace h := fm_itn c38 h
        refine fl_aload0 (pc := 41) dX10_word_41 ?_
        refine fm_getr (pc := 42) lk_10_7 sh_76 rfl dX10_word_42 ?_
        refine fl_aload0 (pc := 45) dX10_word_45 ?_
        refine fm_geti (pc := 46) lk_10_146 sh_76 rfl dX10_word_46 ?_
        refine fl_iload3 (pc := 49) dX10_word_49 ?_
        refine fm_iadd (pc := 50) dX10_word_50 ?_
        obtain ⟨g2, h⟩ := fm_gdp h
        refine fm_iald (pc := 51) sh_77 (fm_inb_ok g2) dX10_word_51 ?_
        refine fs_ldc (pc := 52) rfl dX10_word_52 ?_
        refine fl_iload2 (pc := 54) dX10_word_54 ?_
        refine fl_iload3 (pc := 55) dX10_word_55 ?_
        refine fm_iadd (pc := 56) dX10_word_56 ?_
        obtain ⟨g3, h⟩ := fm_gdp h
        refine fq_char (pc := 57) nl_10_180 (Nat.le_of_ble_eq_true rfl) (fm_inb_ok g3) dX10_word_57 ?_
        refine fm_icmp_ne (pc := 60) 69 (by decide) dX10_word_60 (fun c60 => ?_) (fun c60 => ?_)
        · replace h := fm_itn c60 h
          refine fm_fgt [some (.ref 76), some (.int l1), some (.int l2), some (.int l3)] (by simp [fm_sub]) ?_
          cases h
          exact k1 _ _ rfl
        · replace h := fm_itp c60 h
          refine fl_iinc3 (pc := 63) rfl 1 (by decide) (by decide) dX10_word_63 ?_
          refine fm_goto (pc := 66) 15 (by decide) dX10_word_66 ?_
          refine fm_fgt [some (.ref 76), some (.int l1), some (.int l2), some (.int (l3 + 1))] (by simp [fm_sub]) ?_
          exact ih _ _ h
theorem lp_X10_word_97 {d : Nat} {Q : Option Value → fm_M → Prop} {l1 : Int32} {l3 : Int32}   {x : (Int32) × fm_M} (k1 : ∀ (v : Int32) (M2 : fm_M), x = (v, M2) → fm_mw (d + 4) mX10_word Q 114 [some (.ref 76), some (.int l1), some (.int v), some (.int l3)] [] M2) : ∀ (n : Nat) (l2 : Int32) (M : fm_M), G_X10_word_97 n l1 l3 l2 M = some x → fm_mw (d + 4) mX10_word Q 97 [some (.ref 76), some (.int l1), some (.int l2), some (.int l3)] [] M := by
  intro n
  induction n with
  | zero => intro l2 M h; simp [G_X10_word_97] at h
  | succ n ih =>
    intro l2 M h
    rw [G_X10_word_97] at h
    refine fs_ldc (pc := 97) rfl dX10_word_97 ?_
    refine fl_iload2 (pc := 99) dX10_word_99 ?_
    obtain ⟨g7, h⟩ := fm_gdp h
    refine fq_char (pc := 100) nl_10_180 (Nat.le_of_ble_eq_true rfl) (fm_inb_ok g7) dX10_word_100 ?_
    refine fm_bipushv (pc := 103) 32 (by decide) dX10_word_103 ?_
    refine fm_icmp_eq (pc := 105) 114 (by decide) dX10_word_105 (fun c105 => ?_) (fun c105 => ?_)
    · replace h := fm_itp c105 h
      refine fm_fgt [some (.ref 76), some (.int l1), some (.int l2), some (.int l3)] (by simp [fm_sub]) ?_
      cases h
      exact k1 _ _ rfl
    · replace h := fm_itn c105 h
      refine fl_iinc2 (pc := 108) rfl 1 (by decide) (by decide) dX10_word_108 ?_
      refine fm_goto (pc := 111) 97 (by decide) dX10_word_111 ?_
      refine fm_fgt [some (.ref 76), some (.int l1), some (.int (l2 + 1)), some (.int l3)] (by simp [fm_sub]) ?_
      exact ih _ _ h
theorem lp_X10_word_4 {d : Nat} {Q : Option Value → fm_M → Prop}    {x : ((Int32 × Int32) ⊕ Int32) × fm_M} (k1 : ∀ (v : Int32 × Int32) (M2 : fm_M), x = (.inl v, M2) → fm_mw (d + 4) mX10_word Q 123 [some (.ref 76), some (.int v.1), some (.int v.2), none] [] M2) (k2 : ∀ (r : Int32) (M2 : fm_M), x = (.inr r, M2) → Q (some (.int r)) M2) : ∀ (n : Nat) (l1 : Int32) (l2 : Int32) (M : fm_M), G_X10_word_4 n l1 l2 M = some x → fm_mw (d + 4) mX10_word Q 4 [some (.ref 76), some (.int l1), some (.int l2), none] [] M := by
  intro n
  induction n with
  | zero => intro l1 l2 M h; simp [G_X10_word_4] at h
  | succ n ih =>
    intro l1 l2 M h
    rw [G_X10_word_4] at h
    refine fl_iload2 (pc := 4) dX10_word_4 ?_
    refine fs_ldc (pc := 5) rfl dX10_word_5 ?_
    refine fq_slen (pc := 7) nl_10_175 (Nat.le_of_ble_eq_true rfl) dX10_word_7 ?_
    refine fm_icmp_ge (pc := 10) 123 (by decide) dX10_word_10 (fun c10 => ?_) (fun c10 => ?_)
    · replace h := fm_itp c10 h
      refine fm_fgt [some (.ref 76), some (.int l1), some (.int l2), none] (by simp [fm_sub]) ?_
      cases h
      exact k1 _ _ rfl
    · replace h := fm_itn c10 h
      refine fm_iconstv (pc := 13) 0 (by decide) dX10_word_13 ?_
      refine fl_istore3 (pc := 14) rfl (by decide) dX10_word_14 ?_
      obtain ⟨w4, M5, ew4, h⟩ := fm_bdp h
      refine lp_X10_word_15  ?_ _ _ _ ew4
      intro w49 M59 q9
      cases q9
      refine fs_ldc (pc := 69) rfl dX10_word_69 ?_
      refine fl_iload2 (pc := 71) dX10_word_71 ?_
      refine fl_iload3 (pc := 72) dX10_word_72 ?_
      refine fm_iadd (pc := 73) dX10_word_73 ?_
      obtain ⟨g6, h⟩ := fm_gdp h
      refine fq_char (pc := 74) nl_10_180 (Nat.le_of_ble_eq_true rfl) (fm_inb_ok g6) dX10_word_74 ?_
      refine fm_bipushv (pc := 77) 32 (by decide) dX10_word_77 ?_
      refine fm_icmp_ne (pc := 79) 97 (by decide) dX10_word_79 (fun c79 => ?_) (fun c79 => ?_)
      · replace h := fm_itn c79 h
        obtain ⟨w8, M9, ew8, h⟩ := fm_bdp h
        refine lp_X10_word_97  ?_ _ _ _ ew8
        intro w89 M99 q9
        cases q9
        refine fl_iinc2 (pc := 114) rfl 1 (by decide) (by decide) dX10_word_114 ?_
        refine fl_iinc1 (pc := 117) rfl 1 (by decide) (by decide) dX10_word_117 ?_
        refine fm_goto (pc := 120) 4 (by decide) dX10_word_120 ?_
        refine fm_fgt [some (.ref 76), some (.int (l1 + 1)), some (.int (w8 + 1)), none] (by simp [fm_sub]) ?_
        exact ih _ _ _ h
      · replace h := fm_itp c79 h
        refine fl_aload0 (pc := 82) dX10_word_82 ?_
        refine fm_geti (pc := 83) lk_10_146 sh_76 rfl dX10_word_83 ?_
        refine fl_iload3 (pc := 86) dX10_word_86 ?_
        refine fm_iadd (pc := 87) dX10_word_87 ?_
        refine fl_aload0 (pc := 88) dX10_word_88 ?_
        refine fm_geti (pc := 89) lk_10_136 sh_76 rfl dX10_word_89 ?_
        refine fm_icmp_ne (pc := 92) 97 (by decide) dX10_word_92 (fun c92 => ?_) (fun c92 => ?_)
        · replace h := fm_itn c92 h
          obtain ⟨w10, M11, ew10, h⟩ := fm_bdp h
          refine lp_X10_word_97  ?_ _ _ _ ew10
          intro w109 M119 q9
          cases q9
          refine fl_iinc2 (pc := 114) rfl 1 (by decide) (by decide) dX10_word_114 ?_
          refine fl_iinc1 (pc := 117) rfl 1 (by decide) (by decide) dX10_word_117 ?_
          refine fm_goto (pc := 120) 4 (by decide) dX10_word_120 ?_
          refine fm_fgt [some (.ref 76), some (.int (l1 + 1)), some (.int (w10 + 1)), none] (by simp [fm_sub]) ?_
          exact ih _ _ _ h
        · replace h := fm_itp c92 h
          refine fl_iload1 (pc := 95) dX10_word_95 ?_
          refine fm_iret (pc := 96) rfl ?_ dX10_word_96
          cases h
          exact k2 _ _ rfl
theorem sp_X10_word {d : Nat}  {M : fm_M} {x : Int32 × fm_M} {Q : Option Value → fm_M → Prop} (h : F_X10_word  M = some x) (hq : Q (some (.int x.1)) x.2) : fm_ct (d + 4) mX10_word [.ref 76] M Q := by
  rw [F_X10_word] at h
  show fm_mw (d + 4) mX10_word Q 0 [some (.ref 76), none, none, none] [] M
  refine fm_iconstv (pc := 0) 0 (by decide) dX10_word_0 ?_
  refine fl_istore1 (pc := 1) rfl (by decide) dX10_word_1 ?_
  refine fm_iconstv (pc := 2) 0 (by decide) dX10_word_2 ?_
  refine fl_istore2 (pc := 3) rfl (by decide) dX10_word_3 ?_
  obtain ⟨w9, M13, ew12, hl9, hr9⟩ := fm_bsp h
  refine lp_X10_word_4  ?_ ?_ _ _ _ _ ew12
  · intro w12 M9 q9
    cases q9
    replace h := hl9 _ rfl
    refine fm_iconstv (pc := 123) (-1) (by decide) dX10_word_123 ?_
    refine fm_iret (pc := 124) rfl ?_ dX10_word_124
    cases h
    exact hq
  · intro r9 M9 q9
    cases q9
    replace h := hr9 _ rfl
    cases h
    exact hq
/-! X10_token -/
def G_X10_token_0 : Nat → fm_M → Option ((Unit) × fm_M)
  | 0, _ => none
  | n + 1, M =>
    fm_bd (F_X10_here M) (fun v1 M2 =>
    if v1 = 10 then (
      fm_lt (fm_up M2 76 20 ((M2.1 76 20) + 1)) (fun M3 =>
      G_X10_token_0 n M3)
    ) else (
      fm_bd (F_X10_here M2) (fun v4 M5 =>
      if v4 = 32 then (
        fm_lt (fm_up M5 76 20 ((M5.1 76 20) + 1)) (fun M6 =>
        G_X10_token_0 n M6)
      ) else (
        some ((), M5)
      ))
    ))
def J_X10_token_204 (rec : fm_M → Option ((Unit) × fm_M)) (l1 : Int32) (s1 : Int32) (M : fm_M) : Option ((Unit) × fm_M) :=
    fm_lt (fm_up M 76 23 s1) (fun M26 =>
    fm_lt (fm_up M26 76 20 ((M26.1 76 20) + 1)) (fun M27 =>
    rec M27))
def G_X10_token_162 : Nat → Int32 → fm_M → Option ((Unit) × fm_M)
  | 0, _, _ => none
  | n + 1, l1, M =>
    fm_bd (F_X10_here M) (fun v20 M21 =>
    fm_bd (F_X10_isDigit v20 M21) (fun v22 M23 =>
    if v22 = 0 then (
      some ((), M23)
    ) else (
      if (M23.1 76 23) ≤ 99999 then (
        fm_bd (F_X10_here M23) (fun v24 M25 =>
        J_X10_token_204 (G_X10_token_162 n l1) l1 (((10 * (M23.1 76 23)) + v24) - 48) M25)
      ) else (
        J_X10_token_204 (G_X10_token_162 n l1) l1 (M23.1 76 23) M23
      )
    )))
def G_X10_token_64 : Nat → Int32 → fm_M → Option ((Unit) × fm_M)
  | 0, _, _ => none
  | n + 1, l1, M =>
    fm_bd (F_X10_here M) (fun v30 M31 =>
    fm_bd (F_X10_isSmall v30 M31) (fun v32 M33 =>
    if v32 = 0 then (
      some ((), M33)
    ) else (
      fm_lt (fm_up M33 76 20 ((M33.1 76 20) + 1)) (fun M34 =>
      G_X10_token_64 n l1 M34)
    )))
def J_X10_token_127 (l1 : Int32) (s1 : Int32) (M : fm_M) : Option (Unit × fm_M) :=
    fm_lt (fm_up M 76 22 s1) (fun M40 =>
    if (M40.1 76 22) = 1 then (
      fm_bd (F_X10_name M40) (fun v41 M42 =>
      some ((), M42))
    ) else (
      some ((), M40)
    ))
def F_X10_token  (M : fm_M) : Option (Unit × fm_M) :=
    fm_bd (G_X10_token_0 fm_fuel M) (fun w7 M8 =>
      fm_lt (fm_up M8 76 21 (M8.1 76 20)) (fun M9 =>
      fm_bd (F_X10_here M9) (fun v10 M11 =>
      if v10 = (-1) then (
        fm_lt (fm_up M11 76 22 4) (fun M43 =>
        some ((), M43))
      ) else (
        fm_bd (F_X10_isSmall v10 M11) (fun v12 M13 =>
        if v12 = 0 then (
          fm_bd (F_X10_isDigit v10 M13) (fun v14 M15 =>
          if v14 = 0 then (
            fm_bd (F_X10_sign v10 M15) (fun v16 M17 =>
            some ((), M17))
          ) else (
            fm_lt (fm_up M15 76 22 2) (fun M18 =>
            fm_lt (fm_up M18 76 23 0) (fun M19 =>
            fm_bd (G_X10_token_162 fm_fuel v10 M19) (fun w28 M29 =>
              some ((), M29))))
          ))
        ) else (
          fm_bd (G_X10_token_64 fm_fuel v10 M13) (fun w35 M36 =>
            fm_bd (F_X10_word M36) (fun v37 M38 =>
            fm_lt (fm_up M38 76 23 v37) (fun M39 =>
            if (M39.1 76 23) = (-1) then (
              if ((M39.1 76 20) - (M39.1 76 21)) ≤ 6 then (
                J_X10_token_127 v10 1 M39
              ) else (
                J_X10_token_127 v10 5 M39
              )
            ) else (
              J_X10_token_127 v10 0 M39
            ))))
        ))
      ))))
theorem lp_X10_token_0 {d : Nat} {Q : Option Value → fm_M → Prop}    {x : (Unit) × fm_M} (k1 : ∀ (v : Unit) (M2 : fm_M), x = (v, M2) → fm_mw (d + 5) mX10_token Q 31 [some (.ref 76), none] [] M2) : ∀ (n : Nat)  (M : fm_M), G_X10_token_0 n M = some x → fm_mw (d + 5) mX10_token Q 0 [some (.ref 76), none] [] M := by
  intro n
  induction n with
  | zero => intro M h; simp [G_X10_token_0] at h
  | succ n ih =>
    intro M h
    rw [G_X10_token_0] at h
    refine fl_aload0 (pc := 0) dX10_token_0 ?_
    obtain ⟨v1, M2, ev1, h⟩ := fm_bdp h
    refine fm_callV (pc := 1) mX10_here [] _ rfl cvX10_here ml_10_142 sh_76 rfl rfl (Nat.le_of_ble_eq_true rfl) (Nat.le_of_ble_eq_true rfl) dX10_token_1 ?_
    refine sp_X10_here ev1 ?_
    refine fm_ret1 ?_
    refine fm_bipushv (pc := 4) 10 (by decide) dX10_token_4 ?_
    refine fm_icmp_eq (pc := 6) 18 (by decide) dX10_token_6 (fun c6 => ?_) (fun c6 => ?_)
    · replace h := fm_itp c6 h
      refine fl_aload0 (pc := 18) dX10_token_18 ?_
      refine fm_dup (pc := 19) rfl dX10_token_19 ?_
      refine fm_geti (pc := 20) lk_10_136 sh_76 rfl dX10_token_20 ?_
      refine fm_iconstv (pc := 23) 1 (by decide) dX10_token_23 ?_
      refine fm_iadd (pc := 24) dX10_token_24 ?_
      refine fm_puti (pc := 25) lp_10_136 sh_76 rfl dX10_token_25 ?_
      obtain ⟨M3, eM3, h⟩ := fm_ltp h
      refine fm_cgm eM3 ?_
      refine fm_goto (pc := 28) 0 (by decide) dX10_token_28 ?_
      refine fm_fgt [some (.ref 76), none] (by simp [fm_sub]) ?_
      exact ih  _ h
    · replace h := fm_itn c6 h
      refine fl_aload0 (pc := 9) dX10_token_9 ?_
      obtain ⟨v4, M5, ev4, h⟩ := fm_bdp h
      refine fm_callV (pc := 10) mX10_here [] _ rfl cvX10_here ml_10_142 sh_76 rfl rfl (Nat.le_of_ble_eq_true rfl) (Nat.le_of_ble_eq_true rfl) dX10_token_10 ?_
      refine sp_X10_here ev4 ?_
      refine fm_ret1 ?_
      refine fm_bipushv (pc := 13) 32 (by decide) dX10_token_13 ?_
      refine fm_icmp_ne (pc := 15) 31 (by decide) dX10_token_15 (fun c15 => ?_) (fun c15 => ?_)
      · replace h := fm_itn c15 h
        refine fm_fgt [some (.ref 76), none] (by simp [fm_sub]) ?_
        cases h
        exact k1 _ _ rfl
      · replace h := fm_itp c15 h
        refine fl_aload0 (pc := 18) dX10_token_18 ?_
        refine fm_dup (pc := 19) rfl dX10_token_19 ?_
        refine fm_geti (pc := 20) lk_10_136 sh_76 rfl dX10_token_20 ?_
        refine fm_iconstv (pc := 23) 1 (by decide) dX10_token_23 ?_
        refine fm_iadd (pc := 24) dX10_token_24 ?_
        refine fm_puti (pc := 25) lp_10_136 sh_76 rfl dX10_token_25 ?_
        obtain ⟨M6, eM6, h⟩ := fm_ltp h
        refine fm_cgm eM6 ?_
        refine fm_goto (pc := 28) 0 (by decide) dX10_token_28 ?_
        refine fm_fgt [some (.ref 76), none] (by simp [fm_sub]) ?_
        exact ih  _ h
theorem jn_X10_token_204 {d : Nat} {Q : Option Value → fm_M → Prop} (rec : fm_M → Option ((Unit) × fm_M))  (l1 : Int32) (s1 : Int32) {x : (Unit) × fm_M}  (ih : ∀  (M : fm_M), rec  M = some x → fm_mw (d + 5) mX10_token Q 162 [some (.ref 76), some (.int l1)] [] M) (k1 : ∀ (v : Unit) (M2 : fm_M), x = (v, M2) → fm_mw (d + 5) mX10_token Q 225 [some (.ref 76), some (.int l1)] [] M2) (M : fm_M) (h : J_X10_token_204 rec l1 s1 M = some x) : fm_mw (d + 5) mX10_token Q 204 [some (.ref 76), some (.int l1)] [(.int s1), (.ref 76)] M := by
  rw [J_X10_token_204] at h
  refine fm_puti (pc := 204) lp_10_159 sh_76 rfl dX10_token_204 ?_
  obtain ⟨M26, eM26, h⟩ := fm_ltp h
  refine fm_cgm eM26 ?_
  refine fl_aload0 (pc := 207) dX10_token_207 ?_
  refine fm_dup (pc := 208) rfl dX10_token_208 ?_
  refine fm_geti (pc := 209) lk_10_136 sh_76 rfl dX10_token_209 ?_
  refine fm_iconstv (pc := 212) 1 (by decide) dX10_token_212 ?_
  refine fm_iadd (pc := 213) dX10_token_213 ?_
  refine fm_puti (pc := 214) lp_10_136 sh_76 rfl dX10_token_214 ?_
  obtain ⟨M27, eM27, h⟩ := fm_ltp h
  refine fm_cgm eM27 ?_
  refine fm_goto (pc := 217) 162 (by decide) dX10_token_217 ?_
  refine fm_fgt [some (.ref 76), some (.int l1)] (by simp [fm_sub]) ?_
  exact ih  _ h
theorem lp_X10_token_162 {d : Nat} {Q : Option Value → fm_M → Prop} {l1 : Int32}   {x : (Unit) × fm_M} (k1 : ∀ (v : Unit) (M2 : fm_M), x = (v, M2) → fm_mw (d + 5) mX10_token Q 225 [some (.ref 76), some (.int l1)] [] M2) : ∀ (n : Nat)  (M : fm_M), G_X10_token_162 n l1 M = some x → fm_mw (d + 5) mX10_token Q 162 [some (.ref 76), some (.int l1)] [] M := by
  intro n
  induction n with
  | zero => intro M h; simp [G_X10_token_162] at h
  | succ n ih =>
    intro M h
    rw [G_X10_token_162] at h
    refine fl_aload0 (pc := 162) dX10_token_162 ?_
    obtain ⟨v20, M21, ev20, h⟩ := fm_bdp h
    refine fm_callV (pc := 163) mX10_here [] _ rfl cvX10_here ml_10_142 sh_76 rfl rfl (Nat.le_of_ble_eq_true rfl) (Nat.le_of_ble_eq_true rfl) dX10_token_163 ?_
    refine sp_X10_here ev20 ?_
    refine fm_ret1 ?_
    obtain ⟨v22, M23, ev22, h⟩ := fm_bdp h
    refine fm_callS (pc := 166) mX10_isDigit [_] _ rfl csX10_isDigit ml_10_165 rfl (Nat.le_of_ble_eq_true rfl) (Nat.le_of_ble_eq_true rfl) dX10_token_166 ?_
    refine sp_X10_isDigit ev22 ?_
    refine fm_ret1 ?_
    refine fm_if_eq (pc := 169) 225 (by decide) dX10_token_169 (fun c169 => ?_) (fun c169 => ?_)
    · replace h := fm_itp c169 h
      refine fm_fgt [some (.ref 76), some (.int l1)] (by simp [fm_sub]) ?_
      cases h
      exact k1 _ _ rfl
    · replace h := fm_itn c169 h
      refine fl_aload0 (pc := 172) dX10_token_172 ?_
      refine fl_aload0 (pc := 173) dX10_token_173 ?_
      refine fm_geti (pc := 174) lk_10_159 sh_76 rfl dX10_token_174 ?_
      refine fm_ldc (pc := 177) kc_10_168 dX10_token_177 ?_
      refine fm_icmp_le (pc := 179) 189 (by decide) dX10_token_179 (fun c179 => ?_) (fun c179 => ?_)
      · replace h := fm_itp c179 h
        refine fm_bipushv (pc := 189) 10 (by decide) dX10_token_189 ?_
        refine fl_aload0 (pc := 191) dX10_token_191 ?_
        refine fm_geti (pc := 192) lk_10_159 sh_76 rfl dX10_token_192 ?_
        refine fm_imul (pc := 195) dX10_token_195 ?_
        refine fl_aload0 (pc := 196) dX10_token_196 ?_
        obtain ⟨v24, M25, ev24, h⟩ := fm_bdp h
        refine fm_callV (pc := 197) mX10_here [] _ rfl cvX10_here ml_10_142 sh_76 rfl rfl (Nat.le_of_ble_eq_true rfl) (Nat.le_of_ble_eq_true rfl) dX10_token_197 ?_
        refine sp_X10_here ev24 ?_
        refine fm_ret1 ?_
        refine fm_iadd (pc := 200) dX10_token_200 ?_
        refine fm_bipushv (pc := 201) 48 (by decide) dX10_token_201 ?_
        refine fm_isub (pc := 203) dX10_token_203 ?_
        exact jn_X10_token_204 _ _ _  ih k1 _ h
      · replace h := fm_itn c179 h
        refine fl_aload0 (pc := 182) dX10_token_182 ?_
        refine fm_geti (pc := 183) lk_10_159 sh_76 rfl dX10_token_183 ?_
        refine fm_goto (pc := 186) 204 (by decide) dX10_token_186 ?_
        exact jn_X10_token_204 _ _ _  ih k1 _ h
theorem lp_X10_token_64 {d : Nat} {Q : Option Value → fm_M → Prop} {l1 : Int32}   {x : (Unit) × fm_M} (k1 : ∀ (v : Unit) (M2 : fm_M), x = (v, M2) → fm_mw (d + 5) mX10_token Q 87 [some (.ref 76), some (.int l1)] [] M2) : ∀ (n : Nat)  (M : fm_M), G_X10_token_64 n l1 M = some x → fm_mw (d + 5) mX10_token Q 64 [some (.ref 76), some (.int l1)] [] M := by
  intro n
  induction n with
  | zero => intro M h; simp [G_X10_token_64] at h
  | succ n ih =>
    intro M h
    rw [G_X10_token_64] at h
    refine fl_aload0 (pc := 64) dX10_token_64 ?_
    obtain ⟨v30, M31, ev30, h⟩ := fm_bdp h
    refine fm_callV (pc := 65) mX10_here [] _ rfl cvX10_here ml_10_142 sh_76 rfl rfl (Nat.le_of_ble_eq_true rfl) (Nat.le_of_ble_eq_true rfl) dX10_token_65 ?_
    refine sp_X10_here ev30 ?_
    refine fm_ret1 ?_
    obtain ⟨v32, M33, ev32, h⟩ := fm_bdp h
    refine fm_callS (pc := 68) mX10_isSmall [_] _ rfl csX10_isSmall ml_10_152 rfl (Nat.le_of_ble_eq_true rfl) (Nat.le_of_ble_eq_true rfl) dX10_token_68 ?_
    refine sp_X10_isSmall ev32 ?_
    refine fm_ret1 ?_
    refine fm_if_eq (pc := 71) 87 (by decide) dX10_token_71 (fun c71 => ?_) (fun c71 => ?_)
    · replace h := fm_itp c71 h
      refine fm_fgt [some (.ref 76), some (.int l1)] (by simp [fm_sub]) ?_
      cases h
      exact k1 _ _ rfl
    · replace h := fm_itn c71 h
      refine fl_aload0 (pc := 74) dX10_token_74 ?_
      refine fm_dup (pc := 75) rfl dX10_token_75 ?_
      refine fm_geti (pc := 76) lk_10_136 sh_76 rfl dX10_token_76 ?_
      refine fm_iconstv (pc := 79) 1 (by decide) dX10_token_79 ?_
      refine fm_iadd (pc := 80) dX10_token_80 ?_
      refine fm_puti (pc := 81) lp_10_136 sh_76 rfl dX10_token_81 ?_
      obtain ⟨M34, eM34, h⟩ := fm_ltp h
      refine fm_cgm eM34 ?_
      refine fm_goto (pc := 84) 64 (by decide) dX10_token_84 ?_
      refine fm_fgt [some (.ref 76), some (.int l1)] (by simp [fm_sub]) ?_
      exact ih  _ h
theorem jn_X10_token_127 {d : Nat} {Q : Option Value → fm_M → Prop}  (l1 : Int32) (s1 : Int32) {x : Unit × fm_M}  (hq : Q none x.2) (M : fm_M) (h : J_X10_token_127 l1 s1 M = some x) : fm_mw (d + 5) mX10_token Q 127 [some (.ref 76), some (.int l1)] [(.int s1), (.ref 76)] M := by
  rw [J_X10_token_127] at h
  refine fm_puti (pc := 127) lp_10_149 sh_76 rfl dX10_token_127 ?_
  obtain ⟨M40, eM40, h⟩ := fm_ltp h
  refine fm_cgm eM40 ?_
  refine fl_aload0 (pc := 130) dX10_token_130 ?_
  refine fm_geti (pc := 131) lk_10_149 sh_76 rfl dX10_token_131 ?_
  refine fm_iconstv (pc := 134) 1 (by decide) dX10_token_134 ?_
  refine fm_icmp_ne (pc := 135) 225 (by decide) dX10_token_135 (fun c135 => ?_) (fun c135 => ?_)
  · replace h := fm_itn c135 h
    refine fm_vret (pc := 225) rfl ?_ dX10_token_225
    cases h
    exact hq
  · replace h := fm_itp c135 h
    refine fl_aload0 (pc := 138) dX10_token_138 ?_
    obtain ⟨v41, M42, ev41, h⟩ := fm_bdp h
    refine fm_callV (pc := 139) mX10_name [] _ rfl cvX10_name ml_10_162 sh_76 rfl rfl (Nat.le_of_ble_eq_true rfl) (Nat.le_of_ble_eq_true rfl) dX10_token_139 ?_
    refine sp_X10_name ev41 ?_
    refine fm_ret0 ?_
    refine fm_goto (pc := 142) 225 (by decide) dX10_token_142 ?_
    refine fm_vret (pc := 225) rfl ?_ dX10_token_225
    cases h
    exact hq
theorem sp_X10_token {d : Nat}  {M : fm_M} {x : Unit × fm_M} {Q : Option Value → fm_M → Prop} (h : F_X10_token  M = some x) (hq : Q none x.2) : fm_ct (d + 5) mX10_token [.ref 76] M Q := by
  rw [F_X10_token] at h
  show fm_mw (d + 5) mX10_token Q 0 [some (.ref 76), none] [] M
  obtain ⟨w7, M8, ew7, h⟩ := fm_bdp h
  refine lp_X10_token_0  ?_ _  _ ew7
  intro w79 M89 q9
  cases q9
  refine fl_aload0 (pc := 31) dX10_token_31 ?_
  refine fl_aload0 (pc := 32) dX10_token_32 ?_
  refine fm_geti (pc := 33) lk_10_136 sh_76 rfl dX10_token_33 ?_
  refine fm_puti (pc := 36) lp_10_146 sh_76 rfl dX10_token_36 ?_
  obtain ⟨M9, eM9, h⟩ := fm_ltp h
  refine fm_cgm eM9 ?_
  refine fl_aload0 (pc := 39) dX10_token_39 ?_
  obtain ⟨v10, M11, ev10, h⟩ := fm_bdp h
  refine fm_callV (pc := 40) mX10_here [] _ rfl cvX10_here ml_10_142 sh_76 rfl rfl (Nat.le_of_ble_eq_true rfl) (Nat.le_of_ble_eq_true rfl) dX10_token_40 ?_
  refine sp_X10_here ev10 ?_
  refine fm_ret1 ?_
  refine fl_istore1 (pc := 43) rfl (by decide) dX10_token_43 ?_
  refine fl_iload1 (pc := 44) dX10_token_44 ?_
  refine fm_iconstv (pc := 45) (-1) (by decide) dX10_token_45 ?_
  refine fm_icmp_ne (pc := 46) 57 (by decide) dX10_token_46 (fun c46 => ?_) (fun c46 => ?_)
  · replace h := fm_itn c46 h
    refine fl_iload1 (pc := 57) dX10_token_57 ?_
    obtain ⟨v12, M13, ev12, h⟩ := fm_bdp h
    refine fm_callS (pc := 58) mX10_isSmall [_] _ rfl csX10_isSmall ml_10_152 rfl (Nat.le_of_ble_eq_true rfl) (Nat.le_of_ble_eq_true rfl) dX10_token_58 ?_
    refine sp_X10_isSmall ev12 ?_
    refine fm_ret1 ?_
    refine fm_if_eq (pc := 61) 145 (by decide) dX10_token_61 (fun c61 => ?_) (fun c61 => ?_)
    · replace h := fm_itp c61 h
      refine fl_iload1 (pc := 145) dX10_token_145 ?_
      obtain ⟨v14, M15, ev14, h⟩ := fm_bdp h
      refine fm_callS (pc := 146) mX10_isDigit [_] _ rfl csX10_isDigit ml_10_165 rfl (Nat.le_of_ble_eq_true rfl) (Nat.le_of_ble_eq_true rfl) dX10_token_146 ?_
      refine sp_X10_isDigit ev14 ?_
      refine fm_ret1 ?_
      refine fm_if_eq (pc := 149) 220 (by decide) dX10_token_149 (fun c149 => ?_) (fun c149 => ?_)
      · replace h := fm_itp c149 h
        refine fl_aload0 (pc := 220) dX10_token_220 ?_
        refine fl_iload1 (pc := 221) dX10_token_221 ?_
        obtain ⟨v16, M17, ev16, h⟩ := fm_bdp h
        refine fm_callV (pc := 222) mX10_sign [_] _ rfl cvX10_sign ml_10_169 sh_76 rfl rfl (Nat.le_of_ble_eq_true rfl) (Nat.le_of_ble_eq_true rfl) dX10_token_222 ?_
        refine sp_X10_sign ev16 ?_
        refine fm_ret0 ?_
        refine fm_vret (pc := 225) rfl ?_ dX10_token_225
        cases h
        exact hq
      · replace h := fm_itn c149 h
        refine fl_aload0 (pc := 152) dX10_token_152 ?_
        refine fm_iconstv (pc := 153) 2 (by decide) dX10_token_153 ?_
        refine fm_puti (pc := 154) lp_10_149 sh_76 rfl dX10_token_154 ?_
        obtain ⟨M18, eM18, h⟩ := fm_ltp h
        refine fm_cgm eM18 ?_
        refine fl_aload0 (pc := 157) dX10_token_157 ?_
        refine fm_iconstv (pc := 158) 0 (by decide) dX10_token_158 ?_
        refine fm_puti (pc := 159) lp_10_159 sh_76 rfl dX10_token_159 ?_
        obtain ⟨M19, eM19, h⟩ := fm_ltp h
        refine fm_cgm eM19 ?_
        obtain ⟨w28, M29, ew28, h⟩ := fm_bdp h
        refine lp_X10_token_162  ?_ _  _ ew28
        intro w289 M299 q9
        cases q9
        refine fm_vret (pc := 225) rfl ?_ dX10_token_225
        cases h
        exact hq
    · replace h := fm_itn c61 h
      obtain ⟨w35, M36, ew35, h⟩ := fm_bdp h
      refine lp_X10_token_64  ?_ _  _ ew35
      intro w359 M369 q9
      cases q9
      refine fl_aload0 (pc := 87) dX10_token_87 ?_
      refine fl_aload0 (pc := 88) dX10_token_88 ?_
      obtain ⟨v37, M38, ev37, h⟩ := fm_bdp h
      refine fm_callV (pc := 89) mX10_word [] _ rfl cvX10_word ml_10_156 sh_76 rfl rfl (Nat.le_of_ble_eq_true rfl) (Nat.le_of_ble_eq_true rfl) dX10_token_89 ?_
      refine sp_X10_word ev37 ?_
      refine fm_ret1 ?_
      refine fm_puti (pc := 92) lp_10_159 sh_76 rfl dX10_token_92 ?_
      obtain ⟨M39, eM39, h⟩ := fm_ltp h
      refine fm_cgm eM39 ?_
      refine fl_aload0 (pc := 95) dX10_token_95 ?_
      refine fl_aload0 (pc := 96) dX10_token_96 ?_
      refine fm_geti (pc := 97) lk_10_159 sh_76 rfl dX10_token_97 ?_
      refine fm_iconstv (pc := 100) (-1) (by decide) dX10_token_100 ?_
      refine fm_icmp_eq (pc := 101) 108 (by decide) dX10_token_101 (fun c101 => ?_) (fun c101 => ?_)
      · replace h := fm_itp c101 h
        refine fl_aload0 (pc := 108) dX10_token_108 ?_
        refine fm_geti (pc := 109) lk_10_136 sh_76 rfl dX10_token_109 ?_
        refine fl_aload0 (pc := 112) dX10_token_112 ?_
        refine fm_geti (pc := 113) lk_10_146 sh_76 rfl dX10_token_113 ?_
        refine fm_isub (pc := 116) dX10_token_116 ?_
        refine fm_bipushv (pc := 117) 6 (by decide) dX10_token_117 ?_
        refine fm_icmp_le (pc := 119) 126 (by decide) dX10_token_119 (fun c119 => ?_) (fun c119 => ?_)
        · replace h := fm_itp c119 h
          refine fm_iconstv (pc := 126) 1 (by decide) dX10_token_126 ?_
          exact jn_X10_token_127 _ _  hq _ h
        · replace h := fm_itn c119 h
          refine fm_iconstv (pc := 122) 5 (by decide) dX10_token_122 ?_
          refine fm_goto (pc := 123) 127 (by decide) dX10_token_123 ?_
          exact jn_X10_token_127 _ _  hq _ h
      · replace h := fm_itn c101 h
        refine fm_iconstv (pc := 104) 0 (by decide) dX10_token_104 ?_
        refine fm_goto (pc := 105) 127 (by decide) dX10_token_105 ?_
        exact jn_X10_token_127 _ _  hq _ h
  · replace h := fm_itp c46 h
    refine fl_aload0 (pc := 49) dX10_token_49 ?_
    refine fm_iconstv (pc := 50) 4 (by decide) dX10_token_50 ?_
    refine fm_puti (pc := 51) lp_10_149 sh_76 rfl dX10_token_51 ?_
    obtain ⟨M43, eM43, h⟩ := fm_ltp h
    refine fm_cgm eM43 ?_
    refine fm_goto (pc := 54) 225 (by decide) dX10_token_54 ?_
    refine fm_vret (pc := 225) rfl ?_ dX10_token_225
    cases h
    exact hq
/-! X10_wrong -/
def F_X10_wrong (a1 : Int32) (M : fm_M) : Option (Unit × fm_M) :=
    if (M.1 76 24) = 0 then (
      fm_lt (fm_up M 76 24 a1) (fun M1 =>
      fm_lt (fm_up M1 76 25 (M1.1 76 21)) (fun M2 =>
      some ((), M2)))
    ) else (
      some ((), M)
    )
theorem sp_X10_wrong {d : Nat} {a1 : Int32} {M : fm_M} {x : Unit × fm_M} {Q : Option Value → fm_M → Prop} (h : F_X10_wrong a1 M = some x) (hq : Q none x.2) : fm_ct d mX10_wrong [.ref 76, .int a1] M Q := by
  rw [F_X10_wrong] at h
  show fm_mw d mX10_wrong Q 0 [some (.ref 76), some (.int a1)] [] M
  refine fl_aload0 (pc := 0) dX10_wrong_0 ?_
  refine fm_geti (pc := 1) lk_10_184 sh_76 rfl dX10_wrong_1 ?_
  refine fm_if_eq (pc := 4) 8 (by decide) dX10_wrong_4 (fun c4 => ?_) (fun c4 => ?_)
  · replace h := fm_itp c4 h
    refine fl_aload0 (pc := 8) dX10_wrong_8 ?_
    refine fl_iload1 (pc := 9) dX10_wrong_9 ?_
    refine fm_puti (pc := 10) lp_10_184 sh_76 rfl dX10_wrong_10 ?_
    obtain ⟨M1, eM1, h⟩ := fm_ltp h
    refine fm_cgm eM1 ?_
    refine fl_aload0 (pc := 13) dX10_wrong_13 ?_
    refine fl_aload0 (pc := 14) dX10_wrong_14 ?_
    refine fm_geti (pc := 15) lk_10_146 sh_76 rfl dX10_wrong_15 ?_
    refine fm_puti (pc := 18) lp_10_187 sh_76 rfl dX10_wrong_18 ?_
    obtain ⟨M2, eM2, h⟩ := fm_ltp h
    refine fm_cgm eM2 ?_
    refine fm_vret (pc := 21) rfl ?_ dX10_wrong_21
    cases h
    exact hq
  · replace h := fm_itn c4 h
    refine fm_vret (pc := 7) rfl ?_ dX10_wrong_7
    cases h
    exact hq
/-! X10_isWord -/
def F_X10_isWord (a1 : Int32) (M : fm_M) : Option (Int32 × fm_M) :=
    if (M.1 76 24) = 0 then (
      if (M.1 76 22) = 0 then (
        if (M.1 76 23) = a1 then (
          some (1, M)
        ) else (
          some (0, M)
        )
      ) else (
        some (0, M)
      )
    ) else (
      some (0, M)
    )
theorem sp_X10_isWord {d : Nat} {a1 : Int32} {M : fm_M} {x : Int32 × fm_M} {Q : Option Value → fm_M → Prop} (h : F_X10_isWord a1 M = some x) (hq : Q (some (.int x.1)) x.2) : fm_ct d mX10_isWord [.ref 76, .int a1] M Q := by
  rw [F_X10_isWord] at h
  show fm_mw d mX10_isWord Q 0 [some (.ref 76), some (.int a1)] [] M
  refine fl_aload0 (pc := 0) dX10_isWord_0 ?_
  refine fm_geti (pc := 1) lk_10_184 sh_76 rfl dX10_isWord_1 ?_
  refine fm_if_ne (pc := 4) 26 (by decide) dX10_isWord_4 (fun c4 => ?_) (fun c4 => ?_)
  · replace h := fm_itn c4 h
    refine fm_iconstv (pc := 26) 0 (by decide) dX10_isWord_26 ?_
    refine fm_zret (pc := 27) rfl (by decide) ?_ dX10_isWord_27
    cases h
    exact hq
  · replace h := fm_itp c4 h
    refine fl_aload0 (pc := 7) dX10_isWord_7 ?_
    refine fm_geti (pc := 8) lk_10_149 sh_76 rfl dX10_isWord_8 ?_
    refine fm_if_ne (pc := 11) 26 (by decide) dX10_isWord_11 (fun c11 => ?_) (fun c11 => ?_)
    · replace h := fm_itn c11 h
      refine fm_iconstv (pc := 26) 0 (by decide) dX10_isWord_26 ?_
      refine fm_zret (pc := 27) rfl (by decide) ?_ dX10_isWord_27
      cases h
      exact hq
    · replace h := fm_itp c11 h
      refine fl_aload0 (pc := 14) dX10_isWord_14 ?_
      refine fm_geti (pc := 15) lk_10_159 sh_76 rfl dX10_isWord_15 ?_
      refine fl_iload1 (pc := 18) dX10_isWord_18 ?_
      refine fm_icmp_ne (pc := 19) 26 (by decide) dX10_isWord_19 (fun c19 => ?_) (fun c19 => ?_)
      · replace h := fm_itn c19 h
        refine fm_iconstv (pc := 26) 0 (by decide) dX10_isWord_26 ?_
        refine fm_zret (pc := 27) rfl (by decide) ?_ dX10_isWord_27
        cases h
        exact hq
      · replace h := fm_itp c19 h
        refine fm_iconstv (pc := 22) 1 (by decide) dX10_isWord_22 ?_
        refine fm_goto (pc := 23) 27 (by decide) dX10_isWord_23 ?_
        refine fm_zret (pc := 27) rfl (by decide) ?_ dX10_isWord_27
        cases h
        exact hq
/-! X10_isSign -/
def F_X10_isSign (a1 : Int32) (M : fm_M) : Option (Int32 × fm_M) :=
    if (M.1 76 24) = 0 then (
      if (M.1 76 22) = 3 then (
        if (M.1 76 23) = a1 then (
          some (1, M)
        ) else (
          some (0, M)
        )
      ) else (
        some (0, M)
      )
    ) else (
      some (0, M)
    )
theorem sp_X10_isSign {d : Nat} {a1 : Int32} {M : fm_M} {x : Int32 × fm_M} {Q : Option Value → fm_M → Prop} (h : F_X10_isSign a1 M = some x) (hq : Q (some (.int x.1)) x.2) : fm_ct d mX10_isSign [.ref 76, .int a1] M Q := by
  rw [F_X10_isSign] at h
  show fm_mw d mX10_isSign Q 0 [some (.ref 76), some (.int a1)] [] M
  refine fl_aload0 (pc := 0) dX10_isSign_0 ?_
  refine fm_geti (pc := 1) lk_10_184 sh_76 rfl dX10_isSign_1 ?_
  refine fm_if_ne (pc := 4) 27 (by decide) dX10_isSign_4 (fun c4 => ?_) (fun c4 => ?_)
  · replace h := fm_itn c4 h
    refine fm_iconstv (pc := 27) 0 (by decide) dX10_isSign_27 ?_
    refine fm_zret (pc := 28) rfl (by decide) ?_ dX10_isSign_28
    cases h
    exact hq
  · replace h := fm_itp c4 h
    refine fl_aload0 (pc := 7) dX10_isSign_7 ?_
    refine fm_geti (pc := 8) lk_10_149 sh_76 rfl dX10_isSign_8 ?_
    refine fm_iconstv (pc := 11) 3 (by decide) dX10_isSign_11 ?_
    refine fm_icmp_ne (pc := 12) 27 (by decide) dX10_isSign_12 (fun c12 => ?_) (fun c12 => ?_)
    · replace h := fm_itn c12 h
      refine fm_iconstv (pc := 27) 0 (by decide) dX10_isSign_27 ?_
      refine fm_zret (pc := 28) rfl (by decide) ?_ dX10_isSign_28
      cases h
      exact hq
    · replace h := fm_itp c12 h
      refine fl_aload0 (pc := 15) dX10_isSign_15 ?_
      refine fm_geti (pc := 16) lk_10_159 sh_76 rfl dX10_isSign_16 ?_
      refine fl_iload1 (pc := 19) dX10_isSign_19 ?_
      refine fm_icmp_ne (pc := 20) 27 (by decide) dX10_isSign_20 (fun c20 => ?_) (fun c20 => ?_)
      · replace h := fm_itn c20 h
        refine fm_iconstv (pc := 27) 0 (by decide) dX10_isSign_27 ?_
        refine fm_zret (pc := 28) rfl (by decide) ?_ dX10_isSign_28
        cases h
        exact hq
      · replace h := fm_itp c20 h
        refine fm_iconstv (pc := 23) 1 (by decide) dX10_isSign_23 ?_
        refine fm_goto (pc := 24) 28 (by decide) dX10_isSign_24 ?_
        refine fm_zret (pc := 28) rfl (by decide) ?_ dX10_isSign_28
        cases h
        exact hq
/-! X10_goOn -/
def F_X10_goOn  (M : fm_M) : Option (Unit × fm_M) :=
    if (M.1 76 24) = 0 then (
      fm_bd (F_X10_token M) (fun v1 M2 =>
      some ((), M2))
    ) else (
      some ((), M)
    )
theorem sp_X10_goOn {d : Nat}  {M : fm_M} {x : Unit × fm_M} {Q : Option Value → fm_M → Prop} (h : F_X10_goOn  M = some x) (hq : Q none x.2) : fm_ct (d + 6) mX10_goOn [.ref 76] M Q := by
  rw [F_X10_goOn] at h
  show fm_mw (d + 6) mX10_goOn Q 0 [some (.ref 76)] [] M
  refine fl_aload0 (pc := 0) dX10_goOn_0 ?_
  refine fm_geti (pc := 1) lk_10_184 sh_76 rfl dX10_goOn_1 ?_
  refine fm_if_ne (pc := 4) 11 (by decide) dX10_goOn_4 (fun c4 => ?_) (fun c4 => ?_)
  · replace h := fm_itn c4 h
    refine fm_vret (pc := 11) rfl ?_ dX10_goOn_11
    cases h
    exact hq
  · replace h := fm_itp c4 h
    refine fl_aload0 (pc := 7) dX10_goOn_7 ?_
    obtain ⟨v1, M2, ev1, h⟩ := fm_bdp h
    refine fm_callV (pc := 8) mX10_token [] _ rfl cvX10_token ml_10_190 sh_76 rfl rfl (Nat.le_of_ble_eq_true rfl) (Nat.le_of_ble_eq_true rfl) dX10_goOn_8 ?_
    refine sp_X10_token ev1 ?_
    refine fm_ret0 ?_
    refine fm_vret (pc := 11) rfl ?_ dX10_goOn_11
    cases h
    exact hq
/-! X10_numeral -/
def J_X10_numeral_46 (l1 : Int32) (l2 : Int32) (M : fm_M) : Option (Int32 × fm_M) :=
    if (M.1 76 24) = 0 then (
      fm_lt ((M.1 76 23)) (fun x3 =>
      fm_bd (F_X10_token M) (fun v4 M5 =>
      some (x3, M5)))
    ) else (
      some (l1, M)
    )
def J_X10_numeral_41 (l1 : Int32) (l2 : Int32) (M : fm_M) : Option (Int32 × fm_M) :=
    fm_bd (F_X10_wrong 2 M) (fun v1 M2 =>
    J_X10_numeral_46 l1 l2 M2)
def F_X10_numeral (a1 : Int32) (a2 : Int32) (M : fm_M) : Option (Int32 × fm_M) :=
    if (M.1 76 24) = 0 then (
      if (M.1 76 22) = 2 then (
        if (M.1 76 23) < a1 then (
          J_X10_numeral_41 a1 a2 M
        ) else (
          if (M.1 76 23) ≤ a2 then (
            J_X10_numeral_46 a1 a2 M
          ) else (
            J_X10_numeral_41 a1 a2 M
          )
        )
      ) else (
        fm_bd (F_X10_wrong 1 M) (fun v6 M7 =>
        J_X10_numeral_46 a1 a2 M7)
      )
    ) else (
      some (a1, M)
    )
theorem jn_X10_numeral_46 {d : Nat} {Q : Option Value → fm_M → Prop}  (l1 : Int32) (l2 : Int32) {x : Int32 × fm_M}  (hq : Q (some (.int x.1)) x.2) (M : fm_M) (h : J_X10_numeral_46 l1 l2 M = some x) : fm_mw (d + 6) mX10_numeral Q 46 [some (.ref 76), some (.int l1), some (.int l2), none] [] M := by
  rw [J_X10_numeral_46] at h
  refine fl_aload0 (pc := 46) dX10_numeral_46 ?_
  refine fm_geti (pc := 47) lk_10_184 sh_76 rfl dX10_numeral_47 ?_
  refine fm_if_eq (pc := 50) 55 (by decide) dX10_numeral_50 (fun c50 => ?_) (fun c50 => ?_)
  · replace h := fm_itp c50 h
    refine fl_aload0 (pc := 55) dX10_numeral_55 ?_
    refine fm_geti (pc := 56) lk_10_159 sh_76 rfl dX10_numeral_56 ?_
    obtain ⟨x3, ex3, h⟩ := fm_ltp h
    refine fm_cgi ex3 ?_
    refine fl_istore3 (pc := 59) rfl (by decide) dX10_numeral_59 ?_
    refine fl_aload0 (pc := 60) dX10_numeral_60 ?_
    obtain ⟨v4, M5, ev4, h⟩ := fm_bdp h
    refine fm_callV (pc := 61) mX10_token [] _ rfl cvX10_token ml_10_190 sh_76 rfl rfl (Nat.le_of_ble_eq_true rfl) (Nat.le_of_ble_eq_true rfl) dX10_numeral_61 ?_
    refine sp_X10_token ev4 ?_
    refine fm_ret0 ?_
    refine fl_iload3 (pc := 64) dX10_numeral_64 ?_
    refine fm_iret (pc := 65) rfl ?_ dX10_numeral_65
    cases h
    exact hq
  · replace h := fm_itn c50 h
    refine fl_iload1 (pc := 53) dX10_numeral_53 ?_
    refine fm_iret (pc := 54) rfl ?_ dX10_numeral_54
    cases h
    exact hq
theorem jn_X10_numeral_41 {d : Nat} {Q : Option Value → fm_M → Prop}  (l1 : Int32) (l2 : Int32) {x : Int32 × fm_M}  (hq : Q (some (.int x.1)) x.2) (M : fm_M) (h : J_X10_numeral_41 l1 l2 M = some x) : fm_mw (d + 6) mX10_numeral Q 41 [some (.ref 76), some (.int l1), some (.int l2), none] [] M := by
  rw [J_X10_numeral_41] at h
  refine fl_aload0 (pc := 41) dX10_numeral_41 ?_
  refine fm_iconstv (pc := 42) 2 (by decide) dX10_numeral_42 ?_
  obtain ⟨v1, M2, ev1, h⟩ := fm_bdp h
  refine fm_callV (pc := 43) mX10_wrong [_] _ rfl cvX10_wrong ml_10_193 sh_76 rfl rfl (Nat.le_of_ble_eq_true rfl) (Nat.le_of_ble_eq_true rfl) dX10_numeral_43 ?_
  refine sp_X10_wrong ev1 ?_
  refine fm_ret0 ?_
  exact jn_X10_numeral_46 _ _  hq _ h
theorem sp_X10_numeral {d : Nat} {a1 : Int32} {a2 : Int32} {M : fm_M} {x : Int32 × fm_M} {Q : Option Value → fm_M → Prop} (h : F_X10_numeral a1 a2 M = some x) (hq : Q (some (.int x.1)) x.2) : fm_ct (d + 6) mX10_numeral [.ref 76, .int a1, .int a2] M Q := by
  rw [F_X10_numeral] at h
  show fm_mw (d + 6) mX10_numeral Q 0 [some (.ref 76), some (.int a1), some (.int a2), none] [] M
  refine fl_aload0 (pc := 0) dX10_numeral_0 ?_
  refine fm_geti (pc := 1) lk_10_184 sh_76 rfl dX10_numeral_1 ?_
  refine fm_if_eq (pc := 4) 9 (by decide) dX10_numeral_4 (fun c4 => ?_) (fun c4 => ?_)
  · replace h := fm_itp c4 h
    refine fl_aload0 (pc := 9) dX10_numeral_9 ?_
    refine fm_geti (pc := 10) lk_10_149 sh_76 rfl dX10_numeral_10 ?_
    refine fm_iconstv (pc := 13) 2 (by decide) dX10_numeral_13 ?_
    refine fm_icmp_eq (pc := 14) 25 (by decide) dX10_numeral_14 (fun c14 => ?_) (fun c14 => ?_)
    · replace h := fm_itp c14 h
      refine fl_aload0 (pc := 25) dX10_numeral_25 ?_
      refine fm_geti (pc := 26) lk_10_159 sh_76 rfl dX10_numeral_26 ?_
      refine fl_iload1 (pc := 29) dX10_numeral_29 ?_
      refine fm_icmp_lt (pc := 30) 41 (by decide) dX10_numeral_30 (fun c30 => ?_) (fun c30 => ?_)
      · replace h := fm_itp c30 h
        exact jn_X10_numeral_41 _ _  hq _ h
      · replace h := fm_itn c30 h
        refine fl_aload0 (pc := 33) dX10_numeral_33 ?_
        refine fm_geti (pc := 34) lk_10_159 sh_76 rfl dX10_numeral_34 ?_
        refine fl_iload2 (pc := 37) dX10_numeral_37 ?_
        refine fm_icmp_le (pc := 38) 46 (by decide) dX10_numeral_38 (fun c38 => ?_) (fun c38 => ?_)
        · replace h := fm_itp c38 h
          exact jn_X10_numeral_46 _ _  hq _ h
        · replace h := fm_itn c38 h
          exact jn_X10_numeral_41 _ _  hq _ h
    · replace h := fm_itn c14 h
      refine fl_aload0 (pc := 17) dX10_numeral_17 ?_
      refine fm_iconstv (pc := 18) 1 (by decide) dX10_numeral_18 ?_
      obtain ⟨v6, M7, ev6, h⟩ := fm_bdp h
      refine fm_callV (pc := 19) mX10_wrong [_] _ rfl cvX10_wrong ml_10_193 sh_76 rfl rfl (Nat.le_of_ble_eq_true rfl) (Nat.le_of_ble_eq_true rfl) dX10_numeral_19 ?_
      refine sp_X10_wrong ev6 ?_
      refine fm_ret0 ?_
      refine fm_goto (pc := 22) 46 (by decide) dX10_numeral_22 ?_
      exact jn_X10_numeral_46 _ _  hq _ h
  · replace h := fm_itn c4 h
    refine fl_iload1 (pc := 7) dX10_numeral_7 ?_
    refine fm_iret (pc := 8) rfl ?_ dX10_numeral_8
    cases h
    exact hq
/-! X10_found -/
def G_X10_found_3 : Nat → Nat → Nat → Int32 → Int32 → Int32 → Int32 → fm_M → Option (((Int32) ⊕ Int32) × fm_M)
  | 0, _, _, _, _, _, _, _ => none
  | n + 1, a0, n0, l1, l2, l3, l4, M =>
    if l2 ≤ l4 then (
      some (.inl l4, M)
    ) else (
      fm_gd (fm_inb (l1 + l4) n0) (
      if (M.1 a0 (Int32.toNatClampNeg (l1 + l4))) = l3 then (
        some (.inr l4, M)
      ) else (
        G_X10_found_3 n a0 n0 l1 l2 l3 (l4 + 1) M
      ))
    )
def F_X10_found (a0 : Nat) (a1 : Int32) (a2 : Int32) (a3 : Int32) (M : fm_M) : Option (Int32 × fm_M) :=
    fm_bn (fm_arI a0) (fun n0 =>
    fm_bs (G_X10_found_3 fm_fuel a0 n0 a1 a2 a3 0 M) (fun w2 M3 =>
      some ((-1), M3)) (fun r4 M => some (r4, M)))
theorem lp_X10_found_3 {d : Nat} {Q : Option Value → fm_M → Prop} {l1 : Int32} {l2 : Int32} {l3 : Int32} {a0 : Nat} {n0 : Nat} (en0 : fm_arI a0 = some n0) {x : ((Int32) ⊕ Int32) × fm_M} (k1 : ∀ (v : Int32) (M2 : fm_M), x = (.inl v, M2) → fm_mw d mX10_found Q 28 [some (.ref a0), some (.int l1), some (.int l2), some (.int l3), some (.int v)] [] M2) (k2 : ∀ (r : Int32) (M2 : fm_M), x = (.inr r, M2) → Q (some (.int r)) M2) : ∀ (n : Nat) (l4 : Int32) (M : fm_M), G_X10_found_3 n a0 n0 l1 l2 l3 l4 M = some x → fm_mw d mX10_found Q 3 [some (.ref a0), some (.int l1), some (.int l2), some (.int l3), some (.int l4)] [] M := by
  intro n
  induction n with
  | zero => intro l4 M h; simp [G_X10_found_3] at h
  | succ n ih =>
    intro l4 M h
    rw [G_X10_found_3] at h
    refine fl_iload4 (pc := 3) dX10_found_3 ?_
    refine fl_iload2 (pc := 5) dX10_found_5 ?_
    refine fm_icmp_ge (pc := 6) 28 (by decide) dX10_found_6 (fun c6 => ?_) (fun c6 => ?_)
    · replace h := fm_itp c6 h
      refine fm_fgt [some (.ref a0), some (.int l1), some (.int l2), some (.int l3), some (.int l4)] (by simp [fm_sub]) ?_
      cases h
      exact k1 _ _ rfl
    · replace h := fm_itn c6 h
      refine fl_aload0 (pc := 9) dX10_found_9 ?_
      refine fl_iload1 (pc := 10) dX10_found_10 ?_
      refine fl_iload4 (pc := 11) dX10_found_11 ?_
      refine fm_iadd (pc := 13) dX10_found_13 ?_
      obtain ⟨g1, h⟩ := fm_gdp h
      refine fm_iald (pc := 14) (fm_arI_ok en0) (fm_inb_ok g1) dX10_found_14 ?_
      refine fl_iload3 (pc := 15) dX10_found_15 ?_
      refine fm_icmp_ne (pc := 16) 22 (by decide) dX10_found_16 (fun c16 => ?_) (fun c16 => ?_)
      · replace h := fm_itn c16 h
        refine fl_iinc4 (pc := 22) rfl 1 (by decide) (by decide) dX10_found_22 ?_
        refine fm_goto (pc := 25) 3 (by decide) dX10_found_25 ?_
        refine fm_fgt [some (.ref a0), some (.int l1), some (.int l2), some (.int l3), some (.int (l4 + 1))] (by simp [fm_sub]) ?_
        exact ih _ _ h
      · replace h := fm_itp c16 h
        refine fl_iload4 (pc := 19) dX10_found_19 ?_
        refine fm_iret (pc := 21) rfl ?_ dX10_found_21
        cases h
        exact k2 _ _ rfl
theorem sp_X10_found {d : Nat} {a0 : Nat} {a1 : Int32} {a2 : Int32} {a3 : Int32} {M : fm_M} {x : Int32 × fm_M} {Q : Option Value → fm_M → Prop} (h : F_X10_found a0 a1 a2 a3 M = some x) (hq : Q (some (.int x.1)) x.2) : fm_ct d mX10_found [.ref a0, .int a1, .int a2, .int a3] M Q := by
  rw [F_X10_found] at h
  show fm_mw d mX10_found Q 0 [some (.ref a0), some (.int a1), some (.int a2), some (.int a3), none] [] M
  obtain ⟨n0, en0, h⟩ := fm_bnp h
  refine fm_iconstv (pc := 0) 0 (by decide) dX10_found_0 ?_
  refine fl_istore4 (pc := 1) rfl (by decide) dX10_found_1 ?_
  obtain ⟨w9, M3, ew2, hl9, hr9⟩ := fm_bsp h
  refine lp_X10_found_3 en0 ?_ ?_ _ _ _ ew2
  · intro w2 M9 q9
    cases q9
    replace h := hl9 _ rfl
    refine fm_iconstv (pc := 28) (-1) (by decide) dX10_found_28 ?_
    refine fm_iret (pc := 29) rfl ?_ dX10_found_29
    cases h
    exact hq
  · intro r9 M9 q9
    cases q9
    replace h := hr9 _ rfl
    cases h
    exact hq
/-! X10_fresh -/
def J_X10_fresh_44 (a1 : Nat) (n1 : Nat) (l2 : Int32) (l3 : Int32) (M : fm_M) : Option (Int32 × fm_M) :=
    if (M.1 76 24) = 0 then (
      fm_lt ((M.1 76 23)) (fun x3 =>
      fm_bd (F_X10_token M) (fun v4 M5 =>
      some (x3, M5)))
    ) else (
      some (0, M)
    )
def F_X10_fresh (a1 : Nat) (a2 : Int32) (a3 : Int32) (M : fm_M) : Option (Int32 × fm_M) :=
    fm_bn (fm_arI a1) (fun n1 =>
    if (M.1 76 24) = 0 then (
      if (M.1 76 22) = 1 then (
        fm_bd (F_X10_found a1 a2 a3 (M.1 76 23) M) (fun v1 M2 =>
        if v1 = (-1) then (
          J_X10_fresh_44 a1 n1 a2 a3 M2
        ) else (
          fm_bd (F_X10_wrong 3 M2) (fun v6 M7 =>
          J_X10_fresh_44 a1 n1 a2 a3 M7)
        ))
      ) else (
        fm_bd (F_X10_wrong 1 M) (fun v8 M9 =>
        J_X10_fresh_44 a1 n1 a2 a3 M9)
      )
    ) else (
      some (0, M)
    ))
theorem jn_X10_fresh_44 {d : Nat} {Q : Option Value → fm_M → Prop}  (a1 : Nat) (n1 : Nat) (l2 : Int32) (l3 : Int32) {x : Int32 × fm_M} (en1 : fm_arI a1 = some n1) (hq : Q (some (.int x.1)) x.2) (M : fm_M) (h : J_X10_fresh_44 a1 n1 l2 l3 M = some x) : fm_mw (d + 6) mX10_fresh Q 44 [some (.ref 76), some (.ref a1), some (.int l2), some (.int l3), none] [] M := by
  rw [J_X10_fresh_44] at h
  refine fl_aload0 (pc := 44) dX10_fresh_44 ?_
  refine fm_geti (pc := 45) lk_10_184 sh_76 rfl dX10_fresh_45 ?_
  refine fm_if_eq (pc := 48) 53 (by decide) dX10_fresh_48 (fun c48 => ?_) (fun c48 => ?_)
  · replace h := fm_itp c48 h
    refine fl_aload0 (pc := 53) dX10_fresh_53 ?_
    refine fm_geti (pc := 54) lk_10_159 sh_76 rfl dX10_fresh_54 ?_
    obtain ⟨x3, ex3, h⟩ := fm_ltp h
    refine fm_cgi ex3 ?_
    refine fl_istore4 (pc := 57) rfl (by decide) dX10_fresh_57 ?_
    refine fl_aload0 (pc := 59) dX10_fresh_59 ?_
    obtain ⟨v4, M5, ev4, h⟩ := fm_bdp h
    refine fm_callV (pc := 60) mX10_token [] _ rfl cvX10_token ml_10_190 sh_76 rfl rfl (Nat.le_of_ble_eq_true rfl) (Nat.le_of_ble_eq_true rfl) dX10_fresh_60 ?_
    refine sp_X10_token ev4 ?_
    refine fm_ret0 ?_
    refine fl_iload4 (pc := 63) dX10_fresh_63 ?_
    refine fm_iret (pc := 65) rfl ?_ dX10_fresh_65
    cases h
    exact hq
  · replace h := fm_itn c48 h
    refine fm_iconstv (pc := 51) 0 (by decide) dX10_fresh_51 ?_
    refine fm_iret (pc := 52) rfl ?_ dX10_fresh_52
    cases h
    exact hq
theorem sp_X10_fresh {d : Nat} {a1 : Nat} {a2 : Int32} {a3 : Int32} {M : fm_M} {x : Int32 × fm_M} {Q : Option Value → fm_M → Prop} (h : F_X10_fresh a1 a2 a3 M = some x) (hq : Q (some (.int x.1)) x.2) : fm_ct (d + 6) mX10_fresh [.ref 76, .ref a1, .int a2, .int a3] M Q := by
  rw [F_X10_fresh] at h
  show fm_mw (d + 6) mX10_fresh Q 0 [some (.ref 76), some (.ref a1), some (.int a2), some (.int a3), none] [] M
  obtain ⟨n1, en1, h⟩ := fm_bnp h
  refine fl_aload0 (pc := 0) dX10_fresh_0 ?_
  refine fm_geti (pc := 1) lk_10_184 sh_76 rfl dX10_fresh_1 ?_
  refine fm_if_eq (pc := 4) 9 (by decide) dX10_fresh_4 (fun c4 => ?_) (fun c4 => ?_)
  · replace h := fm_itp c4 h
    refine fl_aload0 (pc := 9) dX10_fresh_9 ?_
    refine fm_geti (pc := 10) lk_10_149 sh_76 rfl dX10_fresh_10 ?_
    refine fm_iconstv (pc := 13) 1 (by decide) dX10_fresh_13 ?_
    refine fm_icmp_eq (pc := 14) 25 (by decide) dX10_fresh_14 (fun c14 => ?_) (fun c14 => ?_)
    · replace h := fm_itp c14 h
      refine fl_aload1 (pc := 25) dX10_fresh_25 ?_
      refine fl_iload2 (pc := 26) dX10_fresh_26 ?_
      refine fl_iload3 (pc := 27) dX10_fresh_27 ?_
      refine fl_aload0 (pc := 28) dX10_fresh_28 ?_
      refine fm_geti (pc := 29) lk_10_159 sh_76 rfl dX10_fresh_29 ?_
      obtain ⟨v1, M2, ev1, h⟩ := fm_bdp h
      refine fm_callS (pc := 32) mX10_found [_, _, _, _] _ rfl csX10_found ml_10_196 rfl (Nat.le_of_ble_eq_true rfl) (Nat.le_of_ble_eq_true rfl) dX10_fresh_32 ?_
      refine sp_X10_found ev1 ?_
      refine fm_ret1 ?_
      refine fm_iconstv (pc := 35) (-1) (by decide) dX10_fresh_35 ?_
      refine fm_icmp_eq (pc := 36) 44 (by decide) dX10_fresh_36 (fun c36 => ?_) (fun c36 => ?_)
      · replace h := fm_itp c36 h
        exact jn_X10_fresh_44 _ _ _ _ en1 hq _ h
      · replace h := fm_itn c36 h
        refine fl_aload0 (pc := 39) dX10_fresh_39 ?_
        refine fm_iconstv (pc := 40) 3 (by decide) dX10_fresh_40 ?_
        obtain ⟨v6, M7, ev6, h⟩ := fm_bdp h
        refine fm_callV (pc := 41) mX10_wrong [_] _ rfl cvX10_wrong ml_10_193 sh_76 rfl rfl (Nat.le_of_ble_eq_true rfl) (Nat.le_of_ble_eq_true rfl) dX10_fresh_41 ?_
        refine sp_X10_wrong ev6 ?_
        refine fm_ret0 ?_
        exact jn_X10_fresh_44 _ _ _ _ en1 hq _ h
    · replace h := fm_itn c14 h
      refine fl_aload0 (pc := 17) dX10_fresh_17 ?_
      refine fm_iconstv (pc := 18) 1 (by decide) dX10_fresh_18 ?_
      obtain ⟨v8, M9, ev8, h⟩ := fm_bdp h
      refine fm_callV (pc := 19) mX10_wrong [_] _ rfl cvX10_wrong ml_10_193 sh_76 rfl rfl (Nat.le_of_ble_eq_true rfl) (Nat.le_of_ble_eq_true rfl) dX10_fresh_19 ?_
      refine sp_X10_wrong ev8 ?_
      refine fm_ret0 ?_
      refine fm_goto (pc := 22) 44 (by decide) dX10_fresh_22 ?_
      exact jn_X10_fresh_44 _ _ _ _ en1 hq _ h
  · replace h := fm_itn c4 h
    refine fm_iconstv (pc := 7) 0 (by decide) dX10_fresh_7 ?_
    refine fm_iret (pc := 8) rfl ?_ dX10_fresh_8
    cases h
    exact hq
/-! X10_fresher -/
def F_X10_fresher (a1 : Int32) (M : fm_M) : Option (Int32 × fm_M) :=
    fm_gd (fm_inb (10 + a1) 20) (
    some ((M.1 78 (Int32.toNatClampNeg (10 + a1))), M))
theorem sp_X10_fresher {d : Nat} {a1 : Int32} {M : fm_M} {x : Int32 × fm_M} {Q : Option Value → fm_M → Prop} (h : F_X10_fresher a1 M = some x) (hq : Q (some (.int x.1)) x.2) : fm_ct d mX10_fresher [.ref 76, .int a1] M Q := by
  rw [F_X10_fresher] at h
  show fm_mw d mX10_fresher Q 0 [some (.ref 76), some (.int a1)] [] M
  refine fl_aload0 (pc := 0) dX10_fresher_0 ?_
  refine fm_getr (pc := 1) lk_10_13 sh_76 rfl dX10_fresher_1 ?_
  refine fm_bipushv (pc := 4) 10 (by decide) dX10_fresher_4 ?_
  refine fl_iload1 (pc := 6) dX10_fresher_6 ?_
  refine fm_iadd (pc := 7) dX10_fresher_7 ?_
  obtain ⟨g1, h⟩ := fm_gdp h
  refine fm_iald (pc := 8) sh_78 (fm_inb_ok g1) dX10_fresher_8 ?_
  refine fm_iret (pc := 9) rfl ?_ dX10_fresher_9
  cases h
  exact hq
/-! X10_reads -/
def F_X10_reads (a1 : Int32) (a2 : Int32) (M : fm_M) : Option (Unit × fm_M) :=
    fm_gd (fm_inb (10 + a1) 20) (
    fm_lt (fm_up M 78 (Int32.toNatClampNeg (10 + a1)) a2) (fun M2 =>
    some ((), M2)))
theorem sp_X10_reads {d : Nat} {a1 : Int32} {a2 : Int32} {M : fm_M} {x : Unit × fm_M} {Q : Option Value → fm_M → Prop} (h : F_X10_reads a1 a2 M = some x) (hq : Q none x.2) : fm_ct d mX10_reads [.ref 76, .int a1, .int a2] M Q := by
  rw [F_X10_reads] at h
  show fm_mw d mX10_reads Q 0 [some (.ref 76), some (.int a1), some (.int a2)] [] M
  refine fl_aload0 (pc := 0) dX10_reads_0 ?_
  refine fm_getr (pc := 1) lk_10_13 sh_76 rfl dX10_reads_1 ?_
  refine fm_bipushv (pc := 4) 10 (by decide) dX10_reads_4 ?_
  refine fl_iload1 (pc := 6) dX10_reads_6 ?_
  refine fm_iadd (pc := 7) dX10_reads_7 ?_
  refine fl_iload2 (pc := 8) dX10_reads_8 ?_
  obtain ⟨g1, h⟩ := fm_gdp h
  refine fm_iast (pc := 9) sh_78 (fm_inb_ok g1) dX10_reads_9 ?_
  obtain ⟨M2, eM2, h⟩ := fm_ltp h
  refine fm_cgm eM2 ?_
  refine fm_vret (pc := 10) rfl ?_ dX10_reads_10
  cases h
  exact hq
/-! X10_isFull -/
def J_X10_isFull_29 (l1 : Int32) (M : fm_M) : Option (Int32 × fm_M) :=
    if l1 = 4 then (
      fm_bd (F_X10_fresher 3 M) (fun v1 M2 =>
      if v1 = 8 then (
        some (1, M2)
      ) else (
        some (0, M2)
      ))
    ) else (
      some (0, M)
    )
def J_X10_isFull_14 (l1 : Int32) (M : fm_M) : Option (Int32 × fm_M) :=
    if l1 = 2 then (
      fm_bd (F_X10_fresher 1 M) (fun v3 M4 =>
      if v3 = 10 then (
        some (1, M4)
      ) else (
        J_X10_isFull_29 l1 M4
      ))
    ) else (
      J_X10_isFull_29 l1 M
    )
def F_X10_isFull (a1 : Int32) (M : fm_M) : Option (Int32 × fm_M) :=
    if a1 = 0 then (
      fm_bd (F_X10_fresher 0 M) (fun v5 M6 =>
      if v5 = 8 then (
        some (1, M6)
      ) else (
        J_X10_isFull_14 a1 M6
      ))
    ) else (
      J_X10_isFull_14 a1 M
    )
theorem jn_X10_isFull_29 {d : Nat} {Q : Option Value → fm_M → Prop}  (l1 : Int32) {x : Int32 × fm_M}  (hq : Q (some (.int x.1)) x.2) (M : fm_M) (h : J_X10_isFull_29 l1 M = some x) : fm_mw (d + 1) mX10_isFull Q 29 [some (.ref 76), some (.int l1)] [] M := by
  rw [J_X10_isFull_29] at h
  refine fl_iload1 (pc := 29) dX10_isFull_29 ?_
  refine fm_iconstv (pc := 30) 4 (by decide) dX10_isFull_30 ?_
  refine fm_icmp_ne (pc := 31) 48 (by decide) dX10_isFull_31 (fun c31 => ?_) (fun c31 => ?_)
  · replace h := fm_itn c31 h
    refine fm_iconstv (pc := 48) 0 (by decide) dX10_isFull_48 ?_
    refine fm_zret (pc := 49) rfl (by decide) ?_ dX10_isFull_49
    cases h
    exact hq
  · replace h := fm_itp c31 h
    refine fl_aload0 (pc := 34) dX10_isFull_34 ?_
    refine fm_iconstv (pc := 35) 3 (by decide) dX10_isFull_35 ?_
    obtain ⟨v1, M2, ev1, h⟩ := fm_bdp h
    refine fm_callV (pc := 36) mX10_fresher [_] _ rfl cvX10_fresher ml_10_200 sh_76 rfl rfl (Nat.le_of_ble_eq_true rfl) (Nat.le_of_ble_eq_true rfl) dX10_isFull_36 ?_
    refine sp_X10_fresher ev1 ?_
    refine fm_ret1 ?_
    refine fm_bipushv (pc := 39) 8 (by decide) dX10_isFull_39 ?_
    refine fm_icmp_ne (pc := 41) 48 (by decide) dX10_isFull_41 (fun c41 => ?_) (fun c41 => ?_)
    · replace h := fm_itn c41 h
      refine fm_iconstv (pc := 48) 0 (by decide) dX10_isFull_48 ?_
      refine fm_zret (pc := 49) rfl (by decide) ?_ dX10_isFull_49
      cases h
      exact hq
    · replace h := fm_itp c41 h
      refine fm_iconstv (pc := 44) 1 (by decide) dX10_isFull_44 ?_
      refine fm_goto (pc := 45) 49 (by decide) dX10_isFull_45 ?_
      refine fm_zret (pc := 49) rfl (by decide) ?_ dX10_isFull_49
      cases h
      exact hq
theorem jn_X10_isFull_14 {d : Nat} {Q : Option Value → fm_M → Prop}  (l1 : Int32) {x : Int32 × fm_M}  (hq : Q (some (.int x.1)) x.2) (M : fm_M) (h : J_X10_isFull_14 l1 M = some x) : fm_mw (d + 1) mX10_isFull Q 14 [some (.ref 76), some (.int l1)] [] M := by
  rw [J_X10_isFull_14] at h
  refine fl_iload1 (pc := 14) dX10_isFull_14 ?_
  refine fm_iconstv (pc := 15) 2 (by decide) dX10_isFull_15 ?_
  refine fm_icmp_ne (pc := 16) 29 (by decide) dX10_isFull_16 (fun c16 => ?_) (fun c16 => ?_)
  · replace h := fm_itn c16 h
    exact jn_X10_isFull_29 _  hq _ h
  · replace h := fm_itp c16 h
    refine fl_aload0 (pc := 19) dX10_isFull_19 ?_
    refine fm_iconstv (pc := 20) 1 (by decide) dX10_isFull_20 ?_
    obtain ⟨v3, M4, ev3, h⟩ := fm_bdp h
    refine fm_callV (pc := 21) mX10_fresher [_] _ rfl cvX10_fresher ml_10_200 sh_76 rfl rfl (Nat.le_of_ble_eq_true rfl) (Nat.le_of_ble_eq_true rfl) dX10_isFull_21 ?_
    refine sp_X10_fresher ev3 ?_
    refine fm_ret1 ?_
    refine fm_bipushv (pc := 24) 10 (by decide) dX10_isFull_24 ?_
    refine fm_icmp_eq (pc := 26) 44 (by decide) dX10_isFull_26 (fun c26 => ?_) (fun c26 => ?_)
    · replace h := fm_itp c26 h
      refine fm_iconstv (pc := 44) 1 (by decide) dX10_isFull_44 ?_
      refine fm_goto (pc := 45) 49 (by decide) dX10_isFull_45 ?_
      refine fm_zret (pc := 49) rfl (by decide) ?_ dX10_isFull_49
      cases h
      exact hq
    · replace h := fm_itn c26 h
      exact jn_X10_isFull_29 _  hq _ h
theorem sp_X10_isFull {d : Nat} {a1 : Int32} {M : fm_M} {x : Int32 × fm_M} {Q : Option Value → fm_M → Prop} (h : F_X10_isFull a1 M = some x) (hq : Q (some (.int x.1)) x.2) : fm_ct (d + 1) mX10_isFull [.ref 76, .int a1] M Q := by
  rw [F_X10_isFull] at h
  show fm_mw (d + 1) mX10_isFull Q 0 [some (.ref 76), some (.int a1)] [] M
  refine fl_iload1 (pc := 0) dX10_isFull_0 ?_
  refine fm_if_ne (pc := 1) 14 (by decide) dX10_isFull_1 (fun c1 => ?_) (fun c1 => ?_)
  · replace h := fm_itn c1 h
    exact jn_X10_isFull_14 _  hq _ h
  · replace h := fm_itp c1 h
    refine fl_aload0 (pc := 4) dX10_isFull_4 ?_
    refine fm_iconstv (pc := 5) 0 (by decide) dX10_isFull_5 ?_
    obtain ⟨v5, M6, ev5, h⟩ := fm_bdp h
    refine fm_callV (pc := 6) mX10_fresher [_] _ rfl cvX10_fresher ml_10_200 sh_76 rfl rfl (Nat.le_of_ble_eq_true rfl) (Nat.le_of_ble_eq_true rfl) dX10_isFull_6 ?_
    refine sp_X10_fresher ev5 ?_
    refine fm_ret1 ?_
    refine fm_bipushv (pc := 9) 8 (by decide) dX10_isFull_9 ?_
    refine fm_icmp_eq (pc := 11) 44 (by decide) dX10_isFull_11 (fun c11 => ?_) (fun c11 => ?_)
    · replace h := fm_itp c11 h
      refine fm_iconstv (pc := 44) 1 (by decide) dX10_isFull_44 ?_
      refine fm_goto (pc := 45) 49 (by decide) dX10_isFull_45 ?_
      refine fm_zret (pc := 49) rfl (by decide) ?_ dX10_isFull_49
      cases h
      exact hq
    · replace h := fm_itn c11 h
      exact jn_X10_isFull_14 _  hq _ h
/-! X10_isOnce -/
def F_X10_isOnce (a0 : Int32) (M : fm_M) : Option (Int32 × fm_M) :=
    if a0 = 3 then (
      some (1, M)
    ) else (
      if a0 < 5 then (
        some (0, M)
      ) else (
        if 7 < a0 then (
          some (0, M)
        ) else (
          some (1, M)
        )
      )
    )
theorem sp_X10_isOnce {d : Nat} {a0 : Int32} {M : fm_M} {x : Int32 × fm_M} {Q : Option Value → fm_M → Prop} (h : F_X10_isOnce a0 M = some x) (hq : Q (some (.int x.1)) x.2) : fm_ct d mX10_isOnce [.int a0] M Q := by
  rw [F_X10_isOnce] at h
  show fm_mw d mX10_isOnce Q 0 [some (.int a0)] [] M
  refine fl_iload0 (pc := 0) dX10_isOnce_0 ?_
  refine fm_iconstv (pc := 1) 3 (by decide) dX10_isOnce_1 ?_
  refine fm_icmp_eq (pc := 2) 16 (by decide) dX10_isOnce_2 (fun c2 => ?_) (fun c2 => ?_)
  · replace h := fm_itp c2 h
    refine fm_iconstv (pc := 16) 1 (by decide) dX10_isOnce_16 ?_
    refine fm_goto (pc := 17) 21 (by decide) dX10_isOnce_17 ?_
    refine fm_zret (pc := 21) rfl (by decide) ?_ dX10_isOnce_21
    cases h
    exact hq
  · replace h := fm_itn c2 h
    refine fl_iload0 (pc := 5) dX10_isOnce_5 ?_
    refine fm_iconstv (pc := 6) 5 (by decide) dX10_isOnce_6 ?_
    refine fm_icmp_lt (pc := 7) 20 (by decide) dX10_isOnce_7 (fun c7 => ?_) (fun c7 => ?_)
    · replace h := fm_itp c7 h
      refine fm_iconstv (pc := 20) 0 (by decide) dX10_isOnce_20 ?_
      refine fm_zret (pc := 21) rfl (by decide) ?_ dX10_isOnce_21
      cases h
      exact hq
    · replace h := fm_itn c7 h
      refine fl_iload0 (pc := 10) dX10_isOnce_10 ?_
      refine fm_bipushv (pc := 11) 7 (by decide) dX10_isOnce_11 ?_
      refine fm_icmp_gt (pc := 13) 20 (by decide) dX10_isOnce_13 (fun c13 => ?_) (fun c13 => ?_)
      · replace h := fm_itp c13 h
        refine fm_iconstv (pc := 20) 0 (by decide) dX10_isOnce_20 ?_
        refine fm_zret (pc := 21) rfl (by decide) ?_ dX10_isOnce_21
        cases h
        exact hq
      · replace h := fm_itn c13 h
        refine fm_iconstv (pc := 16) 1 (by decide) dX10_isOnce_16 ?_
        refine fm_goto (pc := 17) 21 (by decide) dX10_isOnce_17 ?_
        refine fm_zret (pc := 21) rfl (by decide) ?_ dX10_isOnce_21
        cases h
        exact hq
/-! X10_crackLine -/
def J_X10_crackLine_89 (l1 : Int32) (M : fm_M) : Option (Unit × fm_M) :=
    fm_bd (F_X10_goOn M) (fun v1 M2 =>
    if (M2.1 76 24) = 0 then (
      fm_bd (F_X10_fresher 9 M2) (fun v3 M4 =>
      fm_bd (F_X10_reads 9 (v3 ||| (1 <<< (l1 &&& 31))) M4) (fun v5 M6 =>
      some ((), M6)))
    ) else (
      some ((), M2)
    ))
def J_X10_crackLine_63 (l1 : Int32) (M : fm_M) : Option (Unit × fm_M) :=
    if (M.1 76 24) = 0 then (
      fm_bd (F_X10_fresher 9 M) (fun v7 M8 =>
      if ((v7 >>> (l1 &&& 31)) &&& 1) = 1 then (
        fm_bd (F_X10_wrong 3 M8) (fun v9 M10 =>
        J_X10_crackLine_89 l1 M10)
      ) else (
        J_X10_crackLine_89 l1 M8
      ))
    ) else (
      J_X10_crackLine_89 l1 M
    )
def J_X10_crackLine_42 (s0 : Int32) (M : fm_M) : Option (Unit × fm_M) :=
    if (M.1 76 24) = 0 then (
      if s0 = (-1) then (
        fm_bd (F_X10_wrong 4 M) (fun v11 M12 =>
        J_X10_crackLine_89 s0 M12)
      ) else (
        J_X10_crackLine_63 s0 M
      )
    ) else (
      J_X10_crackLine_63 s0 M
    )
def J_X10_crackLine_13  (M : fm_M) : Option (Unit × fm_M) :=
    if (M.1 76 24) = 0 then (
      fm_bd (F_X10_fresher 0 M) (fun v13 M14 =>
      fm_bd (F_X10_found 79 8 v13 (M14.1 76 23) M14) (fun v15 M16 =>
      J_X10_crackLine_42 v15 M16))
    ) else (
      J_X10_crackLine_42 0 M
    )
def F_X10_crackLine  (M : fm_M) : Option (Unit × fm_M) :=
    if (M.1 76 22) = 1 then (
      J_X10_crackLine_13 M
    ) else (
      fm_bd (F_X10_wrong 1 M) (fun v17 M18 =>
      J_X10_crackLine_13 M18)
    )
theorem jn_X10_crackLine_89 {d : Nat} {Q : Option Value → fm_M → Prop}  (l1 : Int32) {x : Unit × fm_M}  (hq : Q none x.2) (M : fm_M) (h : J_X10_crackLine_89 l1 M = some x) : fm_mw (d + 7) mX10_crackLine Q 89 [some (.ref 76), some (.int l1)] [] M := by
  rw [J_X10_crackLine_89] at h
  refine fl_aload0 (pc := 89) dX10_crackLine_89 ?_
  obtain ⟨v1, M2, ev1, h⟩ := fm_bdp h
  refine fm_callV (pc := 90) mX10_goOn [] _ rfl cvX10_goOn ml_10_237 sh_76 rfl rfl (Nat.le_of_ble_eq_true rfl) (Nat.le_of_ble_eq_true rfl) dX10_crackLine_90 ?_
  refine sp_X10_goOn ev1 ?_
  refine fm_ret0 ?_
  refine fl_aload0 (pc := 93) dX10_crackLine_93 ?_
  refine fm_geti (pc := 94) lk_10_184 sh_76 rfl dX10_crackLine_94 ?_
  refine fm_if_ne (pc := 97) 116 (by decide) dX10_crackLine_97 (fun c97 => ?_) (fun c97 => ?_)
  · replace h := fm_itn c97 h
    refine fm_vret (pc := 116) rfl ?_ dX10_crackLine_116
    cases h
    exact hq
  · replace h := fm_itp c97 h
    refine fl_aload0 (pc := 100) dX10_crackLine_100 ?_
    refine fm_bipushv (pc := 101) 9 (by decide) dX10_crackLine_101 ?_
    refine fl_aload0 (pc := 103) dX10_crackLine_103 ?_
    refine fm_bipushv (pc := 104) 9 (by decide) dX10_crackLine_104 ?_
    obtain ⟨v3, M4, ev3, h⟩ := fm_bdp h
    refine fm_callV (pc := 106) mX10_fresher [_] _ rfl cvX10_fresher ml_10_200 sh_76 rfl rfl (Nat.le_of_ble_eq_true rfl) (Nat.le_of_ble_eq_true rfl) dX10_crackLine_106 ?_
    refine sp_X10_fresher ev3 ?_
    refine fm_ret1 ?_
    refine fm_iconstv (pc := 109) 1 (by decide) dX10_crackLine_109 ?_
    refine fl_iload1 (pc := 110) dX10_crackLine_110 ?_
    refine fm_ishl (pc := 111) dX10_crackLine_111 ?_
    refine fm_ior (pc := 112) dX10_crackLine_112 ?_
    obtain ⟨v5, M6, ev5, h⟩ := fm_bdp h
    refine fm_callV (pc := 113) mX10_reads [_, _] _ rfl cvX10_reads ml_10_221 sh_76 rfl rfl (Nat.le_of_ble_eq_true rfl) (Nat.le_of_ble_eq_true rfl) dX10_crackLine_113 ?_
    refine sp_X10_reads ev5 ?_
    refine fm_ret0 ?_
    refine fm_vret (pc := 116) rfl ?_ dX10_crackLine_116
    cases h
    exact hq
theorem jn_X10_crackLine_63 {d : Nat} {Q : Option Value → fm_M → Prop}  (l1 : Int32) {x : Unit × fm_M}  (hq : Q none x.2) (M : fm_M) (h : J_X10_crackLine_63 l1 M = some x) : fm_mw (d + 7) mX10_crackLine Q 63 [some (.ref 76), some (.int l1)] [] M := by
  rw [J_X10_crackLine_63] at h
  refine fl_aload0 (pc := 63) dX10_crackLine_63 ?_
  refine fm_geti (pc := 64) lk_10_184 sh_76 rfl dX10_crackLine_64 ?_
  refine fm_if_ne (pc := 67) 89 (by decide) dX10_crackLine_67 (fun c67 => ?_) (fun c67 => ?_)
  · replace h := fm_itn c67 h
    exact jn_X10_crackLine_89 _  hq _ h
  · replace h := fm_itp c67 h
    refine fl_aload0 (pc := 70) dX10_crackLine_70 ?_
    refine fm_bipushv (pc := 71) 9 (by decide) dX10_crackLine_71 ?_
    obtain ⟨v7, M8, ev7, h⟩ := fm_bdp h
    refine fm_callV (pc := 73) mX10_fresher [_] _ rfl cvX10_fresher ml_10_200 sh_76 rfl rfl (Nat.le_of_ble_eq_true rfl) (Nat.le_of_ble_eq_true rfl) dX10_crackLine_73 ?_
    refine sp_X10_fresher ev7 ?_
    refine fm_ret1 ?_
    refine fl_iload1 (pc := 76) dX10_crackLine_76 ?_
    refine fm_ishr (pc := 77) dX10_crackLine_77 ?_
    refine fm_iconstv (pc := 78) 1 (by decide) dX10_crackLine_78 ?_
    refine fm_iand (pc := 79) dX10_crackLine_79 ?_
    refine fm_iconstv (pc := 80) 1 (by decide) dX10_crackLine_80 ?_
    refine fm_icmp_ne (pc := 81) 89 (by decide) dX10_crackLine_81 (fun c81 => ?_) (fun c81 => ?_)
    · replace h := fm_itn c81 h
      exact jn_X10_crackLine_89 _  hq _ h
    · replace h := fm_itp c81 h
      refine fl_aload0 (pc := 84) dX10_crackLine_84 ?_
      refine fm_iconstv (pc := 85) 3 (by decide) dX10_crackLine_85 ?_
      obtain ⟨v9, M10, ev9, h⟩ := fm_bdp h
      refine fm_callV (pc := 86) mX10_wrong [_] _ rfl cvX10_wrong ml_10_193 sh_76 rfl rfl (Nat.le_of_ble_eq_true rfl) (Nat.le_of_ble_eq_true rfl) dX10_crackLine_86 ?_
      refine sp_X10_wrong ev9 ?_
      refine fm_ret0 ?_
      exact jn_X10_crackLine_89 _  hq _ h
theorem jn_X10_crackLine_42 {d : Nat} {Q : Option Value → fm_M → Prop}  (s0 : Int32) {x : Unit × fm_M}  (hq : Q none x.2) (M : fm_M) (h : J_X10_crackLine_42 s0 M = some x) : fm_mw (d + 7) mX10_crackLine Q 42 [some (.ref 76), none] [(.int s0)] M := by
  rw [J_X10_crackLine_42] at h
  refine fl_istore1 (pc := 42) rfl (by decide) dX10_crackLine_42 ?_
  refine fl_aload0 (pc := 43) dX10_crackLine_43 ?_
  refine fm_geti (pc := 44) lk_10_184 sh_76 rfl dX10_crackLine_44 ?_
  refine fm_if_ne (pc := 47) 63 (by decide) dX10_crackLine_47 (fun c47 => ?_) (fun c47 => ?_)
  · replace h := fm_itn c47 h
    exact jn_X10_crackLine_63 _  hq _ h
  · replace h := fm_itp c47 h
    refine fl_iload1 (pc := 50) dX10_crackLine_50 ?_
    refine fm_iconstv (pc := 51) (-1) (by decide) dX10_crackLine_51 ?_
    refine fm_icmp_ne (pc := 52) 63 (by decide) dX10_crackLine_52 (fun c52 => ?_) (fun c52 => ?_)
    · replace h := fm_itn c52 h
      exact jn_X10_crackLine_63 _  hq _ h
    · replace h := fm_itp c52 h
      refine fl_aload0 (pc := 55) dX10_crackLine_55 ?_
      refine fm_iconstv (pc := 56) 4 (by decide) dX10_crackLine_56 ?_
      obtain ⟨v11, M12, ev11, h⟩ := fm_bdp h
      refine fm_callV (pc := 57) mX10_wrong [_] _ rfl cvX10_wrong ml_10_193 sh_76 rfl rfl (Nat.le_of_ble_eq_true rfl) (Nat.le_of_ble_eq_true rfl) dX10_crackLine_57 ?_
      refine sp_X10_wrong ev11 ?_
      refine fm_ret0 ?_
      refine fm_goto (pc := 60) 89 (by decide) dX10_crackLine_60 ?_
      exact jn_X10_crackLine_89 _  hq _ h
theorem jn_X10_crackLine_13 {d : Nat} {Q : Option Value → fm_M → Prop}   {x : Unit × fm_M}  (hq : Q none x.2) (M : fm_M) (h : J_X10_crackLine_13 M = some x) : fm_mw (d + 7) mX10_crackLine Q 13 [some (.ref 76), none] [] M := by
  rw [J_X10_crackLine_13] at h
  refine fl_aload0 (pc := 13) dX10_crackLine_13 ?_
  refine fm_geti (pc := 14) lk_10_184 sh_76 rfl dX10_crackLine_14 ?_
  refine fm_if_ne (pc := 17) 41 (by decide) dX10_crackLine_17 (fun c17 => ?_) (fun c17 => ?_)
  · replace h := fm_itn c17 h
    refine fm_iconstv (pc := 41) 0 (by decide) dX10_crackLine_41 ?_
    exact jn_X10_crackLine_42 _  hq _ h
  · replace h := fm_itp c17 h
    refine fl_aload0 (pc := 20) dX10_crackLine_20 ?_
    refine fm_getr (pc := 21) lk_10_16 sh_76 rfl dX10_crackLine_21 ?_
    refine fm_bipushv (pc := 24) 8 (by decide) dX10_crackLine_24 ?_
    refine fl_aload0 (pc := 26) dX10_crackLine_26 ?_
    refine fm_iconstv (pc := 27) 0 (by decide) dX10_crackLine_27 ?_
    obtain ⟨v13, M14, ev13, h⟩ := fm_bdp h
    refine fm_callV (pc := 28) mX10_fresher [_] _ rfl cvX10_fresher ml_10_200 sh_76 rfl rfl (Nat.le_of_ble_eq_true rfl) (Nat.le_of_ble_eq_true rfl) dX10_crackLine_28 ?_
    refine sp_X10_fresher ev13 ?_
    refine fm_ret1 ?_
    refine fl_aload0 (pc := 31) dX10_crackLine_31 ?_
    refine fm_geti (pc := 32) lk_10_159 sh_76 rfl dX10_crackLine_32 ?_
    obtain ⟨v15, M16, ev15, h⟩ := fm_bdp h
    refine fm_callS (pc := 35) mX10_found [_, _, _, _] _ rfl csX10_found ml_10_196 rfl (Nat.le_of_ble_eq_true rfl) (Nat.le_of_ble_eq_true rfl) dX10_crackLine_35 ?_
    refine sp_X10_found ev15 ?_
    refine fm_ret1 ?_
    refine fm_goto (pc := 38) 42 (by decide) dX10_crackLine_38 ?_
    exact jn_X10_crackLine_42 _  hq _ h
theorem sp_X10_crackLine {d : Nat}  {M : fm_M} {x : Unit × fm_M} {Q : Option Value → fm_M → Prop} (h : F_X10_crackLine  M = some x) (hq : Q none x.2) : fm_ct (d + 7) mX10_crackLine [.ref 76] M Q := by
  rw [F_X10_crackLine] at h
  show fm_mw (d + 7) mX10_crackLine Q 0 [some (.ref 76), none] [] M
  refine fl_aload0 (pc := 0) dX10_crackLine_0 ?_
  refine fm_geti (pc := 1) lk_10_149 sh_76 rfl dX10_crackLine_1 ?_
  refine fm_iconstv (pc := 4) 1 (by decide) dX10_crackLine_4 ?_
  refine fm_icmp_eq (pc := 5) 13 (by decide) dX10_crackLine_5 (fun c5 => ?_) (fun c5 => ?_)
  · replace h := fm_itp c5 h
    exact jn_X10_crackLine_13   hq _ h
  · replace h := fm_itn c5 h
    refine fl_aload0 (pc := 8) dX10_crackLine_8 ?_
    refine fm_iconstv (pc := 9) 1 (by decide) dX10_crackLine_9 ?_
    obtain ⟨v17, M18, ev17, h⟩ := fm_bdp h
    refine fm_callV (pc := 10) mX10_wrong [_] _ rfl cvX10_wrong ml_10_193 sh_76 rfl rfl (Nat.le_of_ble_eq_true rfl) (Nat.le_of_ble_eq_true rfl) dX10_crackLine_10 ?_
    refine sp_X10_wrong ev17 ?_
    refine fm_ret0 ?_
    exact jn_X10_crackLine_13   hq _ h
/-! X10_knot -/
def F_X10_knot  (M : fm_M) : Option (Unit × fm_M) :=
    if (M.1 76 24) = 0 then (
      if (M.1 76 29) = 64 then (
        fm_bd (F_X10_wrong 2 M) (fun v2 M3 =>
        some ((), M3))
      ) else (
        fm_lt (fm_up M 76 29 ((M.1 76 29) + 1)) (fun M1 =>
        some ((), M1))
      )
    ) else (
      some ((), M)
    )
theorem sp_X10_knot {d : Nat}  {M : fm_M} {x : Unit × fm_M} {Q : Option Value → fm_M → Prop} (h : F_X10_knot  M = some x) (hq : Q none x.2) : fm_ct (d + 1) mX10_knot [.ref 76] M Q := by
  rw [F_X10_knot] at h
  show fm_mw (d + 1) mX10_knot Q 0 [some (.ref 76)] [] M
  refine fl_aload0 (pc := 0) dX10_knot_0 ?_
  refine fm_geti (pc := 1) lk_10_184 sh_76 rfl dX10_knot_1 ?_
  refine fm_if_eq (pc := 4) 8 (by decide) dX10_knot_4 (fun c4 => ?_) (fun c4 => ?_)
  · replace h := fm_itp c4 h
    refine fl_aload0 (pc := 8) dX10_knot_8 ?_
    refine fm_geti (pc := 9) lk_10_243 sh_76 rfl dX10_knot_9 ?_
    refine fm_bipushv (pc := 12) 64 (by decide) dX10_knot_12 ?_
    refine fm_icmp_ne (pc := 14) 25 (by decide) dX10_knot_14 (fun c14 => ?_) (fun c14 => ?_)
    · replace h := fm_itn c14 h
      refine fl_aload0 (pc := 25) dX10_knot_25 ?_
      refine fm_dup (pc := 26) rfl dX10_knot_26 ?_
      refine fm_geti (pc := 27) lk_10_243 sh_76 rfl dX10_knot_27 ?_
      refine fm_iconstv (pc := 30) 1 (by decide) dX10_knot_30 ?_
      refine fm_iadd (pc := 31) dX10_knot_31 ?_
      refine fm_puti (pc := 32) lp_10_243 sh_76 rfl dX10_knot_32 ?_
      obtain ⟨M1, eM1, h⟩ := fm_ltp h
      refine fm_cgm eM1 ?_
      refine fm_vret (pc := 35) rfl ?_ dX10_knot_35
      cases h
      exact hq
    · replace h := fm_itp c14 h
      refine fl_aload0 (pc := 17) dX10_knot_17 ?_
      refine fm_iconstv (pc := 18) 2 (by decide) dX10_knot_18 ?_
      obtain ⟨v2, M3, ev2, h⟩ := fm_bdp h
      refine fm_callV (pc := 19) mX10_wrong [_] _ rfl cvX10_wrong ml_10_193 sh_76 rfl rfl (Nat.le_of_ble_eq_true rfl) (Nat.le_of_ble_eq_true rfl) dX10_knot_19 ?_
      refine sp_X10_wrong ev2 ?_
      refine fm_ret0 ?_
      refine fm_goto (pc := 22) 35 (by decide) dX10_knot_22 ?_
      refine fm_vret (pc := 35) rfl ?_ dX10_knot_35
      cases h
      exact hq
  · replace h := fm_itn c4 h
    refine fm_vret (pc := 7) rfl ?_ dX10_knot_7
    cases h
    exact hq
/-! X10_puts -/
def F_X10_puts (a1 : Int32) (a2 : Int32) (M : fm_M) : Option (Unit × fm_M) :=
    if (M.1 76 24) = 0 then (
      fm_bd (F_X10_fresher 8 M) (fun v1 M2 =>
      fm_gd (fm_inb (64 + v1) 128) (
      fm_lt (fm_up M2 90 (Int32.toNatClampNeg (64 + v1)) a1) (fun M4 =>
      fm_bd (F_X10_fresher 8 M4) (fun v5 M6 =>
      fm_gd (fm_inb (64 + v5) 128) (
      fm_lt (fm_up M6 91 (Int32.toNatClampNeg (64 + v5)) a2) (fun M8 =>
      fm_bd (F_X10_fresher 8 M8) (fun v9 M10 =>
      fm_bd (F_X10_reads 8 (v9 + 1) M10) (fun v11 M12 =>
      some ((), M12)))))))))
    ) else (
      some ((), M)
    )
theorem sp_X10_puts {d : Nat} {a1 : Int32} {a2 : Int32} {M : fm_M} {x : Unit × fm_M} {Q : Option Value → fm_M → Prop} (h : F_X10_puts a1 a2 M = some x) (hq : Q none x.2) : fm_ct (d + 1) mX10_puts [.ref 76, .int a1, .int a2] M Q := by
  rw [F_X10_puts] at h
  show fm_mw (d + 1) mX10_puts Q 0 [some (.ref 76), some (.int a1), some (.int a2)] [] M
  refine fl_aload0 (pc := 0) dX10_puts_0 ?_
  refine fm_geti (pc := 1) lk_10_184 sh_76 rfl dX10_puts_1 ?_
  refine fm_if_eq (pc := 4) 8 (by decide) dX10_puts_4 (fun c4 => ?_) (fun c4 => ?_)
  · replace h := fm_itp c4 h
    refine fl_aload0 (pc := 8) dX10_puts_8 ?_
    refine fm_getr (pc := 9) lk_10_49 sh_76 rfl dX10_puts_9 ?_
    refine fm_bipushv (pc := 12) 64 (by decide) dX10_puts_12 ?_
    refine fl_aload0 (pc := 14) dX10_puts_14 ?_
    refine fm_bipushv (pc := 15) 8 (by decide) dX10_puts_15 ?_
    obtain ⟨v1, M2, ev1, h⟩ := fm_bdp h
    refine fm_callV (pc := 17) mX10_fresher [_] _ rfl cvX10_fresher ml_10_200 sh_76 rfl rfl (Nat.le_of_ble_eq_true rfl) (Nat.le_of_ble_eq_true rfl) dX10_puts_17 ?_
    refine sp_X10_fresher ev1 ?_
    refine fm_ret1 ?_
    refine fm_iadd (pc := 20) dX10_puts_20 ?_
    refine fl_iload1 (pc := 21) dX10_puts_21 ?_
    obtain ⟨g3, h⟩ := fm_gdp h
    refine fm_iast (pc := 22) sh_90 (fm_inb_ok g3) dX10_puts_22 ?_
    obtain ⟨M4, eM4, h⟩ := fm_ltp h
    refine fm_cgm eM4 ?_
    refine fl_aload0 (pc := 23) dX10_puts_23 ?_
    refine fm_getr (pc := 24) lk_10_52 sh_76 rfl dX10_puts_24 ?_
    refine fm_bipushv (pc := 27) 64 (by decide) dX10_puts_27 ?_
    refine fl_aload0 (pc := 29) dX10_puts_29 ?_
    refine fm_bipushv (pc := 30) 8 (by decide) dX10_puts_30 ?_
    obtain ⟨v5, M6, ev5, h⟩ := fm_bdp h
    refine fm_callV (pc := 32) mX10_fresher [_] _ rfl cvX10_fresher ml_10_200 sh_76 rfl rfl (Nat.le_of_ble_eq_true rfl) (Nat.le_of_ble_eq_true rfl) dX10_puts_32 ?_
    refine sp_X10_fresher ev5 ?_
    refine fm_ret1 ?_
    refine fm_iadd (pc := 35) dX10_puts_35 ?_
    refine fl_iload2 (pc := 36) dX10_puts_36 ?_
    obtain ⟨g7, h⟩ := fm_gdp h
    refine fm_iast (pc := 37) sh_91 (fm_inb_ok g7) dX10_puts_37 ?_
    obtain ⟨M8, eM8, h⟩ := fm_ltp h
    refine fm_cgm eM8 ?_
    refine fl_aload0 (pc := 38) dX10_puts_38 ?_
    refine fm_bipushv (pc := 39) 8 (by decide) dX10_puts_39 ?_
    refine fl_aload0 (pc := 41) dX10_puts_41 ?_
    refine fm_bipushv (pc := 42) 8 (by decide) dX10_puts_42 ?_
    obtain ⟨v9, M10, ev9, h⟩ := fm_bdp h
    refine fm_callV (pc := 44) mX10_fresher [_] _ rfl cvX10_fresher ml_10_200 sh_76 rfl rfl (Nat.le_of_ble_eq_true rfl) (Nat.le_of_ble_eq_true rfl) dX10_puts_44 ?_
    refine sp_X10_fresher ev9 ?_
    refine fm_ret1 ?_
    refine fm_iconstv (pc := 47) 1 (by decide) dX10_puts_47 ?_
    refine fm_iadd (pc := 48) dX10_puts_48 ?_
    obtain ⟨v11, M12, ev11, h⟩ := fm_bdp h
    refine fm_callV (pc := 49) mX10_reads [_, _] _ rfl cvX10_reads ml_10_221 sh_76 rfl rfl (Nat.le_of_ble_eq_true rfl) (Nat.le_of_ble_eq_true rfl) dX10_puts_49 ?_
    refine sp_X10_reads ev11 ?_
    refine fm_ret0 ?_
    refine fm_vret (pc := 52) rfl ?_ dX10_puts_52
    cases h
    exact hq
  · replace h := fm_itn c4 h
    refine fm_vret (pc := 7) rfl ?_ dX10_puts_7
    cases h
    exact hq
/-! X10_half -/
def G_X10_half_7 : Nat → Nat → Nat → Int32 → Int32 → fm_M → Option ((Int32) × fm_M)
  | 0, _, _, _, _, _ => none
  | n + 1, a0, n0, l1, l2, M =>
    if l1 ≤ l2 then (
      some (l2, M)
    ) else (
      fm_gd (fm_inb (l1 + l2) n0) (
      fm_gd (fm_inb l2 n0) (
      fm_lt (fm_up M a0 (Int32.toNatClampNeg l2) (M.1 a0 (Int32.toNatClampNeg (l1 + l2)))) (fun M4 =>
      G_X10_half_7 n a0 n0 l1 (l2 + 1) M4)))
    )
def F_X10_half (a0 : Nat) (M : fm_M) : Option (Unit × fm_M) :=
    fm_bn (fm_arI a0) (fun n0 =>
    fm_lt (((nI n0) / 2)) (fun x1 =>
    fm_bd (G_X10_half_7 fm_fuel a0 n0 x1 0 M) (fun w5 M6 =>
      some ((), M6))))
theorem lp_X10_half_7 {d : Nat} {Q : Option Value → fm_M → Prop} {l1 : Int32} {a0 : Nat} {n0 : Nat} (en0 : fm_arI a0 = some n0) {x : (Int32) × fm_M} (k1 : ∀ (v : Int32) (M2 : fm_M), x = (v, M2) → fm_mw d mX10_half Q 26 [some (.ref a0), some (.int l1), some (.int v)] [] M2) : ∀ (n : Nat) (l2 : Int32) (M : fm_M), G_X10_half_7 n a0 n0 l1 l2 M = some x → fm_mw d mX10_half Q 7 [some (.ref a0), some (.int l1), some (.int l2)] [] M := by
  intro n
  induction n with
  | zero => intro l2 M h; simp [G_X10_half_7] at h
  | succ n ih =>
    intro l2 M h
    rw [G_X10_half_7] at h
    refine fl_iload2 (pc := 7) dX10_half_7 ?_
    refine fl_iload1 (pc := 8) dX10_half_8 ?_
    refine fm_icmp_ge (pc := 9) 26 (by decide) dX10_half_9 (fun c9 => ?_) (fun c9 => ?_)
    · replace h := fm_itp c9 h
      refine fm_fgt [some (.ref a0), some (.int l1), some (.int l2)] (by simp [fm_sub]) ?_
      cases h
      exact k1 _ _ rfl
    · replace h := fm_itn c9 h
      refine fl_aload0 (pc := 12) dX10_half_12 ?_
      refine fl_iload2 (pc := 13) dX10_half_13 ?_
      refine fl_aload0 (pc := 14) dX10_half_14 ?_
      refine fl_iload1 (pc := 15) dX10_half_15 ?_
      refine fl_iload2 (pc := 16) dX10_half_16 ?_
      refine fm_iadd (pc := 17) dX10_half_17 ?_
      obtain ⟨g2, h⟩ := fm_gdp h
      refine fm_iald (pc := 18) (fm_arI_ok en0) (fm_inb_ok g2) dX10_half_18 ?_
      obtain ⟨g3, h⟩ := fm_gdp h
      refine fm_iast (pc := 19) (fm_arI_ok en0) (fm_inb_ok g3) dX10_half_19 ?_
      obtain ⟨M4, eM4, h⟩ := fm_ltp h
      refine fm_cgm eM4 ?_
      refine fl_iinc2 (pc := 20) rfl 1 (by decide) (by decide) dX10_half_20 ?_
      refine fm_goto (pc := 23) 7 (by decide) dX10_half_23 ?_
      refine fm_fgt [some (.ref a0), some (.int l1), some (.int (l2 + 1))] (by simp [fm_sub]) ?_
      exact ih _ _ h
theorem sp_X10_half {d : Nat} {a0 : Nat} {M : fm_M} {x : Unit × fm_M} {Q : Option Value → fm_M → Prop} (h : F_X10_half a0 M = some x) (hq : Q none x.2) : fm_ct d mX10_half [.ref a0] M Q := by
  rw [F_X10_half] at h
  show fm_mw d mX10_half Q 0 [some (.ref a0), none, none] [] M
  obtain ⟨n0, en0, h⟩ := fm_bnp h
  refine fl_aload0 (pc := 0) dX10_half_0 ?_
  refine fm_alen (pc := 1) (fm_arI_ok en0) dX10_half_1 ?_
  refine fm_iconstv (pc := 2) 2 (by decide) dX10_half_2 ?_
  refine fm_idiv (pc := 3) (by decide) dX10_half_3 ?_
  obtain ⟨x1, ex1, h⟩ := fm_ltp h
  refine fm_cgi ex1 ?_
  refine fl_istore1 (pc := 4) rfl (by decide) dX10_half_4 ?_
  refine fm_iconstv (pc := 5) 0 (by decide) dX10_half_5 ?_
  refine fl_istore2 (pc := 6) rfl (by decide) dX10_half_6 ?_
  obtain ⟨w5, M6, ew5, h⟩ := fm_bdp h
  refine lp_X10_half_7 en0 ?_ _ _ _ ew5
  intro w59 M69 q9
  cases q9
  refine fm_vret (pc := 26) rfl ?_ dX10_half_26
  cases h
  exact hq
/-! X10_starts -/
def G_X10_starts_35 : Nat → Int32 → Int32 → fm_M → Option ((Int32) × fm_M)
  | 0, _, _, _ => none
  | n + 1, l1, l2, M =>
    if 8 ≤ l2 then (
      some (l2, M)
    ) else (
      fm_gd (fm_inb 0 20) (
      if (M.1 78 (Int32.toNatClampNeg 0)) ≤ l2 then (
        fm_gd (fm_inb ((8 * l1) + l2) 184) (
        fm_lt (fm_up M 98 (Int32.toNatClampNeg ((8 * l1) + l2)) 0) (fun M12 =>
        G_X10_starts_35 n l1 (l2 + 1) M12))
      ) else (
        fm_gd (fm_inb l2 16) (
        fm_gd (fm_inb ((8 * l1) + l2) 184) (
        fm_lt (fm_up M 98 (Int32.toNatClampNeg ((8 * l1) + l2)) (M.1 80 (Int32.toNatClampNeg l2))) (fun M15 =>
        G_X10_starts_35 n l1 (l2 + 1) M15)))
      ))
    )
def J_X10_starts_116 (rec : Int32 → fm_M → Option ((Int32) × fm_M)) (l1 : Int32) (l2 : Int32) (s1 : Int32) (s2 : Int32) (M : fm_M) : Option ((Int32) × fm_M) :=
    fm_gd (fm_inb s1 230) (
    fm_lt (fm_up M 99 (Int32.toNatClampNeg s1) s2) (fun M20 =>
    fm_gd (fm_inb ((10 * l1) + l2) 230) (
    fm_lt (fm_up M20 100 (Int32.toNatClampNeg ((10 * l1) + l2)) (-1)) (fun M22 =>
    fm_gd (fm_inb ((10 * l1) + l2) 230) (
    fm_lt (fm_up M22 101 (Int32.toNatClampNeg ((10 * l1) + l2)) (-1)) (fun M24 =>
    rec (l2 + 1) M24))))))
def G_X10_starts_80 : Nat → Int32 → Int32 → fm_M → Option ((Int32) × fm_M)
  | 0, _, _, _ => none
  | n + 1, l1, l2, M =>
    if 10 ≤ l2 then (
      some (l2, M)
    ) else (
      fm_gd (fm_inb 1 20) (
      if (M.1 78 (Int32.toNatClampNeg 1)) ≤ l2 then (
        J_X10_starts_116 (G_X10_starts_80 n l1) l1 l2 ((10 * l1) + l2) 0 M
      ) else (
        fm_gd (fm_inb l2 20) (
        J_X10_starts_116 (G_X10_starts_80 n l1) l1 l2 ((10 * l1) + l2) (M.1 86 (Int32.toNatClampNeg l2)) M)
      ))
    )
def F_X10_starts (a1 : Int32) (M : fm_M) : Option (Unit × fm_M) :=
    fm_gd (fm_inb a1 23) (
    fm_lt (fm_up M 94 (Int32.toNatClampNeg a1) 0) (fun M2 =>
    fm_gd (fm_inb 4 20) (
    fm_gd (fm_inb a1 23) (
    fm_lt (fm_up M2 95 (Int32.toNatClampNeg a1) (M2.1 78 (Int32.toNatClampNeg 4))) (fun M5 =>
    fm_gd (fm_inb a1 23) (
    fm_lt (fm_up M5 96 (Int32.toNatClampNeg a1) 0) (fun M7 =>
    fm_gd (fm_inb a1 23) (
    fm_lt (fm_up M7 97 (Int32.toNatClampNeg a1) 0) (fun M9 =>
    fm_bd (G_X10_starts_35 fm_fuel a1 0 M9) (fun w16 M17 =>
      fm_bd (G_X10_starts_80 fm_fuel a1 0 M17) (fun w26 M27 =>
        some ((), M27))))))))))))
theorem lp_X10_starts_35 {d : Nat} {Q : Option Value → fm_M → Prop} {l1 : Int32}   {x : (Int32) × fm_M} (k1 : ∀ (v : Int32) (M2 : fm_M), x = (v, M2) → fm_mw d mX10_starts Q 78 [some (.ref 76), some (.int l1), some (.int v)] [] M2) : ∀ (n : Nat) (l2 : Int32) (M : fm_M), G_X10_starts_35 n l1 l2 M = some x → fm_mw d mX10_starts Q 35 [some (.ref 76), some (.int l1), some (.int l2)] [] M := by
  intro n
  induction n with
  | zero => intro l2 M h; simp [G_X10_starts_35] at h
  | succ n ih =>
    intro l2 M h
    rw [G_X10_starts_35] at h
    refine fl_iload2 (pc := 35) dX10_starts_35 ?_
    refine fm_bipushv (pc := 36) 8 (by decide) dX10_starts_36 ?_
    refine fm_icmp_ge (pc := 38) 78 (by decide) dX10_starts_38 (fun c38 => ?_) (fun c38 => ?_)
    · replace h := fm_itp c38 h
      refine fm_fgt [some (.ref 76), some (.int l1), some (.int l2)] (by simp [fm_sub]) ?_
      cases h
      exact k1 _ _ rfl
    · replace h := fm_itn c38 h
      refine fl_aload0 (pc := 41) dX10_starts_41 ?_
      refine fm_getr (pc := 42) lk_10_78 sh_76 rfl dX10_starts_42 ?_
      refine fm_bipushv (pc := 45) 8 (by decide) dX10_starts_45 ?_
      refine fl_iload1 (pc := 47) dX10_starts_47 ?_
      refine fm_imul (pc := 48) dX10_starts_48 ?_
      refine fl_iload2 (pc := 49) dX10_starts_49 ?_
      refine fm_iadd (pc := 50) dX10_starts_50 ?_
      refine fl_iload2 (pc := 51) dX10_starts_51 ?_
      refine fl_aload0 (pc := 52) dX10_starts_52 ?_
      refine fm_getr (pc := 53) lk_10_13 sh_76 rfl dX10_starts_53 ?_
      refine fm_iconstv (pc := 56) 0 (by decide) dX10_starts_56 ?_
      obtain ⟨g10, h⟩ := fm_gdp h
      refine fm_iald (pc := 57) sh_78 (fm_inb_ok g10) dX10_starts_57 ?_
      refine fm_icmp_ge (pc := 58) 70 (by decide) dX10_starts_58 (fun c58 => ?_) (fun c58 => ?_)
      · replace h := fm_itp c58 h
        refine fm_iconstv (pc := 70) 0 (by decide) dX10_starts_70 ?_
        obtain ⟨g11, h⟩ := fm_gdp h
        refine fm_iast (pc := 71) sh_98 (fm_inb_ok g11) dX10_starts_71 ?_
        obtain ⟨M12, eM12, h⟩ := fm_ltp h
        refine fm_cgm eM12 ?_
        refine fl_iinc2 (pc := 72) rfl 1 (by decide) (by decide) dX10_starts_72 ?_
        refine fm_goto (pc := 75) 35 (by decide) dX10_starts_75 ?_
        refine fm_fgt [some (.ref 76), some (.int l1), some (.int (l2 + 1))] (by simp [fm_sub]) ?_
        exact ih _ _ h
      · replace h := fm_itn c58 h
        refine fl_aload0 (pc := 61) dX10_starts_61 ?_
        refine fm_getr (pc := 62) lk_10_19 sh_76 rfl dX10_starts_62 ?_
        refine fl_iload2 (pc := 65) dX10_starts_65 ?_
        obtain ⟨g13, h⟩ := fm_gdp h
        refine fm_iald (pc := 66) sh_80 (fm_inb_ok g13) dX10_starts_66 ?_
        refine fm_goto (pc := 67) 71 (by decide) dX10_starts_67 ?_
        obtain ⟨g14, h⟩ := fm_gdp h
        refine fm_iast (pc := 71) sh_98 (fm_inb_ok g14) dX10_starts_71 ?_
        obtain ⟨M15, eM15, h⟩ := fm_ltp h
        refine fm_cgm eM15 ?_
        refine fl_iinc2 (pc := 72) rfl 1 (by decide) (by decide) dX10_starts_72 ?_
        refine fm_goto (pc := 75) 35 (by decide) dX10_starts_75 ?_
        refine fm_fgt [some (.ref 76), some (.int l1), some (.int (l2 + 1))] (by simp [fm_sub]) ?_
        exact ih _ _ h
theorem jn_X10_starts_116 {d : Nat} {Q : Option Value → fm_M → Prop} (rec : Int32 → fm_M → Option ((Int32) × fm_M))  (l1 : Int32) (l2 : Int32) (s1 : Int32) (s2 : Int32) {x : (Int32) × fm_M}  (ih : ∀ (l2 : Int32) (M : fm_M), rec l2 M = some x → fm_mw d mX10_starts Q 80 [some (.ref 76), some (.int l1), some (.int l2)] [] M) (k1 : ∀ (v : Int32) (M2 : fm_M), x = (v, M2) → fm_mw d mX10_starts Q 147 [some (.ref 76), some (.int l1), some (.int v)] [] M2) (M : fm_M) (h : J_X10_starts_116 rec l1 l2 s1 s2 M = some x) : fm_mw d mX10_starts Q 116 [some (.ref 76), some (.int l1), some (.int l2)] [(.int s2), (.int s1), (.ref 99)] M := by
  rw [J_X10_starts_116] at h
  obtain ⟨g19, h⟩ := fm_gdp h
  refine fm_iast (pc := 116) sh_99 (fm_inb_ok g19) dX10_starts_116 ?_
  obtain ⟨M20, eM20, h⟩ := fm_ltp h
  refine fm_cgm eM20 ?_
  refine fl_aload0 (pc := 117) dX10_starts_117 ?_
  refine fm_getr (pc := 118) lk_10_84 sh_76 rfl dX10_starts_118 ?_
  refine fm_bipushv (pc := 121) 10 (by decide) dX10_starts_121 ?_
  refine fl_iload1 (pc := 123) dX10_starts_123 ?_
  refine fm_imul (pc := 124) dX10_starts_124 ?_
  refine fl_iload2 (pc := 125) dX10_starts_125 ?_
  refine fm_iadd (pc := 126) dX10_starts_126 ?_
  refine fm_iconstv (pc := 127) (-1) (by decide) dX10_starts_127 ?_
  obtain ⟨g21, h⟩ := fm_gdp h
  refine fm_iast (pc := 128) sh_100 (fm_inb_ok g21) dX10_starts_128 ?_
  obtain ⟨M22, eM22, h⟩ := fm_ltp h
  refine fm_cgm eM22 ?_
  refine fl_aload0 (pc := 129) dX10_starts_129 ?_
  refine fm_getr (pc := 130) lk_10_87 sh_76 rfl dX10_starts_130 ?_
  refine fm_bipushv (pc := 133) 10 (by decide) dX10_starts_133 ?_
  refine fl_iload1 (pc := 135) dX10_starts_135 ?_
  refine fm_imul (pc := 136) dX10_starts_136 ?_
  refine fl_iload2 (pc := 137) dX10_starts_137 ?_
  refine fm_iadd (pc := 138) dX10_starts_138 ?_
  refine fm_iconstv (pc := 139) (-1) (by decide) dX10_starts_139 ?_
  obtain ⟨g23, h⟩ := fm_gdp h
  refine fm_iast (pc := 140) sh_101 (fm_inb_ok g23) dX10_starts_140 ?_
  obtain ⟨M24, eM24, h⟩ := fm_ltp h
  refine fm_cgm eM24 ?_
  refine fl_iinc2 (pc := 141) rfl 1 (by decide) (by decide) dX10_starts_141 ?_
  refine fm_goto (pc := 144) 80 (by decide) dX10_starts_144 ?_
  refine fm_fgt [some (.ref 76), some (.int l1), some (.int (l2 + 1))] (by simp [fm_sub]) ?_
  exact ih _ _ h
theorem lp_X10_starts_80 {d : Nat} {Q : Option Value → fm_M → Prop} {l1 : Int32}   {x : (Int32) × fm_M} (k1 : ∀ (v : Int32) (M2 : fm_M), x = (v, M2) → fm_mw d mX10_starts Q 147 [some (.ref 76), some (.int l1), some (.int v)] [] M2) : ∀ (n : Nat) (l2 : Int32) (M : fm_M), G_X10_starts_80 n l1 l2 M = some x → fm_mw d mX10_starts Q 80 [some (.ref 76), some (.int l1), some (.int l2)] [] M := by
  intro n
  induction n with
  | zero => intro l2 M h; simp [G_X10_starts_80] at h
  | succ n ih =>
    intro l2 M h
    rw [G_X10_starts_80] at h
    refine fl_iload2 (pc := 80) dX10_starts_80 ?_
    refine fm_bipushv (pc := 81) 10 (by decide) dX10_starts_81 ?_
    refine fm_icmp_ge (pc := 83) 147 (by decide) dX10_starts_83 (fun c83 => ?_) (fun c83 => ?_)
    · replace h := fm_itp c83 h
      refine fm_fgt [some (.ref 76), some (.int l1), some (.int l2)] (by simp [fm_sub]) ?_
      cases h
      exact k1 _ _ rfl
    · replace h := fm_itn c83 h
      refine fl_aload0 (pc := 86) dX10_starts_86 ?_
      refine fm_getr (pc := 87) lk_10_81 sh_76 rfl dX10_starts_87 ?_
      refine fm_bipushv (pc := 90) 10 (by decide) dX10_starts_90 ?_
      refine fl_iload1 (pc := 92) dX10_starts_92 ?_
      refine fm_imul (pc := 93) dX10_starts_93 ?_
      refine fl_iload2 (pc := 94) dX10_starts_94 ?_
      refine fm_iadd (pc := 95) dX10_starts_95 ?_
      refine fl_iload2 (pc := 96) dX10_starts_96 ?_
      refine fl_aload0 (pc := 97) dX10_starts_97 ?_
      refine fm_getr (pc := 98) lk_10_13 sh_76 rfl dX10_starts_98 ?_
      refine fm_iconstv (pc := 101) 1 (by decide) dX10_starts_101 ?_
      obtain ⟨g18, h⟩ := fm_gdp h
      refine fm_iald (pc := 102) sh_78 (fm_inb_ok g18) dX10_starts_102 ?_
      refine fm_icmp_ge (pc := 103) 115 (by decide) dX10_starts_103 (fun c103 => ?_) (fun c103 => ?_)
      · replace h := fm_itp c103 h
        refine fm_iconstv (pc := 115) 0 (by decide) dX10_starts_115 ?_
        exact jn_X10_starts_116 _ _ _ _ _  ih k1 _ h
      · replace h := fm_itn c103 h
        refine fl_aload0 (pc := 106) dX10_starts_106 ?_
        refine fm_getr (pc := 107) lk_10_37 sh_76 rfl dX10_starts_107 ?_
        refine fl_iload2 (pc := 110) dX10_starts_110 ?_
        obtain ⟨g25, h⟩ := fm_gdp h
        refine fm_iald (pc := 111) sh_86 (fm_inb_ok g25) dX10_starts_111 ?_
        refine fm_goto (pc := 112) 116 (by decide) dX10_starts_112 ?_
        exact jn_X10_starts_116 _ _ _ _ _  ih k1 _ h
theorem sp_X10_starts {d : Nat} {a1 : Int32} {M : fm_M} {x : Unit × fm_M} {Q : Option Value → fm_M → Prop} (h : F_X10_starts a1 M = some x) (hq : Q none x.2) : fm_ct d mX10_starts [.ref 76, .int a1] M Q := by
  rw [F_X10_starts] at h
  show fm_mw d mX10_starts Q 0 [some (.ref 76), some (.int a1), none] [] M
  refine fl_aload0 (pc := 0) dX10_starts_0 ?_
  refine fm_getr (pc := 1) lk_10_66 sh_76 rfl dX10_starts_1 ?_
  refine fl_iload1 (pc := 4) dX10_starts_4 ?_
  refine fm_iconstv (pc := 5) 0 (by decide) dX10_starts_5 ?_
  obtain ⟨g1, h⟩ := fm_gdp h
  refine fm_iast (pc := 6) sh_94 (fm_inb_ok g1) dX10_starts_6 ?_
  obtain ⟨M2, eM2, h⟩ := fm_ltp h
  refine fm_cgm eM2 ?_
  refine fl_aload0 (pc := 7) dX10_starts_7 ?_
  refine fm_getr (pc := 8) lk_10_69 sh_76 rfl dX10_starts_8 ?_
  refine fl_iload1 (pc := 11) dX10_starts_11 ?_
  refine fl_aload0 (pc := 12) dX10_starts_12 ?_
  refine fm_getr (pc := 13) lk_10_13 sh_76 rfl dX10_starts_13 ?_
  refine fm_iconstv (pc := 16) 4 (by decide) dX10_starts_16 ?_
  obtain ⟨g3, h⟩ := fm_gdp h
  refine fm_iald (pc := 17) sh_78 (fm_inb_ok g3) dX10_starts_17 ?_
  obtain ⟨g4, h⟩ := fm_gdp h
  refine fm_iast (pc := 18) sh_95 (fm_inb_ok g4) dX10_starts_18 ?_
  obtain ⟨M5, eM5, h⟩ := fm_ltp h
  refine fm_cgm eM5 ?_
  refine fl_aload0 (pc := 19) dX10_starts_19 ?_
  refine fm_getr (pc := 20) lk_10_72 sh_76 rfl dX10_starts_20 ?_
  refine fl_iload1 (pc := 23) dX10_starts_23 ?_
  refine fm_iconstv (pc := 24) 0 (by decide) dX10_starts_24 ?_
  obtain ⟨g6, h⟩ := fm_gdp h
  refine fm_iast (pc := 25) sh_96 (fm_inb_ok g6) dX10_starts_25 ?_
  obtain ⟨M7, eM7, h⟩ := fm_ltp h
  refine fm_cgm eM7 ?_
  refine fl_aload0 (pc := 26) dX10_starts_26 ?_
  refine fm_getr (pc := 27) lk_10_75 sh_76 rfl dX10_starts_27 ?_
  refine fl_iload1 (pc := 30) dX10_starts_30 ?_
  refine fm_iconstv (pc := 31) 0 (by decide) dX10_starts_31 ?_
  obtain ⟨g8, h⟩ := fm_gdp h
  refine fm_iast (pc := 32) sh_97 (fm_inb_ok g8) dX10_starts_32 ?_
  obtain ⟨M9, eM9, h⟩ := fm_ltp h
  refine fm_cgm eM9 ?_
  refine fm_iconstv (pc := 33) 0 (by decide) dX10_starts_33 ?_
  refine fl_istore2 (pc := 34) rfl (by decide) dX10_starts_34 ?_
  obtain ⟨w16, M17, ew16, h⟩ := fm_bdp h
  refine lp_X10_starts_35  ?_ _ _ _ ew16
  intro w169 M179 q9
  cases q9
  refine fm_iconstv (pc := 78) 0 (by decide) dX10_starts_78 ?_
  refine fl_istore2 (pc := 79) rfl (by decide) dX10_starts_79 ?_
  obtain ⟨w26, M27, ew26, h⟩ := fm_bdp h
  refine lp_X10_starts_80  ?_ _ _ _ ew26
  intro w269 M279 q9
  cases q9
  refine fm_vret (pc := 147) rfl ?_ dX10_starts_147
  cases h
  exact hq
