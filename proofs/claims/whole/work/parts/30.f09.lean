/-! X10_swing -/
def G_X10_swing_68 : Nat → Int32 → Int32 → Int32 → Int32 → Int32 → Int32 → Int32 → fm_M → Option ((Int32 × Int32) × fm_M)
  | 0, _, _, _, _, _, _, _, _ => none
  | n + 1, l1, l2, l3, l4, l5, l6, l7, M =>
    fm_gd (fm_inb 0 20) (
    if (M.1 78 (Int32.toNatClampNeg 0)) ≤ l7 then (
      some ((l6, l7), M)
    ) else (
      if ((l5 >>> (l7 &&& 31)) &&& 1) = 1 then (
        fm_bd (F_X10_humOf 0 l7 l2 M) (fun v11 M12 =>
        fm_lt ((l6 + v11)) (fun x13 =>
        G_X10_swing_68 n l1 l2 l3 l4 l5 x13 (l7 + 1) M12))
      ) else (
        fm_lt ((l6 + 0)) (fun x10 =>
        G_X10_swing_68 n l1 l2 l3 l4 l5 x10 (l7 + 1) M)
      )
    ))
def G_X10_swing_36 : Nat → Int32 → Int32 → Int32 → Int32 → Int32 → fm_M → Option ((Int32 × Int32) × fm_M)
  | 0, _, _, _, _, _, _ => none
  | n + 1, l1, l2, l3, l4, l5, M =>
    fm_gd (fm_inb 0 20) (
    if (1 <<< ((M.1 78 (Int32.toNatClampNeg 0)) &&& 31)) ≤ l5 then (
      some ((l4, l5), M)
    ) else (
      if ((l5 >>> (l1 &&& 31)) &&& 1) = 1 then (
        G_X10_swing_36 n l1 l2 l3 l4 (l5 + 1) M
      ) else (
        fm_bd (G_X10_swing_68 fm_fuel l1 l2 l3 l4 l5 0 0 M) (fun w14 M15 =>
          fm_gd (fm_inb 2 20) (
          if (M15.1 78 (Int32.toNatClampNeg 2)) ≤ w14.1 then (
            fm_lt ((l4 + 0)) (fun x17 =>
            G_X10_swing_36 n l1 l2 l3 x17 (l5 + 1) M15)
          ) else (
            fm_gd (fm_inb 2 20) (
            if (w14.1 + l3) < (M15.1 78 (Int32.toNatClampNeg 2)) then (
              fm_lt ((l4 + 0)) (fun x19 =>
              G_X10_swing_36 n l1 l2 l3 x19 (l5 + 1) M15)
            ) else (
              fm_lt ((l4 + 1)) (fun x20 =>
              G_X10_swing_36 n l1 l2 l3 x20 (l5 + 1) M15)
            ))
          )))
      )
    ))
def F_X10_swing (a1 : Int32) (a2 : Int32) (M : fm_M) : Option (Int32 × fm_M) :=
    fm_lt (fm_up M 76 0 0) (fun M1 =>
    fm_bd (F_X10_isFork a1 M1) (fun v2 M3 =>
    if v2 = 0 then (
      some ((-1), M3)
    ) else (
      fm_bd (F_X10_isNote a2 M3) (fun v4 M5 =>
      if v4 = 0 then (
        some ((-1), M5)
      ) else (
        fm_bd (F_X10_humOf 0 a1 a2 M5) (fun v6 M7 =>
        fm_bd (G_X10_swing_36 fm_fuel a1 a2 v6 0 0 M7) (fun w21 M22 =>
          some (w21.1, M22)))
      ))
    )))
theorem lp_X10_swing_68 {d : Nat} {Q : Option Value → fm_M → Prop} {l1 : Int32} {l2 : Int32} {l3 : Int32} {l4 : Int32} {l5 : Int32}   {x : (Int32 × Int32) × fm_M} (k1 : ∀ (v : Int32 × Int32) (M2 : fm_M), x = (v, M2) → fm_mw (d + 7) mX10_swing Q 113 [some (.ref 76), some (.int l1), some (.int l2), some (.int l3), some (.int l4), some (.int l5), some (.int v.1), some (.int v.2)] [] M2) : ∀ (n : Nat) (l6 : Int32) (l7 : Int32) (M : fm_M), G_X10_swing_68 n l1 l2 l3 l4 l5 l6 l7 M = some x → fm_mw (d + 7) mX10_swing Q 68 [some (.ref 76), some (.int l1), some (.int l2), some (.int l3), some (.int l4), some (.int l5), some (.int l6), some (.int l7)] [] M := by
  intro n
  induction n with
  | zero => intro l6 l7 M h; simp [G_X10_swing_68] at h
  | succ n ih =>
    intro l6 l7 M h
    rw [G_X10_swing_68] at h
    refine fl_iload7 (pc := 68) dX10_swing_68 ?_
    refine fl_aload0 (pc := 70) dX10_swing_70 ?_
    refine fm_getr (pc := 71) lk_10_13 sh_76 rfl dX10_swing_71 ?_
    refine fm_iconstv (pc := 74) 0 (by decide) dX10_swing_74 ?_
    obtain ⟨g9, h⟩ := fm_gdp h
    refine fm_iald (pc := 75) sh_78 (fm_inb_ok g9) dX10_swing_75 ?_
    refine fm_icmp_ge (pc := 76) 113 (by decide) dX10_swing_76 (fun c76 => ?_) (fun c76 => ?_)
    · replace h := fm_itp c76 h
      refine fm_fgt [some (.ref 76), some (.int l1), some (.int l2), some (.int l3), some (.int l4), some (.int l5), some (.int l6), some (.int l7)] (by simp [fm_sub]) ?_
      cases h
      exact k1 _ _ rfl
    · replace h := fm_itn c76 h
      refine fl_iload6 (pc := 79) dX10_swing_79 ?_
      refine fl_iload5 (pc := 81) dX10_swing_81 ?_
      refine fl_iload7 (pc := 83) dX10_swing_83 ?_
      refine fm_ishr (pc := 85) dX10_swing_85 ?_
      refine fm_iconstv (pc := 86) 1 (by decide) dX10_swing_86 ?_
      refine fm_iand (pc := 87) dX10_swing_87 ?_
      refine fm_iconstv (pc := 88) 1 (by decide) dX10_swing_88 ?_
      refine fm_icmp_ne (pc := 89) 103 (by decide) dX10_swing_89 (fun c89 => ?_) (fun c89 => ?_)
      · replace h := fm_itn c89 h
        refine fm_iconstv (pc := 103) 0 (by decide) dX10_swing_103 ?_
        refine fm_iadd (pc := 104) dX10_swing_104 ?_
        obtain ⟨x10, ex10, h⟩ := fm_ltp h
        refine fm_cgi ex10 ?_
        refine fl_istore6 (pc := 105) rfl (by decide) dX10_swing_105 ?_
        refine fl_iinc7 (pc := 107) rfl 1 (by decide) (by decide) dX10_swing_107 ?_
        refine fm_goto (pc := 110) 68 (by decide) dX10_swing_110 ?_
        refine fm_fgt [some (.ref 76), some (.int l1), some (.int l2), some (.int l3), some (.int l4), some (.int l5), some (.int x10), some (.int (l7 + 1))] (by simp [fm_sub]) ?_
        exact ih _ _ _ h
      · replace h := fm_itp c89 h
        refine fl_aload0 (pc := 92) dX10_swing_92 ?_
        refine fm_iconstv (pc := 93) 0 (by decide) dX10_swing_93 ?_
        refine fl_iload7 (pc := 94) dX10_swing_94 ?_
        refine fl_iload2 (pc := 96) dX10_swing_96 ?_
        obtain ⟨v11, M12, ev11, h⟩ := fm_bdp h
        refine fm_callV (pc := 97) mX10_humOf [_, _, _] _ rfl cvX10_humOf ml_10_382 sh_76 rfl rfl (Nat.le_of_ble_eq_true rfl) (Nat.le_of_ble_eq_true rfl) dX10_swing_97 ?_
        refine sp_X10_humOf ev11 ?_
        refine fm_ret1 ?_
        refine fm_goto (pc := 100) 104 (by decide) dX10_swing_100 ?_
        refine fm_iadd (pc := 104) dX10_swing_104 ?_
        obtain ⟨x13, ex13, h⟩ := fm_ltp h
        refine fm_cgi ex13 ?_
        refine fl_istore6 (pc := 105) rfl (by decide) dX10_swing_105 ?_
        refine fl_iinc7 (pc := 107) rfl 1 (by decide) (by decide) dX10_swing_107 ?_
        refine fm_goto (pc := 110) 68 (by decide) dX10_swing_110 ?_
        refine fm_fgt [some (.ref 76), some (.int l1), some (.int l2), some (.int l3), some (.int l4), some (.int l5), some (.int x13), some (.int (l7 + 1))] (by simp [fm_sub]) ?_
        exact ih _ _ _ h
theorem lp_X10_swing_36 {d : Nat} {Q : Option Value → fm_M → Prop} {l1 : Int32} {l2 : Int32} {l3 : Int32}   {x : (Int32 × Int32) × fm_M} (k1 : ∀ (v : Int32 × Int32) (M2 : fm_M), x = (v, M2) → fm_mw (d + 7) mX10_swing Q 153 [some (.ref 76), some (.int l1), some (.int l2), some (.int l3), some (.int v.1), some (.int v.2), none, none] [] M2) : ∀ (n : Nat) (l4 : Int32) (l5 : Int32) (M : fm_M), G_X10_swing_36 n l1 l2 l3 l4 l5 M = some x → fm_mw (d + 7) mX10_swing Q 36 [some (.ref 76), some (.int l1), some (.int l2), some (.int l3), some (.int l4), some (.int l5), none, none] [] M := by
  intro n
  induction n with
  | zero => intro l4 l5 M h; simp [G_X10_swing_36] at h
  | succ n ih =>
    intro l4 l5 M h
    rw [G_X10_swing_36] at h
    refine fl_iload5 (pc := 36) dX10_swing_36 ?_
    refine fm_iconstv (pc := 38) 1 (by decide) dX10_swing_38 ?_
    refine fl_aload0 (pc := 39) dX10_swing_39 ?_
    refine fm_getr (pc := 40) lk_10_13 sh_76 rfl dX10_swing_40 ?_
    refine fm_iconstv (pc := 43) 0 (by decide) dX10_swing_43 ?_
    obtain ⟨g8, h⟩ := fm_gdp h
    refine fm_iald (pc := 44) sh_78 (fm_inb_ok g8) dX10_swing_44 ?_
    refine fm_ishl (pc := 45) dX10_swing_45 ?_
    refine fm_icmp_ge (pc := 46) 153 (by decide) dX10_swing_46 (fun c46 => ?_) (fun c46 => ?_)
    · replace h := fm_itp c46 h
      refine fm_fgt [some (.ref 76), some (.int l1), some (.int l2), some (.int l3), some (.int l4), some (.int l5), none, none] (by simp [fm_sub]) ?_
      cases h
      exact k1 _ _ rfl
    · replace h := fm_itn c46 h
      refine fl_iload5 (pc := 49) dX10_swing_49 ?_
      refine fl_iload1 (pc := 51) dX10_swing_51 ?_
      refine fm_ishr (pc := 52) dX10_swing_52 ?_
      refine fm_iconstv (pc := 53) 1 (by decide) dX10_swing_53 ?_
      refine fm_iand (pc := 54) dX10_swing_54 ?_
      refine fm_iconstv (pc := 55) 1 (by decide) dX10_swing_55 ?_
      refine fm_icmp_ne (pc := 56) 62 (by decide) dX10_swing_56 (fun c56 => ?_) (fun c56 => ?_)
      · replace h := fm_itn c56 h
        refine fm_iconstv (pc := 62) 0 (by decide) dX10_swing_62 ?_
        refine fl_istore6 (pc := 63) rfl (by decide) dX10_swing_63 ?_
        refine fm_iconstv (pc := 65) 0 (by decide) dX10_swing_65 ?_
        refine fl_istore7 (pc := 66) rfl (by decide) dX10_swing_66 ?_
        obtain ⟨w14, M15, ew14, h⟩ := fm_bdp h
        refine lp_X10_swing_68  ?_ _ _ _ _ ew14
        intro w149 M159 q9
        cases q9
        refine fl_iload4 (pc := 113) dX10_swing_113 ?_
        refine fl_iload6 (pc := 115) dX10_swing_115 ?_
        refine fl_aload0 (pc := 117) dX10_swing_117 ?_
        refine fm_getr (pc := 118) lk_10_13 sh_76 rfl dX10_swing_118 ?_
        refine fm_iconstv (pc := 121) 2 (by decide) dX10_swing_121 ?_
        obtain ⟨g16, h⟩ := fm_gdp h
        refine fm_iald (pc := 122) sh_78 (fm_inb_ok g16) dX10_swing_122 ?_
        refine fm_icmp_ge (pc := 123) 143 (by decide) dX10_swing_123 (fun c123 => ?_) (fun c123 => ?_)
        · replace h := fm_itp c123 h
          refine fm_iconstv (pc := 143) 0 (by decide) dX10_swing_143 ?_
          refine fm_iadd (pc := 144) dX10_swing_144 ?_
          obtain ⟨x17, ex17, h⟩ := fm_ltp h
          refine fm_cgi ex17 ?_
          refine fl_istore4 (pc := 145) rfl (by decide) dX10_swing_145 ?_
          refine fl_iinc5 (pc := 147) rfl 1 (by decide) (by decide) dX10_swing_147 ?_
          refine fm_goto (pc := 150) 36 (by decide) dX10_swing_150 ?_
          refine fm_fgt [some (.ref 76), some (.int l1), some (.int l2), some (.int l3), some (.int x17), some (.int (l5 + 1)), none, none] (by simp [fm_sub]) ?_
          exact ih _ _ _ h
        · replace h := fm_itn c123 h
          refine fl_iload6 (pc := 126) dX10_swing_126 ?_
          refine fl_iload3 (pc := 128) dX10_swing_128 ?_
          refine fm_iadd (pc := 129) dX10_swing_129 ?_
          refine fl_aload0 (pc := 130) dX10_swing_130 ?_
          refine fm_getr (pc := 131) lk_10_13 sh_76 rfl dX10_swing_131 ?_
          refine fm_iconstv (pc := 134) 2 (by decide) dX10_swing_134 ?_
          obtain ⟨g18, h⟩ := fm_gdp h
          refine fm_iald (pc := 135) sh_78 (fm_inb_ok g18) dX10_swing_135 ?_
          refine fm_icmp_lt (pc := 136) 143 (by decide) dX10_swing_136 (fun c136 => ?_) (fun c136 => ?_)
          · replace h := fm_itp c136 h
            refine fm_iconstv (pc := 143) 0 (by decide) dX10_swing_143 ?_
            refine fm_iadd (pc := 144) dX10_swing_144 ?_
            obtain ⟨x19, ex19, h⟩ := fm_ltp h
            refine fm_cgi ex19 ?_
            refine fl_istore4 (pc := 145) rfl (by decide) dX10_swing_145 ?_
            refine fl_iinc5 (pc := 147) rfl 1 (by decide) (by decide) dX10_swing_147 ?_
            refine fm_goto (pc := 150) 36 (by decide) dX10_swing_150 ?_
            refine fm_fgt [some (.ref 76), some (.int l1), some (.int l2), some (.int l3), some (.int x19), some (.int (l5 + 1)), none, none] (by simp [fm_sub]) ?_
            exact ih _ _ _ h
          · replace h := fm_itn c136 h
            refine fm_iconstv (pc := 139) 1 (by decide) dX10_swing_139 ?_
            refine fm_goto (pc := 140) 144 (by decide) dX10_swing_140 ?_
            refine fm_iadd (pc := 144) dX10_swing_144 ?_
            obtain ⟨x20, ex20, h⟩ := fm_ltp h
            refine fm_cgi ex20 ?_
            refine fl_istore4 (pc := 145) rfl (by decide) dX10_swing_145 ?_
            refine fl_iinc5 (pc := 147) rfl 1 (by decide) (by decide) dX10_swing_147 ?_
            refine fm_goto (pc := 150) 36 (by decide) dX10_swing_150 ?_
            refine fm_fgt [some (.ref 76), some (.int l1), some (.int l2), some (.int l3), some (.int x20), some (.int (l5 + 1)), none, none] (by simp [fm_sub]) ?_
            exact ih _ _ _ h
      · replace h := fm_itp c56 h
        refine fm_goto (pc := 59) 147 (by decide) dX10_swing_59 ?_
        refine fl_iinc5 (pc := 147) rfl 1 (by decide) (by decide) dX10_swing_147 ?_
        refine fm_goto (pc := 150) 36 (by decide) dX10_swing_150 ?_
        refine fm_fgt [some (.ref 76), some (.int l1), some (.int l2), some (.int l3), some (.int l4), some (.int (l5 + 1)), none, none] (by simp [fm_sub]) ?_
        exact ih _ _ _ h
theorem sp_X10_swing {d : Nat} {a1 : Int32} {a2 : Int32} {M : fm_M} {x : Int32 × fm_M} {Q : Option Value → fm_M → Prop} (h : F_X10_swing a1 a2 M = some x) (hq : Q (some (.int x.1)) x.2) : fm_ct (d + 7) mX10_swing [.ref 76, .int a1, .int a2] M Q := by
  rw [F_X10_swing] at h
  show fm_mw (d + 7) mX10_swing Q 0 [some (.ref 76), some (.int a1), some (.int a2), none, none, none, none, none] [] M
  refine fl_aload0 (pc := 0) dX10_swing_0 ?_
  refine fm_iconstv (pc := 1) 0 (by decide) dX10_swing_1 ?_
  refine fm_puti (pc := 2) lp_10_130 sh_76 rfl dX10_swing_2 ?_
  obtain ⟨M1, eM1, h⟩ := fm_ltp h
  refine fm_cgm eM1 ?_
  refine fl_aload0 (pc := 5) dX10_swing_5 ?_
  refine fl_iload1 (pc := 6) dX10_swing_6 ?_
  obtain ⟨v2, M3, ev2, h⟩ := fm_bdp h
  refine fm_callV (pc := 7) mX10_isFork [_] _ rfl cvX10_isFork ml_10_404 sh_76 rfl rfl (Nat.le_of_ble_eq_true rfl) (Nat.le_of_ble_eq_true rfl) dX10_swing_7 ?_
  refine sp_X10_isFork ev2 ?_
  refine fm_ret1 ?_
  refine fm_if_eq (pc := 10) 20 (by decide) dX10_swing_10 (fun c10 => ?_) (fun c10 => ?_)
  · replace h := fm_itp c10 h
    refine fm_iconstv (pc := 20) (-1) (by decide) dX10_swing_20 ?_
    refine fm_iret (pc := 21) rfl ?_ dX10_swing_21
    cases h
    exact hq
  · replace h := fm_itn c10 h
    refine fl_iload2 (pc := 13) dX10_swing_13 ?_
    obtain ⟨v4, M5, ev4, h⟩ := fm_bdp h
    refine fm_callS (pc := 14) mX10_isNote [_] _ rfl csX10_isNote ml_10_407 rfl (Nat.le_of_ble_eq_true rfl) (Nat.le_of_ble_eq_true rfl) dX10_swing_14 ?_
    refine sp_X10_isNote ev4 ?_
    refine fm_ret1 ?_
    refine fm_if_ne (pc := 17) 22 (by decide) dX10_swing_17 (fun c17 => ?_) (fun c17 => ?_)
    · replace h := fm_itn c17 h
      refine fl_aload0 (pc := 22) dX10_swing_22 ?_
      refine fm_iconstv (pc := 23) 0 (by decide) dX10_swing_23 ?_
      refine fl_iload1 (pc := 24) dX10_swing_24 ?_
      refine fl_iload2 (pc := 25) dX10_swing_25 ?_
      obtain ⟨v6, M7, ev6, h⟩ := fm_bdp h
      refine fm_callV (pc := 26) mX10_humOf [_, _, _] _ rfl cvX10_humOf ml_10_382 sh_76 rfl rfl (Nat.le_of_ble_eq_true rfl) (Nat.le_of_ble_eq_true rfl) dX10_swing_26 ?_
      refine sp_X10_humOf ev6 ?_
      refine fm_ret1 ?_
      refine fl_istore3 (pc := 29) rfl (by decide) dX10_swing_29 ?_
      refine fm_iconstv (pc := 30) 0 (by decide) dX10_swing_30 ?_
      refine fl_istore4 (pc := 31) rfl (by decide) dX10_swing_31 ?_
      refine fm_iconstv (pc := 33) 0 (by decide) dX10_swing_33 ?_
      refine fl_istore5 (pc := 34) rfl (by decide) dX10_swing_34 ?_
      obtain ⟨w21, M22, ew21, h⟩ := fm_bdp h
      refine lp_X10_swing_36  ?_ _ _ _ _ ew21
      intro w219 M229 q9
      cases q9
      refine fl_iload4 (pc := 153) dX10_swing_153 ?_
      refine fm_iret (pc := 155) rfl ?_ dX10_swing_155
      cases h
      exact hq
    · replace h := fm_itp c17 h
      refine fm_iconstv (pc := 20) (-1) (by decide) dX10_swing_20 ?_
      refine fm_iret (pc := 21) rfl ?_ dX10_swing_21
      cases h
      exact hq
/-! X10_bitsOf -/
def G_X10_bitsOf_4 : Nat → Int32 → Int32 → Int32 → fm_M → Option ((Int32 × Int32) × fm_M)
  | 0, _, _, _, _ => none
  | n + 1, l0, l1, l2, M =>
    if 10 ≤ l2 then (
      some ((l1, l2), M)
    ) else (
      fm_lt ((l1 + ((l0 >>> (l2 &&& 31)) &&& 1))) (fun x1 =>
      G_X10_bitsOf_4 n l0 x1 (l2 + 1) M)
    )
def F_X10_bitsOf (a0 : Int32) (M : fm_M) : Option (Int32 × fm_M) :=
    fm_bd (G_X10_bitsOf_4 fm_fuel a0 0 0 M) (fun w2 M3 =>
      some (w2.1, M3))
theorem lp_X10_bitsOf_4 {d : Nat} {Q : Option Value → fm_M → Prop} {l0 : Int32}   {x : (Int32 × Int32) × fm_M} (k1 : ∀ (v : Int32 × Int32) (M2 : fm_M), x = (v, M2) → fm_mw d mX10_bitsOf Q 24 [some (.int l0), some (.int v.1), some (.int v.2)] [] M2) : ∀ (n : Nat) (l1 : Int32) (l2 : Int32) (M : fm_M), G_X10_bitsOf_4 n l0 l1 l2 M = some x → fm_mw d mX10_bitsOf Q 4 [some (.int l0), some (.int l1), some (.int l2)] [] M := by
  intro n
  induction n with
  | zero => intro l1 l2 M h; simp [G_X10_bitsOf_4] at h
  | succ n ih =>
    intro l1 l2 M h
    rw [G_X10_bitsOf_4] at h
    refine fl_iload2 (pc := 4) dX10_bitsOf_4 ?_
    refine fm_bipushv (pc := 5) 10 (by decide) dX10_bitsOf_5 ?_
    refine fm_icmp_ge (pc := 7) 24 (by decide) dX10_bitsOf_7 (fun c7 => ?_) (fun c7 => ?_)
    · replace h := fm_itp c7 h
      refine fm_fgt [some (.int l0), some (.int l1), some (.int l2)] (by simp [fm_sub]) ?_
      cases h
      exact k1 _ _ rfl
    · replace h := fm_itn c7 h
      refine fl_iload1 (pc := 10) dX10_bitsOf_10 ?_
      refine fl_iload0 (pc := 11) dX10_bitsOf_11 ?_
      refine fl_iload2 (pc := 12) dX10_bitsOf_12 ?_
      refine fm_ishr (pc := 13) dX10_bitsOf_13 ?_
      refine fm_iconstv (pc := 14) 1 (by decide) dX10_bitsOf_14 ?_
      refine fm_iand (pc := 15) dX10_bitsOf_15 ?_
      refine fm_iadd (pc := 16) dX10_bitsOf_16 ?_
      obtain ⟨x1, ex1, h⟩ := fm_ltp h
      refine fm_cgi ex1 ?_
      refine fl_istore1 (pc := 17) rfl (by decide) dX10_bitsOf_17 ?_
      refine fl_iinc2 (pc := 18) rfl 1 (by decide) (by decide) dX10_bitsOf_18 ?_
      refine fm_goto (pc := 21) 4 (by decide) dX10_bitsOf_21 ?_
      refine fm_fgt [some (.int l0), some (.int x1), some (.int (l2 + 1))] (by simp [fm_sub]) ?_
      exact ih _ _ _ h
theorem sp_X10_bitsOf {d : Nat} {a0 : Int32} {M : fm_M} {x : Int32 × fm_M} {Q : Option Value → fm_M → Prop} (h : F_X10_bitsOf a0 M = some x) (hq : Q (some (.int x.1)) x.2) : fm_ct d mX10_bitsOf [.int a0] M Q := by
  rw [F_X10_bitsOf] at h
  show fm_mw d mX10_bitsOf Q 0 [some (.int a0), none, none] [] M
  refine fm_iconstv (pc := 0) 0 (by decide) dX10_bitsOf_0 ?_
  refine fl_istore1 (pc := 1) rfl (by decide) dX10_bitsOf_1 ?_
  refine fm_iconstv (pc := 2) 0 (by decide) dX10_bitsOf_2 ?_
  refine fl_istore2 (pc := 3) rfl (by decide) dX10_bitsOf_3 ?_
  obtain ⟨w2, M3, ew2, h⟩ := fm_bdp h
  refine lp_X10_bitsOf_4  ?_ _ _ _ _ ew2
  intro w29 M39 q9
  cases q9
  refine fl_iload1 (pc := 24) dX10_bitsOf_24 ?_
  refine fm_iret (pc := 25) rfl ?_ dX10_bitsOf_25
  cases h
  exact hq
/-! X10_censure -/
def G_X10_censure_55 : Nat → Int32 → Int32 → Int32 → Int32 → Int32 → fm_M → Option ((Int32 × Int32) × fm_M)
  | 0, _, _, _, _, _, _ => none
  | n + 1, l1, l2, l3, l4, l5, M =>
    fm_gd (fm_inb 0 20) (
    if (M.1 78 (Int32.toNatClampNeg 0)) ≤ l5 then (
      some ((l4, l5), M)
    ) else (
      if ((l3 >>> (l5 &&& 31)) &&& 1) = 0 then (
        fm_bd (F_X10_humOf 0 l5 l1 M) (fun v7 M8 =>
        fm_lt ((l4 + v7)) (fun x9 =>
        G_X10_censure_55 n l1 l2 l3 x9 (l5 + 1) M8))
      ) else (
        fm_lt ((l4 + 0)) (fun x6 =>
        G_X10_censure_55 n l1 l2 l3 x6 (l5 + 1) M)
      )
    ))
def J_X10_censure_49 (rec : Int32 → Int32 → fm_M → Option ((Int32 × Int32) × fm_M)) (l1 : Int32) (l2 : Int32) (l3 : Int32) (M : fm_M) : Option ((Int32 × Int32) × fm_M) :=
    fm_bd (G_X10_censure_55 fm_fuel l1 l2 l3 0 0 M) (fun w10 M11 =>
      fm_bd (F_X10_passes 0 l1 w10.1 M11) (fun v12 M13 =>
      if v12 = 0 then (
        rec l3 (l3 + 1) M13
      ) else (
        rec l2 (l3 + 1) M13
      )))
def G_X10_censure_19 : Nat → Int32 → Int32 → Int32 → fm_M → Option ((Int32 × Int32) × fm_M)
  | 0, _, _, _, _ => none
  | n + 1, l1, l2, l3, M =>
    fm_gd (fm_inb 0 20) (
    if (1 <<< ((M.1 78 (Int32.toNatClampNeg 0)) &&& 31)) ≤ l3 then (
      some ((l2, l3), M)
    ) else (
      if l2 < 0 then (
        J_X10_censure_49 (G_X10_censure_19 n l1) l1 l2 l3 M
      ) else (
        fm_bd (F_X10_bitsOf l3 M) (fun v14 M15 =>
        fm_bd (F_X10_bitsOf l2 M15) (fun v16 M17 =>
        if v14 < v16 then (
          J_X10_censure_49 (G_X10_censure_19 n l1) l1 l2 l3 M17
        ) else (
          G_X10_censure_19 n l1 l2 (l3 + 1) M17
        )))
      )
    ))
def F_X10_censure (a1 : Int32) (M : fm_M) : Option (Int32 × fm_M) :=
    fm_lt (fm_up M 76 0 0) (fun M1 =>
    fm_bd (F_X10_isNote a1 M1) (fun v2 M3 =>
    if v2 = 0 then (
      some ((-1), M3)
    ) else (
      fm_bd (G_X10_censure_19 fm_fuel a1 (-2) 0 M3) (fun w18 M19 =>
        some (w18.1, M19))
    )))
theorem lp_X10_censure_55 {d : Nat} {Q : Option Value → fm_M → Prop} {l1 : Int32} {l2 : Int32} {l3 : Int32}   {x : (Int32 × Int32) × fm_M} (k1 : ∀ (v : Int32 × Int32) (M2 : fm_M), x = (v, M2) → fm_mw (d + 7) mX10_censure Q 98 [some (.ref 76), some (.int l1), some (.int l2), some (.int l3), some (.int v.1), some (.int v.2)] [] M2) : ∀ (n : Nat) (l4 : Int32) (l5 : Int32) (M : fm_M), G_X10_censure_55 n l1 l2 l3 l4 l5 M = some x → fm_mw (d + 7) mX10_censure Q 55 [some (.ref 76), some (.int l1), some (.int l2), some (.int l3), some (.int l4), some (.int l5)] [] M := by
  intro n
  induction n with
  | zero => intro l4 l5 M h; simp [G_X10_censure_55] at h
  | succ n ih =>
    intro l4 l5 M h
    rw [G_X10_censure_55] at h
    refine fl_iload5 (pc := 55) dX10_censure_55 ?_
    refine fl_aload0 (pc := 57) dX10_censure_57 ?_
    refine fm_getr (pc := 58) lk_10_13 sh_76 rfl dX10_censure_58 ?_
    refine fm_iconstv (pc := 61) 0 (by decide) dX10_censure_61 ?_
    obtain ⟨g5, h⟩ := fm_gdp h
    refine fm_iald (pc := 62) sh_78 (fm_inb_ok g5) dX10_censure_62 ?_
    refine fm_icmp_ge (pc := 63) 98 (by decide) dX10_censure_63 (fun c63 => ?_) (fun c63 => ?_)
    · replace h := fm_itp c63 h
      refine fm_fgt [some (.ref 76), some (.int l1), some (.int l2), some (.int l3), some (.int l4), some (.int l5)] (by simp [fm_sub]) ?_
      cases h
      exact k1 _ _ rfl
    · replace h := fm_itn c63 h
      refine fl_iload4 (pc := 66) dX10_censure_66 ?_
      refine fl_iload3 (pc := 68) dX10_censure_68 ?_
      refine fl_iload5 (pc := 69) dX10_censure_69 ?_
      refine fm_ishr (pc := 71) dX10_censure_71 ?_
      refine fm_iconstv (pc := 72) 1 (by decide) dX10_censure_72 ?_
      refine fm_iand (pc := 73) dX10_censure_73 ?_
      refine fm_if_ne (pc := 74) 88 (by decide) dX10_censure_74 (fun c74 => ?_) (fun c74 => ?_)
      · replace h := fm_itn c74 h
        refine fm_iconstv (pc := 88) 0 (by decide) dX10_censure_88 ?_
        refine fm_iadd (pc := 89) dX10_censure_89 ?_
        obtain ⟨x6, ex6, h⟩ := fm_ltp h
        refine fm_cgi ex6 ?_
        refine fl_istore4 (pc := 90) rfl (by decide) dX10_censure_90 ?_
        refine fl_iinc5 (pc := 92) rfl 1 (by decide) (by decide) dX10_censure_92 ?_
        refine fm_goto (pc := 95) 55 (by decide) dX10_censure_95 ?_
        refine fm_fgt [some (.ref 76), some (.int l1), some (.int l2), some (.int l3), some (.int x6), some (.int (l5 + 1))] (by simp [fm_sub]) ?_
        exact ih _ _ _ h
      · replace h := fm_itp c74 h
        refine fl_aload0 (pc := 77) dX10_censure_77 ?_
        refine fm_iconstv (pc := 78) 0 (by decide) dX10_censure_78 ?_
        refine fl_iload5 (pc := 79) dX10_censure_79 ?_
        refine fl_iload1 (pc := 81) dX10_censure_81 ?_
        obtain ⟨v7, M8, ev7, h⟩ := fm_bdp h
        refine fm_callV (pc := 82) mX10_humOf [_, _, _] _ rfl cvX10_humOf ml_10_382 sh_76 rfl rfl (Nat.le_of_ble_eq_true rfl) (Nat.le_of_ble_eq_true rfl) dX10_censure_82 ?_
        refine sp_X10_humOf ev7 ?_
        refine fm_ret1 ?_
        refine fm_goto (pc := 85) 89 (by decide) dX10_censure_85 ?_
        refine fm_iadd (pc := 89) dX10_censure_89 ?_
        obtain ⟨x9, ex9, h⟩ := fm_ltp h
        refine fm_cgi ex9 ?_
        refine fl_istore4 (pc := 90) rfl (by decide) dX10_censure_90 ?_
        refine fl_iinc5 (pc := 92) rfl 1 (by decide) (by decide) dX10_censure_92 ?_
        refine fm_goto (pc := 95) 55 (by decide) dX10_censure_95 ?_
        refine fm_fgt [some (.ref 76), some (.int l1), some (.int l2), some (.int l3), some (.int x9), some (.int (l5 + 1))] (by simp [fm_sub]) ?_
        exact ih _ _ _ h
theorem jn_X10_censure_49 {d : Nat} {Q : Option Value → fm_M → Prop} (rec : Int32 → Int32 → fm_M → Option ((Int32 × Int32) × fm_M))  (l1 : Int32) (l2 : Int32) (l3 : Int32) {x : (Int32 × Int32) × fm_M}  (ih : ∀ (l2 : Int32) (l3 : Int32) (M : fm_M), rec l2 l3 M = some x → fm_mw (d + 7) mX10_censure Q 19 [some (.ref 76), some (.int l1), some (.int l2), some (.int l3), none, none] [] M) (k1 : ∀ (v : Int32 × Int32) (M2 : fm_M), x = (v, M2) → fm_mw (d + 7) mX10_censure Q 117 [some (.ref 76), some (.int l1), some (.int v.1), some (.int v.2), none, none] [] M2) (M : fm_M) (h : J_X10_censure_49 rec l1 l2 l3 M = some x) : fm_mw (d + 7) mX10_censure Q 49 [some (.ref 76), some (.int l1), some (.int l2), some (.int l3), none, none] [] M := by
  rw [J_X10_censure_49] at h
  refine fm_iconstv (pc := 49) 0 (by decide) dX10_censure_49 ?_
  refine fl_istore4 (pc := 50) rfl (by decide) dX10_censure_50 ?_
  refine fm_iconstv (pc := 52) 0 (by decide) dX10_censure_52 ?_
  refine fl_istore5 (pc := 53) rfl (by decide) dX10_censure_53 ?_
  obtain ⟨w10, M11, ew10, h⟩ := fm_bdp h
  refine lp_X10_censure_55  ?_ _ _ _ _ ew10
  intro w109 M119 q9
  cases q9
  refine fl_aload0 (pc := 98) dX10_censure_98 ?_
  refine fm_iconstv (pc := 99) 0 (by decide) dX10_censure_99 ?_
  refine fl_iload1 (pc := 100) dX10_censure_100 ?_
  refine fl_iload4 (pc := 101) dX10_censure_101 ?_
  obtain ⟨v12, M13, ev12, h⟩ := fm_bdp h
  refine fm_callV (pc := 103) mX10_passes [_, _, _] _ rfl cvX10_passes ml_10_388 sh_76 rfl rfl (Nat.le_of_ble_eq_true rfl) (Nat.le_of_ble_eq_true rfl) dX10_censure_103 ?_
  refine sp_X10_passes ev12 ?_
  refine fm_ret1 ?_
  refine fm_if_ne (pc := 106) 111 (by decide) dX10_censure_106 (fun c106 => ?_) (fun c106 => ?_)
  · replace h := fm_itn c106 h
    refine fl_iinc3 (pc := 111) rfl 1 (by decide) (by decide) dX10_censure_111 ?_
    refine fm_goto (pc := 114) 19 (by decide) dX10_censure_114 ?_
    refine fm_fgt [some (.ref 76), some (.int l1), some (.int l2), some (.int (l3 + 1)), none, none] (by simp [fm_sub]) ?_
    exact ih _ _ _ h
  · replace h := fm_itp c106 h
    refine fl_iload3 (pc := 109) dX10_censure_109 ?_
    refine fl_istore2 (pc := 110) rfl (by decide) dX10_censure_110 ?_
    refine fl_iinc3 (pc := 111) rfl 1 (by decide) (by decide) dX10_censure_111 ?_
    refine fm_goto (pc := 114) 19 (by decide) dX10_censure_114 ?_
    refine fm_fgt [some (.ref 76), some (.int l1), some (.int l3), some (.int (l3 + 1)), none, none] (by simp [fm_sub]) ?_
    exact ih _ _ _ h
theorem lp_X10_censure_19 {d : Nat} {Q : Option Value → fm_M → Prop} {l1 : Int32}   {x : (Int32 × Int32) × fm_M} (k1 : ∀ (v : Int32 × Int32) (M2 : fm_M), x = (v, M2) → fm_mw (d + 7) mX10_censure Q 117 [some (.ref 76), some (.int l1), some (.int v.1), some (.int v.2), none, none] [] M2) : ∀ (n : Nat) (l2 : Int32) (l3 : Int32) (M : fm_M), G_X10_censure_19 n l1 l2 l3 M = some x → fm_mw (d + 7) mX10_censure Q 19 [some (.ref 76), some (.int l1), some (.int l2), some (.int l3), none, none] [] M := by
  intro n
  induction n with
  | zero => intro l2 l3 M h; simp [G_X10_censure_19] at h
  | succ n ih =>
    intro l2 l3 M h
    rw [G_X10_censure_19] at h
    refine fl_iload3 (pc := 19) dX10_censure_19 ?_
    refine fm_iconstv (pc := 20) 1 (by decide) dX10_censure_20 ?_
    refine fl_aload0 (pc := 21) dX10_censure_21 ?_
    refine fm_getr (pc := 22) lk_10_13 sh_76 rfl dX10_censure_22 ?_
    refine fm_iconstv (pc := 25) 0 (by decide) dX10_censure_25 ?_
    obtain ⟨g4, h⟩ := fm_gdp h
    refine fm_iald (pc := 26) sh_78 (fm_inb_ok g4) dX10_censure_26 ?_
    refine fm_ishl (pc := 27) dX10_censure_27 ?_
    refine fm_icmp_ge (pc := 28) 117 (by decide) dX10_censure_28 (fun c28 => ?_) (fun c28 => ?_)
    · replace h := fm_itp c28 h
      refine fm_fgt [some (.ref 76), some (.int l1), some (.int l2), some (.int l3), none, none] (by simp [fm_sub]) ?_
      cases h
      exact k1 _ _ rfl
    · replace h := fm_itn c28 h
      refine fl_iload2 (pc := 31) dX10_censure_31 ?_
      refine fm_if_lt (pc := 32) 49 (by decide) dX10_censure_32 (fun c32 => ?_) (fun c32 => ?_)
      · replace h := fm_itp c32 h
        exact jn_X10_censure_49 _ _ _ _  ih k1 _ h
      · replace h := fm_itn c32 h
        refine fl_iload3 (pc := 35) dX10_censure_35 ?_
        obtain ⟨v14, M15, ev14, h⟩ := fm_bdp h
        refine fm_callS (pc := 36) mX10_bitsOf [_] _ rfl csX10_bitsOf ml_10_438 rfl (Nat.le_of_ble_eq_true rfl) (Nat.le_of_ble_eq_true rfl) dX10_censure_36 ?_
        refine sp_X10_bitsOf ev14 ?_
        refine fm_ret1 ?_
        refine fl_iload2 (pc := 39) dX10_censure_39 ?_
        obtain ⟨v16, M17, ev16, h⟩ := fm_bdp h
        refine fm_callS (pc := 40) mX10_bitsOf [_] _ rfl csX10_bitsOf ml_10_438 rfl (Nat.le_of_ble_eq_true rfl) (Nat.le_of_ble_eq_true rfl) dX10_censure_40 ?_
        refine sp_X10_bitsOf ev16 ?_
        refine fm_ret1 ?_
        refine fm_icmp_lt (pc := 43) 49 (by decide) dX10_censure_43 (fun c43 => ?_) (fun c43 => ?_)
        · replace h := fm_itp c43 h
          exact jn_X10_censure_49 _ _ _ _  ih k1 _ h
        · replace h := fm_itn c43 h
          refine fm_goto (pc := 46) 111 (by decide) dX10_censure_46 ?_
          refine fl_iinc3 (pc := 111) rfl 1 (by decide) (by decide) dX10_censure_111 ?_
          refine fm_goto (pc := 114) 19 (by decide) dX10_censure_114 ?_
          refine fm_fgt [some (.ref 76), some (.int l1), some (.int l2), some (.int (l3 + 1)), none, none] (by simp [fm_sub]) ?_
          exact ih _ _ _ h
theorem sp_X10_censure {d : Nat} {a1 : Int32} {M : fm_M} {x : Int32 × fm_M} {Q : Option Value → fm_M → Prop} (h : F_X10_censure a1 M = some x) (hq : Q (some (.int x.1)) x.2) : fm_ct (d + 7) mX10_censure [.ref 76, .int a1] M Q := by
  rw [F_X10_censure] at h
  show fm_mw (d + 7) mX10_censure Q 0 [some (.ref 76), some (.int a1), none, none, none, none] [] M
  refine fl_aload0 (pc := 0) dX10_censure_0 ?_
  refine fm_iconstv (pc := 1) 0 (by decide) dX10_censure_1 ?_
  refine fm_puti (pc := 2) lp_10_130 sh_76 rfl dX10_censure_2 ?_
  obtain ⟨M1, eM1, h⟩ := fm_ltp h
  refine fm_cgm eM1 ?_
  refine fl_iload1 (pc := 5) dX10_censure_5 ?_
  obtain ⟨v2, M3, ev2, h⟩ := fm_bdp h
  refine fm_callS (pc := 6) mX10_isNote [_] _ rfl csX10_isNote ml_10_407 rfl (Nat.le_of_ble_eq_true rfl) (Nat.le_of_ble_eq_true rfl) dX10_censure_6 ?_
  refine sp_X10_isNote ev2 ?_
  refine fm_ret1 ?_
  refine fm_if_ne (pc := 9) 14 (by decide) dX10_censure_9 (fun c9 => ?_) (fun c9 => ?_)
  · replace h := fm_itn c9 h
    refine fm_bipushv (pc := 14) (-2) (by decide) dX10_censure_14 ?_
    refine fl_istore2 (pc := 16) rfl (by decide) dX10_censure_16 ?_
    refine fm_iconstv (pc := 17) 0 (by decide) dX10_censure_17 ?_
    refine fl_istore3 (pc := 18) rfl (by decide) dX10_censure_18 ?_
    obtain ⟨w18, M19, ew18, h⟩ := fm_bdp h
    refine lp_X10_censure_19  ?_ _ _ _ _ ew18
    intro w189 M199 q9
    cases q9
    refine fl_iload2 (pc := 117) dX10_censure_117 ?_
    refine fm_iret (pc := 118) rfl ?_ dX10_censure_118
    cases h
    exact hq
  · replace h := fm_itp c9 h
    refine fm_iconstv (pc := 12) (-1) (by decide) dX10_censure_12 ?_
    refine fm_iret (pc := 13) rfl ?_ dX10_censure_13
    cases h
    exact hq
/-! X10_party -/
def G_X10_party_28 : Nat → Int32 → Int32 → Int32 → Int32 → fm_M → Option ((Int32 × Int32) × fm_M)
  | 0, _, _, _, _, _ => none
  | n + 1, l1, l2, l3, l4, M =>
    fm_gd (fm_inb 0 20) (
    if (M.1 78 (Int32.toNatClampNeg 0)) ≤ l4 then (
      some ((l3, l4), M)
    ) else (
      fm_gd (fm_inb l4 16) (
      if (M.1 83 (Int32.toNatClampNeg l4)) = l1 then (
        fm_bd (F_X10_humOf 0 l4 l2 M) (fun v7 M8 =>
        fm_lt ((l3 + v7)) (fun x9 =>
        G_X10_party_28 n l1 l2 x9 (l4 + 1) M8))
      ) else (
        fm_lt ((l3 + 0)) (fun x6 =>
        G_X10_party_28 n l1 l2 x6 (l4 + 1) M)
      ))
    ))
def F_X10_party (a1 : Int32) (a2 : Int32) (M : fm_M) : Option (Int32 × fm_M) :=
    fm_lt (fm_up M 76 0 0) (fun M1 =>
    if a1 < 0 then (
      some ((-1), M1)
    ) else (
      if 3 < a1 then (
        some ((-1), M1)
      ) else (
        fm_bd (F_X10_isNote a2 M1) (fun v2 M3 =>
        if v2 = 0 then (
          some ((-1), M3)
        ) else (
          fm_bd (G_X10_party_28 fm_fuel a1 a2 0 0 M3) (fun w10 M11 =>
            some (w10.1, M11))
        ))
      )
    ))
theorem lp_X10_party_28 {d : Nat} {Q : Option Value → fm_M → Prop} {l1 : Int32} {l2 : Int32}   {x : (Int32 × Int32) × fm_M} (k1 : ∀ (v : Int32 × Int32) (M2 : fm_M), x = (v, M2) → fm_mw (d + 7) mX10_party Q 71 [some (.ref 76), some (.int l1), some (.int l2), some (.int v.1), some (.int v.2)] [] M2) : ∀ (n : Nat) (l3 : Int32) (l4 : Int32) (M : fm_M), G_X10_party_28 n l1 l2 l3 l4 M = some x → fm_mw (d + 7) mX10_party Q 28 [some (.ref 76), some (.int l1), some (.int l2), some (.int l3), some (.int l4)] [] M := by
  intro n
  induction n with
  | zero => intro l3 l4 M h; simp [G_X10_party_28] at h
  | succ n ih =>
    intro l3 l4 M h
    rw [G_X10_party_28] at h
    refine fl_iload4 (pc := 28) dX10_party_28 ?_
    refine fl_aload0 (pc := 30) dX10_party_30 ?_
    refine fm_getr (pc := 31) lk_10_13 sh_76 rfl dX10_party_31 ?_
    refine fm_iconstv (pc := 34) 0 (by decide) dX10_party_34 ?_
    obtain ⟨g4, h⟩ := fm_gdp h
    refine fm_iald (pc := 35) sh_78 (fm_inb_ok g4) dX10_party_35 ?_
    refine fm_icmp_ge (pc := 36) 71 (by decide) dX10_party_36 (fun c36 => ?_) (fun c36 => ?_)
    · replace h := fm_itp c36 h
      refine fm_fgt [some (.ref 76), some (.int l1), some (.int l2), some (.int l3), some (.int l4)] (by simp [fm_sub]) ?_
      cases h
      exact k1 _ _ rfl
    · replace h := fm_itn c36 h
      refine fl_iload3 (pc := 39) dX10_party_39 ?_
      refine fl_aload0 (pc := 40) dX10_party_40 ?_
      refine fm_getr (pc := 41) lk_10_28 sh_76 rfl dX10_party_41 ?_
      refine fl_iload4 (pc := 44) dX10_party_44 ?_
      obtain ⟨g5, h⟩ := fm_gdp h
      refine fm_iald (pc := 46) sh_83 (fm_inb_ok g5) dX10_party_46 ?_
      refine fl_iload1 (pc := 47) dX10_party_47 ?_
      refine fm_icmp_ne (pc := 48) 62 (by decide) dX10_party_48 (fun c48 => ?_) (fun c48 => ?_)
      · replace h := fm_itn c48 h
        refine fm_iconstv (pc := 62) 0 (by decide) dX10_party_62 ?_
        refine fm_iadd (pc := 63) dX10_party_63 ?_
        obtain ⟨x6, ex6, h⟩ := fm_ltp h
        refine fm_cgi ex6 ?_
        refine fl_istore3 (pc := 64) rfl (by decide) dX10_party_64 ?_
        refine fl_iinc4 (pc := 65) rfl 1 (by decide) (by decide) dX10_party_65 ?_
        refine fm_goto (pc := 68) 28 (by decide) dX10_party_68 ?_
        refine fm_fgt [some (.ref 76), some (.int l1), some (.int l2), some (.int x6), some (.int (l4 + 1))] (by simp [fm_sub]) ?_
        exact ih _ _ _ h
      · replace h := fm_itp c48 h
        refine fl_aload0 (pc := 51) dX10_party_51 ?_
        refine fm_iconstv (pc := 52) 0 (by decide) dX10_party_52 ?_
        refine fl_iload4 (pc := 53) dX10_party_53 ?_
        refine fl_iload2 (pc := 55) dX10_party_55 ?_
        obtain ⟨v7, M8, ev7, h⟩ := fm_bdp h
        refine fm_callV (pc := 56) mX10_humOf [_, _, _] _ rfl cvX10_humOf ml_10_382 sh_76 rfl rfl (Nat.le_of_ble_eq_true rfl) (Nat.le_of_ble_eq_true rfl) dX10_party_56 ?_
        refine sp_X10_humOf ev7 ?_
        refine fm_ret1 ?_
        refine fm_goto (pc := 59) 63 (by decide) dX10_party_59 ?_
        refine fm_iadd (pc := 63) dX10_party_63 ?_
        obtain ⟨x9, ex9, h⟩ := fm_ltp h
        refine fm_cgi ex9 ?_
        refine fl_istore3 (pc := 64) rfl (by decide) dX10_party_64 ?_
        refine fl_iinc4 (pc := 65) rfl 1 (by decide) (by decide) dX10_party_65 ?_
        refine fm_goto (pc := 68) 28 (by decide) dX10_party_68 ?_
        refine fm_fgt [some (.ref 76), some (.int l1), some (.int l2), some (.int x9), some (.int (l4 + 1))] (by simp [fm_sub]) ?_
        exact ih _ _ _ h
theorem sp_X10_party {d : Nat} {a1 : Int32} {a2 : Int32} {M : fm_M} {x : Int32 × fm_M} {Q : Option Value → fm_M → Prop} (h : F_X10_party a1 a2 M = some x) (hq : Q (some (.int x.1)) x.2) : fm_ct (d + 7) mX10_party [.ref 76, .int a1, .int a2] M Q := by
  rw [F_X10_party] at h
  show fm_mw (d + 7) mX10_party Q 0 [some (.ref 76), some (.int a1), some (.int a2), none, none] [] M
  refine fl_aload0 (pc := 0) dX10_party_0 ?_
  refine fm_iconstv (pc := 1) 0 (by decide) dX10_party_1 ?_
  refine fm_puti (pc := 2) lp_10_130 sh_76 rfl dX10_party_2 ?_
  obtain ⟨M1, eM1, h⟩ := fm_ltp h
  refine fm_cgm eM1 ?_
  refine fl_iload1 (pc := 5) dX10_party_5 ?_
  refine fm_if_lt (pc := 6) 21 (by decide) dX10_party_6 (fun c6 => ?_) (fun c6 => ?_)
  · replace h := fm_itp c6 h
    refine fm_iconstv (pc := 21) (-1) (by decide) dX10_party_21 ?_
    refine fm_iret (pc := 22) rfl ?_ dX10_party_22
    cases h
    exact hq
  · replace h := fm_itn c6 h
    refine fl_iload1 (pc := 9) dX10_party_9 ?_
    refine fm_iconstv (pc := 10) 3 (by decide) dX10_party_10 ?_
    refine fm_icmp_gt (pc := 11) 21 (by decide) dX10_party_11 (fun c11 => ?_) (fun c11 => ?_)
    · replace h := fm_itp c11 h
      refine fm_iconstv (pc := 21) (-1) (by decide) dX10_party_21 ?_
      refine fm_iret (pc := 22) rfl ?_ dX10_party_22
      cases h
      exact hq
    · replace h := fm_itn c11 h
      refine fl_iload2 (pc := 14) dX10_party_14 ?_
      obtain ⟨v2, M3, ev2, h⟩ := fm_bdp h
      refine fm_callS (pc := 15) mX10_isNote [_] _ rfl csX10_isNote ml_10_407 rfl (Nat.le_of_ble_eq_true rfl) (Nat.le_of_ble_eq_true rfl) dX10_party_15 ?_
      refine sp_X10_isNote ev2 ?_
      refine fm_ret1 ?_
      refine fm_if_ne (pc := 18) 23 (by decide) dX10_party_18 (fun c18 => ?_) (fun c18 => ?_)
      · replace h := fm_itn c18 h
        refine fm_iconstv (pc := 23) 0 (by decide) dX10_party_23 ?_
        refine fl_istore3 (pc := 24) rfl (by decide) dX10_party_24 ?_
        refine fm_iconstv (pc := 25) 0 (by decide) dX10_party_25 ?_
        refine fl_istore4 (pc := 26) rfl (by decide) dX10_party_26 ?_
        obtain ⟨w10, M11, ew10, h⟩ := fm_bdp h
        refine lp_X10_party_28  ?_ _ _ _ _ ew10
        intro w109 M119 q9
        cases q9
        refine fl_iload3 (pc := 71) dX10_party_71 ?_
        refine fm_iret (pc := 72) rfl ?_ dX10_party_72
        cases h
        exact hq
      · replace h := fm_itp c18 h
        refine fm_iconstv (pc := 21) (-1) (by decide) dX10_party_21 ?_
        refine fm_iret (pc := 22) rfl ?_ dX10_party_22
        cases h
        exact hq
/-! X10_heldPitch -/
def F_X10_heldPitch (a0 : Int32) (M : fm_M) : Option (Int32 × fm_M) :=
    some ((i_max 100 (i_min 999 a0)), M)
theorem sp_X10_heldPitch {d : Nat} {a0 : Int32} {M : fm_M} {x : Int32 × fm_M} {Q : Option Value → fm_M → Prop} (h : F_X10_heldPitch a0 M = some x) (hq : Q (some (.int x.1)) x.2) : fm_ct (d + 1) mX10_heldPitch [.int a0] M Q := by
  rw [F_X10_heldPitch] at h
  show fm_mw (d + 1) mX10_heldPitch Q 0 [some (.int a0)] [] M
  refine fm_bipushv (pc := 0) 100 (by decide) dX10_heldPitch_0 ?_
  refine fm_sipushv (pc := 2) 999 (by decide) dX10_heldPitch_2 ?_
  refine fl_iload0 (pc := 5) dX10_heldPitch_5 ?_
  refine fq_mmin (pc := 6) ml_10_336 (Nat.le_of_ble_eq_true rfl) dX10_heldPitch_6 ?_
  refine fq_mmax (pc := 9) ml_10_328 (Nat.le_of_ble_eq_true rfl) dX10_heldPitch_9 ?_
  refine fm_iret (pc := 12) rfl ?_ dX10_heldPitch_12
  cases h
  exact hq
/-! X10_layAgainst -/
def J_X10_layAgainst_132 (rec : Int32 → fm_M → Option ((Int32) × fm_M)) (l1 : Int32) (l2 : Int32) (l3 : Int32) (l4 : Int32) (l5 : Int32) (s1 : Int32) (s2 : Int32) (M : fm_M) : Option ((Int32) × fm_M) :=
    fm_gd (fm_inb 5 20) (
    fm_gd (fm_inb s1 25) (
    fm_lt (fm_up M 104 (Int32.toNatClampNeg s1) (s2 - ((M.1 78 (Int32.toNatClampNeg 5)) * (i_abs ((i_rem l4 5) - 2))))) (fun M22 =>
    rec (l4 + 1) M22)))
def J_X10_layAgainst_97 (rec : Int32 → fm_M → Option ((Int32) × fm_M)) (l1 : Int32) (l2 : Int32) (l3 : Int32) (l4 : Int32) (l5 : Int32) (s1 : Int32) (s2 : Int32) (M : fm_M) : Option ((Int32) × fm_M) :=
    fm_gd (fm_inb 5 20) (
    fm_gd (fm_inb s1 25) (
    fm_lt (fm_up M 103 (Int32.toNatClampNeg s1) (s2 - ((M.1 78 (Int32.toNatClampNeg 5)) * (i_abs ((l4 / 5) - 2))))) (fun M19 =>
    if l5 = 0 then (
      J_X10_layAgainst_132 (rec) l1 l2 l3 l4 l5 l4 20 M19
    ) else (
      J_X10_layAgainst_132 (rec) l1 l2 l3 l4 l5 l4 0 M19
    ))))
def G_X10_layAgainst_3 : Nat → Int32 → Int32 → Int32 → Int32 → fm_M → Option ((Int32) × fm_M)
  | 0, _, _, _, _, _ => none
  | n + 1, l1, l2, l3, l4, M =>
    if 25 ≤ l4 then (
      some (l4, M)
    ) else (
      fm_bd (F_X10_copies 1 0 M) (fun v1 M2 =>
      fm_gd (fm_inb l1 184) (
      fm_bd (F_X10_heldPitch (((M2.1 98 (Int32.toNatClampNeg l1)) + (l4 / 5)) - 2) M2) (fun v4 M5 =>
      fm_gd (fm_inb (8 + l1) 184) (
      fm_lt (fm_up M5 98 (Int32.toNatClampNeg (8 + l1)) v4) (fun M7 =>
      fm_gd (fm_inb l2 184) (
      fm_bd (F_X10_heldPitch (((M7.1 98 (Int32.toNatClampNeg l2)) + (i_rem l4 5)) - 2) M7) (fun v9 M10 =>
      fm_gd (fm_inb (8 + l2) 184) (
      fm_lt (fm_up M10 98 (Int32.toNatClampNeg (8 + l2)) v9) (fun M12 =>
      fm_bd (F_X10_humAll 1 l3 M12) (fun v13 M14 =>
      fm_bd (F_X10_passes 1 l3 v13 M14) (fun v15 M16 =>
      if v15 = 0 then (
        J_X10_layAgainst_97 (G_X10_layAgainst_3 n l1 l2 l3) l1 l2 l3 l4 v15 l4 0 M16
      ) else (
        J_X10_layAgainst_97 (G_X10_layAgainst_3 n l1 l2 l3) l1 l2 l3 l4 v15 l4 20 M16
      ))))))))))))
    )
def F_X10_layAgainst (a1 : Int32) (a2 : Int32) (a3 : Int32) (M : fm_M) : Option (Unit × fm_M) :=
    fm_bd (G_X10_layAgainst_3 fm_fuel a1 a2 a3 0 M) (fun w23 M24 =>
      some ((), M24))
theorem jn_X10_layAgainst_132 {d : Nat} {Q : Option Value → fm_M → Prop} (rec : Int32 → fm_M → Option ((Int32) × fm_M))  (l1 : Int32) (l2 : Int32) (l3 : Int32) (l4 : Int32) (l5 : Int32) (s1 : Int32) (s2 : Int32) {x : (Int32) × fm_M}  (ih : ∀ (l4 : Int32) (M : fm_M), rec l4 M = some x → fm_mw (d + 8) mX10_layAgainst Q 3 [some (.ref 76), some (.int l1), some (.int l2), some (.int l3), some (.int l4), none] [] M) (k1 : ∀ (v : Int32) (M2 : fm_M), x = (v, M2) → fm_mw (d + 8) mX10_layAgainst Q 156 [some (.ref 76), some (.int l1), some (.int l2), some (.int l3), some (.int v), none] [] M2) (M : fm_M) (h : J_X10_layAgainst_132 rec l1 l2 l3 l4 l5 s1 s2 M = some x) : fm_mw (d + 8) mX10_layAgainst Q 132 [some (.ref 76), some (.int l1), some (.int l2), some (.int l3), some (.int l4), some (.int l5)] [(.int s2), (.int s1), (.ref 104)] M := by
  rw [J_X10_layAgainst_132] at h
  refine fl_aload0 (pc := 132) dX10_layAgainst_132 ?_
  refine fm_getr (pc := 133) lk_10_13 sh_76 rfl dX10_layAgainst_133 ?_
  refine fm_iconstv (pc := 136) 5 (by decide) dX10_layAgainst_136 ?_
  obtain ⟨g20, h⟩ := fm_gdp h
  refine fm_iald (pc := 137) sh_78 (fm_inb_ok g20) dX10_layAgainst_137 ?_
  refine fl_iload4 (pc := 138) dX10_layAgainst_138 ?_
  refine fm_iconstv (pc := 140) 5 (by decide) dX10_layAgainst_140 ?_
  refine fq_irem (pc := 141) (by decide) dX10_layAgainst_141 ?_
  refine fm_iconstv (pc := 142) 2 (by decide) dX10_layAgainst_142 ?_
  refine fm_isub (pc := 143) dX10_layAgainst_143 ?_
  refine fq_mabs (pc := 144) ml_10_334 (Nat.le_of_ble_eq_true rfl) dX10_layAgainst_144 ?_
  refine fm_imul (pc := 147) dX10_layAgainst_147 ?_
  refine fm_isub (pc := 148) dX10_layAgainst_148 ?_
  obtain ⟨g21, h⟩ := fm_gdp h
  refine fm_iast (pc := 149) sh_104 (fm_inb_ok g21) dX10_layAgainst_149 ?_
  obtain ⟨M22, eM22, h⟩ := fm_ltp h
  refine fm_cgm eM22 ?_
  refine fl_iinc4 (pc := 150) rfl 1 (by decide) (by decide) dX10_layAgainst_150 ?_
  refine fm_goto (pc := 153) 3 (by decide) dX10_layAgainst_153 ?_
  refine fm_fgt [some (.ref 76), some (.int l1), some (.int l2), some (.int l3), some (.int (l4 + 1)), none] (by simp [fm_sub]) ?_
  exact ih _ _ h
theorem jn_X10_layAgainst_97 {d : Nat} {Q : Option Value → fm_M → Prop} (rec : Int32 → fm_M → Option ((Int32) × fm_M))  (l1 : Int32) (l2 : Int32) (l3 : Int32) (l4 : Int32) (l5 : Int32) (s1 : Int32) (s2 : Int32) {x : (Int32) × fm_M}  (ih : ∀ (l4 : Int32) (M : fm_M), rec l4 M = some x → fm_mw (d + 8) mX10_layAgainst Q 3 [some (.ref 76), some (.int l1), some (.int l2), some (.int l3), some (.int l4), none] [] M) (k1 : ∀ (v : Int32) (M2 : fm_M), x = (v, M2) → fm_mw (d + 8) mX10_layAgainst Q 156 [some (.ref 76), some (.int l1), some (.int l2), some (.int l3), some (.int v), none] [] M2) (M : fm_M) (h : J_X10_layAgainst_97 rec l1 l2 l3 l4 l5 s1 s2 M = some x) : fm_mw (d + 8) mX10_layAgainst Q 97 [some (.ref 76), some (.int l1), some (.int l2), some (.int l3), some (.int l4), some (.int l5)] [(.int s2), (.int s1), (.ref 103)] M := by
  rw [J_X10_layAgainst_97] at h
  refine fl_aload0 (pc := 97) dX10_layAgainst_97 ?_
  refine fm_getr (pc := 98) lk_10_13 sh_76 rfl dX10_layAgainst_98 ?_
  refine fm_iconstv (pc := 101) 5 (by decide) dX10_layAgainst_101 ?_
  obtain ⟨g17, h⟩ := fm_gdp h
  refine fm_iald (pc := 102) sh_78 (fm_inb_ok g17) dX10_layAgainst_102 ?_
  refine fl_iload4 (pc := 103) dX10_layAgainst_103 ?_
  refine fm_iconstv (pc := 105) 5 (by decide) dX10_layAgainst_105 ?_
  refine fm_idiv (pc := 106) (by decide) dX10_layAgainst_106 ?_
  refine fm_iconstv (pc := 107) 2 (by decide) dX10_layAgainst_107 ?_
  refine fm_isub (pc := 108) dX10_layAgainst_108 ?_
  refine fq_mabs (pc := 109) ml_10_334 (Nat.le_of_ble_eq_true rfl) dX10_layAgainst_109 ?_
  refine fm_imul (pc := 112) dX10_layAgainst_112 ?_
  refine fm_isub (pc := 113) dX10_layAgainst_113 ?_
  obtain ⟨g18, h⟩ := fm_gdp h
  refine fm_iast (pc := 114) sh_103 (fm_inb_ok g18) dX10_layAgainst_114 ?_
  obtain ⟨M19, eM19, h⟩ := fm_ltp h
  refine fm_cgm eM19 ?_
  refine fl_aload0 (pc := 115) dX10_layAgainst_115 ?_
  refine fm_getr (pc := 116) lk_10_105 sh_76 rfl dX10_layAgainst_116 ?_
  refine fl_iload4 (pc := 119) dX10_layAgainst_119 ?_
  refine fl_iload5 (pc := 121) dX10_layAgainst_121 ?_
  refine fm_if_eq (pc := 123) 130 (by decide) dX10_layAgainst_123 (fun c123 => ?_) (fun c123 => ?_)
  · replace h := fm_itp c123 h
    refine fm_bipushv (pc := 130) 20 (by decide) dX10_layAgainst_130 ?_
    exact jn_X10_layAgainst_132 _ _ _ _ _ _ _ _  ih k1 _ h
  · replace h := fm_itn c123 h
    refine fm_iconstv (pc := 126) 0 (by decide) dX10_layAgainst_126 ?_
    refine fm_goto (pc := 127) 132 (by decide) dX10_layAgainst_127 ?_
    exact jn_X10_layAgainst_132 _ _ _ _ _ _ _ _  ih k1 _ h
theorem lp_X10_layAgainst_3 {d : Nat} {Q : Option Value → fm_M → Prop} {l1 : Int32} {l2 : Int32} {l3 : Int32}   {x : (Int32) × fm_M} (k1 : ∀ (v : Int32) (M2 : fm_M), x = (v, M2) → fm_mw (d + 8) mX10_layAgainst Q 156 [some (.ref 76), some (.int l1), some (.int l2), some (.int l3), some (.int v), none] [] M2) : ∀ (n : Nat) (l4 : Int32) (M : fm_M), G_X10_layAgainst_3 n l1 l2 l3 l4 M = some x → fm_mw (d + 8) mX10_layAgainst Q 3 [some (.ref 76), some (.int l1), some (.int l2), some (.int l3), some (.int l4), none] [] M := by
  intro n
  induction n with
  | zero => intro l4 M h; simp [G_X10_layAgainst_3] at h
  | succ n ih =>
    intro l4 M h
    rw [G_X10_layAgainst_3] at h
    refine fl_iload4 (pc := 3) dX10_layAgainst_3 ?_
    refine fm_bipushv (pc := 5) 25 (by decide) dX10_layAgainst_5 ?_
    refine fm_icmp_ge (pc := 7) 156 (by decide) dX10_layAgainst_7 (fun c7 => ?_) (fun c7 => ?_)
    · replace h := fm_itp c7 h
      refine fm_fgt [some (.ref 76), some (.int l1), some (.int l2), some (.int l3), some (.int l4), none] (by simp [fm_sub]) ?_
      cases h
      exact k1 _ _ rfl
    · replace h := fm_itn c7 h
      refine fl_aload0 (pc := 10) dX10_layAgainst_10 ?_
      refine fm_iconstv (pc := 11) 1 (by decide) dX10_layAgainst_11 ?_
      refine fm_iconstv (pc := 12) 0 (by decide) dX10_layAgainst_12 ?_
      obtain ⟨v1, M2, ev1, h⟩ := fm_bdp h
      refine fm_callV (pc := 13) mX10_copies [_, _] _ rfl cvX10_copies ml_10_414 sh_76 rfl rfl (Nat.le_of_ble_eq_true rfl) (Nat.le_of_ble_eq_true rfl) dX10_layAgainst_13 ?_
      refine sp_X10_copies ev1 ?_
      refine fm_ret0 ?_
      refine fl_aload0 (pc := 16) dX10_layAgainst_16 ?_
      refine fm_getr (pc := 17) lk_10_78 sh_76 rfl dX10_layAgainst_17 ?_
      refine fm_bipushv (pc := 20) 8 (by decide) dX10_layAgainst_20 ?_
      refine fl_iload1 (pc := 22) dX10_layAgainst_22 ?_
      refine fm_iadd (pc := 23) dX10_layAgainst_23 ?_
      refine fl_aload0 (pc := 24) dX10_layAgainst_24 ?_
      refine fm_getr (pc := 25) lk_10_78 sh_76 rfl dX10_layAgainst_25 ?_
      refine fl_iload1 (pc := 28) dX10_layAgainst_28 ?_
      obtain ⟨g3, h⟩ := fm_gdp h
      refine fm_iald (pc := 29) sh_98 (fm_inb_ok g3) dX10_layAgainst_29 ?_
      refine fl_iload4 (pc := 30) dX10_layAgainst_30 ?_
      refine fm_iconstv (pc := 32) 5 (by decide) dX10_layAgainst_32 ?_
      refine fm_idiv (pc := 33) (by decide) dX10_layAgainst_33 ?_
      refine fm_iadd (pc := 34) dX10_layAgainst_34 ?_
      refine fm_iconstv (pc := 35) 2 (by decide) dX10_layAgainst_35 ?_
      refine fm_isub (pc := 36) dX10_layAgainst_36 ?_
      obtain ⟨v4, M5, ev4, h⟩ := fm_bdp h
      refine fm_callS (pc := 37) mX10_heldPitch [_] _ rfl csX10_heldPitch ml_10_441 rfl (Nat.le_of_ble_eq_true rfl) (Nat.le_of_ble_eq_true rfl) dX10_layAgainst_37 ?_
      refine sp_X10_heldPitch ev4 ?_
      refine fm_ret1 ?_
      obtain ⟨g6, h⟩ := fm_gdp h
      refine fm_iast (pc := 40) sh_98 (fm_inb_ok g6) dX10_layAgainst_40 ?_
      obtain ⟨M7, eM7, h⟩ := fm_ltp h
      refine fm_cgm eM7 ?_
      refine fl_aload0 (pc := 41) dX10_layAgainst_41 ?_
      refine fm_getr (pc := 42) lk_10_78 sh_76 rfl dX10_layAgainst_42 ?_
      refine fm_bipushv (pc := 45) 8 (by decide) dX10_layAgainst_45 ?_
      refine fl_iload2 (pc := 47) dX10_layAgainst_47 ?_
      refine fm_iadd (pc := 48) dX10_layAgainst_48 ?_
      refine fl_aload0 (pc := 49) dX10_layAgainst_49 ?_
      refine fm_getr (pc := 50) lk_10_78 sh_76 rfl dX10_layAgainst_50 ?_
      refine fl_iload2 (pc := 53) dX10_layAgainst_53 ?_
      obtain ⟨g8, h⟩ := fm_gdp h
      refine fm_iald (pc := 54) sh_98 (fm_inb_ok g8) dX10_layAgainst_54 ?_
      refine fl_iload4 (pc := 55) dX10_layAgainst_55 ?_
      refine fm_iconstv (pc := 57) 5 (by decide) dX10_layAgainst_57 ?_
      refine fq_irem (pc := 58) (by decide) dX10_layAgainst_58 ?_
      refine fm_iadd (pc := 59) dX10_layAgainst_59 ?_
      refine fm_iconstv (pc := 60) 2 (by decide) dX10_layAgainst_60 ?_
      refine fm_isub (pc := 61) dX10_layAgainst_61 ?_
      obtain ⟨v9, M10, ev9, h⟩ := fm_bdp h
      refine fm_callS (pc := 62) mX10_heldPitch [_] _ rfl csX10_heldPitch ml_10_441 rfl (Nat.le_of_ble_eq_true rfl) (Nat.le_of_ble_eq_true rfl) dX10_layAgainst_62 ?_
      refine sp_X10_heldPitch ev9 ?_
      refine fm_ret1 ?_
      obtain ⟨g11, h⟩ := fm_gdp h
      refine fm_iast (pc := 65) sh_98 (fm_inb_ok g11) dX10_layAgainst_65 ?_
      obtain ⟨M12, eM12, h⟩ := fm_ltp h
      refine fm_cgm eM12 ?_
      refine fl_aload0 (pc := 66) dX10_layAgainst_66 ?_
      refine fm_iconstv (pc := 67) 1 (by decide) dX10_layAgainst_67 ?_
      refine fl_iload3 (pc := 68) dX10_layAgainst_68 ?_
      refine fl_aload0 (pc := 69) dX10_layAgainst_69 ?_
      refine fm_iconstv (pc := 70) 1 (by decide) dX10_layAgainst_70 ?_
      refine fl_iload3 (pc := 71) dX10_layAgainst_71 ?_
      obtain ⟨v13, M14, ev13, h⟩ := fm_bdp h
      refine fm_callV (pc := 72) mX10_humAll [_, _] _ rfl cvX10_humAll ml_10_385 sh_76 rfl rfl (Nat.le_of_ble_eq_true rfl) (Nat.le_of_ble_eq_true rfl) dX10_layAgainst_72 ?_
      refine sp_X10_humAll ev13 ?_
      refine fm_ret1 ?_
      obtain ⟨v15, M16, ev15, h⟩ := fm_bdp h
      refine fm_callV (pc := 75) mX10_passes [_, _, _] _ rfl cvX10_passes ml_10_388 sh_76 rfl rfl (Nat.le_of_ble_eq_true rfl) (Nat.le_of_ble_eq_true rfl) dX10_layAgainst_75 ?_
      refine sp_X10_passes ev15 ?_
      refine fm_ret1 ?_
      refine fl_istore5 (pc := 78) rfl (by decide) dX10_layAgainst_78 ?_
      refine fl_aload0 (pc := 80) dX10_layAgainst_80 ?_
      refine fm_getr (pc := 81) lk_10_102 sh_76 rfl dX10_layAgainst_81 ?_
      refine fl_iload4 (pc := 84) dX10_layAgainst_84 ?_
      refine fl_iload5 (pc := 86) dX10_layAgainst_86 ?_
      refine fm_if_eq (pc := 88) 96 (by decide) dX10_layAgainst_88 (fun c88 => ?_) (fun c88 => ?_)
      · replace h := fm_itp c88 h
        refine fm_iconstv (pc := 96) 0 (by decide) dX10_layAgainst_96 ?_
        exact jn_X10_layAgainst_97 _ _ _ _ _ _ _ _  ih k1 _ h
      · replace h := fm_itn c88 h
        refine fm_bipushv (pc := 91) 20 (by decide) dX10_layAgainst_91 ?_
        refine fm_goto (pc := 93) 97 (by decide) dX10_layAgainst_93 ?_
        exact jn_X10_layAgainst_97 _ _ _ _ _ _ _ _  ih k1 _ h
theorem sp_X10_layAgainst {d : Nat} {a1 : Int32} {a2 : Int32} {a3 : Int32} {M : fm_M} {x : Unit × fm_M} {Q : Option Value → fm_M → Prop} (h : F_X10_layAgainst a1 a2 a3 M = some x) (hq : Q none x.2) : fm_ct (d + 8) mX10_layAgainst [.ref 76, .int a1, .int a2, .int a3] M Q := by
  rw [F_X10_layAgainst] at h
  show fm_mw (d + 8) mX10_layAgainst Q 0 [some (.ref 76), some (.int a1), some (.int a2), some (.int a3), none, none] [] M
  refine fm_iconstv (pc := 0) 0 (by decide) dX10_layAgainst_0 ?_
  refine fl_istore4 (pc := 1) rfl (by decide) dX10_layAgainst_1 ?_
  obtain ⟨w23, M24, ew23, h⟩ := fm_bdp h
  refine lp_X10_layAgainst_3  ?_ _ _ _ ew23
  intro w239 M249 q9
  cases q9
  refine fm_vret (pc := 156) rfl ?_ dX10_layAgainst_156
  cases h
  exact hq
/-! X10_isRest -/
def G_X10_isRest_2 : Nat → Int32 → Int32 → fm_M → Option (((Int32) ⊕ Int32) × fm_M)
  | 0, _, _, _ => none
  | n + 1, l1, l2, M =>
    if 5 ≤ l2 then (
      some (.inl l2, M)
    ) else (
      fm_gd (fm_inb ((5 * l2) + (i_rem l1 5)) 25) (
      fm_gd (fm_inb l1 25) (
      if (M.1 103 (Int32.toNatClampNeg l1)) < (M.1 103 (Int32.toNatClampNeg ((5 * l2) + (i_rem l1 5)))) then (
        some (.inr 0, M)
      ) else (
        fm_gd (fm_inb (((l1 / 5) * 5) + l2) 25) (
        fm_gd (fm_inb l1 25) (
        if (M.1 104 (Int32.toNatClampNeg (((l1 / 5) * 5) + l2))) ≤ (M.1 104 (Int32.toNatClampNeg l1)) then (
          G_X10_isRest_2 n l1 (l2 + 1) M
        ) else (
          some (.inr 0, M)
        )))
      )))
    )
def F_X10_isRest (a1 : Int32) (M : fm_M) : Option (Int32 × fm_M) :=
    fm_bs (G_X10_isRest_2 fm_fuel a1 0 M) (fun w5 M6 =>
      some (1, M6)) (fun r7 M => some (r7, M))
theorem lp_X10_isRest_2 {d : Nat} {Q : Option Value → fm_M → Prop} {l1 : Int32}   {x : ((Int32) ⊕ Int32) × fm_M} (k1 : ∀ (v : Int32) (M2 : fm_M), x = (.inl v, M2) → fm_mw d mX10_isRest Q 57 [some (.ref 76), some (.int l1), some (.int v)] [] M2) (k2 : ∀ (r : Int32) (M2 : fm_M), x = (.inr r, M2) → Q (some (.int r)) M2) : ∀ (n : Nat) (l2 : Int32) (M : fm_M), G_X10_isRest_2 n l1 l2 M = some x → fm_mw d mX10_isRest Q 2 [some (.ref 76), some (.int l1), some (.int l2)] [] M := by
  intro n
  induction n with
  | zero => intro l2 M h; simp [G_X10_isRest_2] at h
  | succ n ih =>
    intro l2 M h
    rw [G_X10_isRest_2] at h
    refine fl_iload2 (pc := 2) dX10_isRest_2 ?_
    refine fm_iconstv (pc := 3) 5 (by decide) dX10_isRest_3 ?_
    refine fm_icmp_ge (pc := 4) 57 (by decide) dX10_isRest_4 (fun c4 => ?_) (fun c4 => ?_)
    · replace h := fm_itp c4 h
      refine fm_fgt [some (.ref 76), some (.int l1), some (.int l2)] (by simp [fm_sub]) ?_
      cases h
      exact k1 _ _ rfl
    · replace h := fm_itn c4 h
      refine fl_aload0 (pc := 7) dX10_isRest_7 ?_
      refine fm_getr (pc := 8) lk_10_102 sh_76 rfl dX10_isRest_8 ?_
      refine fm_iconstv (pc := 11) 5 (by decide) dX10_isRest_11 ?_
      refine fl_iload2 (pc := 12) dX10_isRest_12 ?_
      refine fm_imul (pc := 13) dX10_isRest_13 ?_
      refine fl_iload1 (pc := 14) dX10_isRest_14 ?_
      refine fm_iconstv (pc := 15) 5 (by decide) dX10_isRest_15 ?_
      refine fq_irem (pc := 16) (by decide) dX10_isRest_16 ?_
      refine fm_iadd (pc := 17) dX10_isRest_17 ?_
      obtain ⟨g1, h⟩ := fm_gdp h
      refine fm_iald (pc := 18) sh_103 (fm_inb_ok g1) dX10_isRest_18 ?_
      refine fl_aload0 (pc := 19) dX10_isRest_19 ?_
      refine fm_getr (pc := 20) lk_10_102 sh_76 rfl dX10_isRest_20 ?_
      refine fl_iload1 (pc := 23) dX10_isRest_23 ?_
      obtain ⟨g2, h⟩ := fm_gdp h
      refine fm_iald (pc := 24) sh_103 (fm_inb_ok g2) dX10_isRest_24 ?_
      refine fm_icmp_gt (pc := 25) 49 (by decide) dX10_isRest_25 (fun c25 => ?_) (fun c25 => ?_)
      · replace h := fm_itp c25 h
        refine fm_iconstv (pc := 49) 0 (by decide) dX10_isRest_49 ?_
        refine fm_zret (pc := 50) rfl (by decide) ?_ dX10_isRest_50
        cases h
        exact k2 _ _ rfl
      · replace h := fm_itn c25 h
        refine fl_aload0 (pc := 28) dX10_isRest_28 ?_
        refine fm_getr (pc := 29) lk_10_105 sh_76 rfl dX10_isRest_29 ?_
        refine fl_iload1 (pc := 32) dX10_isRest_32 ?_
        refine fm_iconstv (pc := 33) 5 (by decide) dX10_isRest_33 ?_
        refine fm_idiv (pc := 34) (by decide) dX10_isRest_34 ?_
        refine fm_iconstv (pc := 35) 5 (by decide) dX10_isRest_35 ?_
        refine fm_imul (pc := 36) dX10_isRest_36 ?_
        refine fl_iload2 (pc := 37) dX10_isRest_37 ?_
        refine fm_iadd (pc := 38) dX10_isRest_38 ?_
        obtain ⟨g3, h⟩ := fm_gdp h
        refine fm_iald (pc := 39) sh_104 (fm_inb_ok g3) dX10_isRest_39 ?_
        refine fl_aload0 (pc := 40) dX10_isRest_40 ?_
        refine fm_getr (pc := 41) lk_10_105 sh_76 rfl dX10_isRest_41 ?_
        refine fl_iload1 (pc := 44) dX10_isRest_44 ?_
        obtain ⟨g4, h⟩ := fm_gdp h
        refine fm_iald (pc := 45) sh_104 (fm_inb_ok g4) dX10_isRest_45 ?_
        refine fm_icmp_le (pc := 46) 51 (by decide) dX10_isRest_46 (fun c46 => ?_) (fun c46 => ?_)
        · replace h := fm_itp c46 h
          refine fl_iinc2 (pc := 51) rfl 1 (by decide) (by decide) dX10_isRest_51 ?_
          refine fm_goto (pc := 54) 2 (by decide) dX10_isRest_54 ?_
          refine fm_fgt [some (.ref 76), some (.int l1), some (.int (l2 + 1))] (by simp [fm_sub]) ?_
          exact ih _ _ h
        · replace h := fm_itn c46 h
          refine fm_iconstv (pc := 49) 0 (by decide) dX10_isRest_49 ?_
          refine fm_zret (pc := 50) rfl (by decide) ?_ dX10_isRest_50
          cases h
          exact k2 _ _ rfl
theorem sp_X10_isRest {d : Nat} {a1 : Int32} {M : fm_M} {x : Int32 × fm_M} {Q : Option Value → fm_M → Prop} (h : F_X10_isRest a1 M = some x) (hq : Q (some (.int x.1)) x.2) : fm_ct d mX10_isRest [.ref 76, .int a1] M Q := by
  rw [F_X10_isRest] at h
  show fm_mw d mX10_isRest Q 0 [some (.ref 76), some (.int a1), none] [] M
  refine fm_iconstv (pc := 0) 0 (by decide) dX10_isRest_0 ?_
  refine fl_istore2 (pc := 1) rfl (by decide) dX10_isRest_1 ?_
  obtain ⟨w9, M6, ew5, hl9, hr9⟩ := fm_bsp h
  refine lp_X10_isRest_2  ?_ ?_ _ _ _ ew5
  · intro w5 M9 q9
    cases q9
    replace h := hl9 _ rfl
    refine fm_iconstv (pc := 57) 1 (by decide) dX10_isRest_57 ?_
    refine fm_zret (pc := 58) rfl (by decide) ?_ dX10_isRest_58
    cases h
    exact hq
  · intro r9 M9 q9
    cases q9
    replace h := hr9 _ rfl
    cases h
    exact hq
/-! X10_restOf -/
def G_X10_restOf_4 : Nat → Int32 → Int32 → Int32 → fm_M → Option (((Int32 × Int32) ⊕ Int32) × fm_M)
  | 0, _, _, _, _ => none
  | n + 1, l1, l2, l3, M =>
    if 25 ≤ l3 then (
      some (.inl (l2, l3), M)
    ) else (
      fm_bd (F_X10_isRest l3 M) (fun v1 M2 =>
      if v1 = 0 then (
        G_X10_restOf_4 n l1 l2 (l3 + 1) M2
      ) else (
        if l2 = l1 then (
          some (.inr ((10 * (l3 / 5)) + (i_rem l3 5)), M2)
        ) else (
          G_X10_restOf_4 n l1 (l2 + 1) (l3 + 1) M2
        )
      ))
    )
def F_X10_restOf (a1 : Int32) (M : fm_M) : Option (Int32 × fm_M) :=
    fm_bs (G_X10_restOf_4 fm_fuel a1 0 0 M) (fun w3 M4 =>
      if a1 = (-1) then (
        some (w3.1, M4)
      ) else (
        some ((-2), M4)
      )) (fun r5 M => some (r5, M))
theorem lp_X10_restOf_4 {d : Nat} {Q : Option Value → fm_M → Prop} {l1 : Int32}   {x : ((Int32 × Int32) ⊕ Int32) × fm_M} (k1 : ∀ (v : Int32 × Int32) (M2 : fm_M), x = (.inl v, M2) → fm_mw (d + 1) mX10_restOf Q 46 [some (.ref 76), some (.int l1), some (.int v.1), some (.int v.2)] [] M2) (k2 : ∀ (r : Int32) (M2 : fm_M), x = (.inr r, M2) → Q (some (.int r)) M2) : ∀ (n : Nat) (l2 : Int32) (l3 : Int32) (M : fm_M), G_X10_restOf_4 n l1 l2 l3 M = some x → fm_mw (d + 1) mX10_restOf Q 4 [some (.ref 76), some (.int l1), some (.int l2), some (.int l3)] [] M := by
  intro n
  induction n with
  | zero => intro l2 l3 M h; simp [G_X10_restOf_4] at h
  | succ n ih =>
    intro l2 l3 M h
    rw [G_X10_restOf_4] at h
    refine fl_iload3 (pc := 4) dX10_restOf_4 ?_
    refine fm_bipushv (pc := 5) 25 (by decide) dX10_restOf_5 ?_
    refine fm_icmp_ge (pc := 7) 46 (by decide) dX10_restOf_7 (fun c7 => ?_) (fun c7 => ?_)
    · replace h := fm_itp c7 h
      refine fm_fgt [some (.ref 76), some (.int l1), some (.int l2), some (.int l3)] (by simp [fm_sub]) ?_
      cases h
      exact k1 _ _ rfl
    · replace h := fm_itn c7 h
      refine fl_aload0 (pc := 10) dX10_restOf_10 ?_
      refine fl_iload3 (pc := 11) dX10_restOf_11 ?_
      obtain ⟨v1, M2, ev1, h⟩ := fm_bdp h
      refine fm_callV (pc := 12) mX10_isRest [_] _ rfl cvX10_isRest ml_10_444 sh_76 rfl rfl (Nat.le_of_ble_eq_true rfl) (Nat.le_of_ble_eq_true rfl) dX10_restOf_12 ?_
      refine sp_X10_isRest ev1 ?_
      refine fm_ret1 ?_
      refine fm_if_ne (pc := 15) 21 (by decide) dX10_restOf_15 (fun c15 => ?_) (fun c15 => ?_)
      · replace h := fm_itn c15 h
        refine fl_iload2 (pc := 21) dX10_restOf_21 ?_
        refine fl_iload1 (pc := 22) dX10_restOf_22 ?_
        refine fm_icmp_ne (pc := 23) 37 (by decide) dX10_restOf_23 (fun c23 => ?_) (fun c23 => ?_)
        · replace h := fm_itn c23 h
          refine fl_iinc2 (pc := 37) rfl 1 (by decide) (by decide) dX10_restOf_37 ?_
          refine fl_iinc3 (pc := 40) rfl 1 (by decide) (by decide) dX10_restOf_40 ?_
          refine fm_goto (pc := 43) 4 (by decide) dX10_restOf_43 ?_
          refine fm_fgt [some (.ref 76), some (.int l1), some (.int (l2 + 1)), some (.int (l3 + 1))] (by simp [fm_sub]) ?_
          exact ih _ _ _ h
        · replace h := fm_itp c23 h
          refine fm_bipushv (pc := 26) 10 (by decide) dX10_restOf_26 ?_
          refine fl_iload3 (pc := 28) dX10_restOf_28 ?_
          refine fm_iconstv (pc := 29) 5 (by decide) dX10_restOf_29 ?_
          refine fm_idiv (pc := 30) (by decide) dX10_restOf_30 ?_
          refine fm_imul (pc := 31) dX10_restOf_31 ?_
          refine fl_iload3 (pc := 32) dX10_restOf_32 ?_
          refine fm_iconstv (pc := 33) 5 (by decide) dX10_restOf_33 ?_
          refine fq_irem (pc := 34) (by decide) dX10_restOf_34 ?_
          refine fm_iadd (pc := 35) dX10_restOf_35 ?_
          refine fm_iret (pc := 36) rfl ?_ dX10_restOf_36
          cases h
          exact k2 _ _ rfl
      · replace h := fm_itp c15 h
        refine fm_goto (pc := 18) 40 (by decide) dX10_restOf_18 ?_
        refine fl_iinc3 (pc := 40) rfl 1 (by decide) (by decide) dX10_restOf_40 ?_
        refine fm_goto (pc := 43) 4 (by decide) dX10_restOf_43 ?_
        refine fm_fgt [some (.ref 76), some (.int l1), some (.int l2), some (.int (l3 + 1))] (by simp [fm_sub]) ?_
        exact ih _ _ _ h
theorem sp_X10_restOf {d : Nat} {a1 : Int32} {M : fm_M} {x : Int32 × fm_M} {Q : Option Value → fm_M → Prop} (h : F_X10_restOf a1 M = some x) (hq : Q (some (.int x.1)) x.2) : fm_ct (d + 1) mX10_restOf [.ref 76, .int a1] M Q := by
  rw [F_X10_restOf] at h
  show fm_mw (d + 1) mX10_restOf Q 0 [some (.ref 76), some (.int a1), none, none] [] M
  refine fm_iconstv (pc := 0) 0 (by decide) dX10_restOf_0 ?_
  refine fl_istore2 (pc := 1) rfl (by decide) dX10_restOf_1 ?_
  refine fm_iconstv (pc := 2) 0 (by decide) dX10_restOf_2 ?_
  refine fl_istore3 (pc := 3) rfl (by decide) dX10_restOf_3 ?_
  obtain ⟨w9, M4, ew3, hl9, hr9⟩ := fm_bsp h
  refine lp_X10_restOf_4  ?_ ?_ _ _ _ _ ew3
  · intro w3 M9 q9
    cases q9
    replace h := hl9 _ rfl
    refine fl_iload1 (pc := 46) dX10_restOf_46 ?_
    refine fm_iconstv (pc := 47) (-1) (by decide) dX10_restOf_47 ?_
    refine fm_icmp_ne (pc := 48) 55 (by decide) dX10_restOf_48 (fun c48 => ?_) (fun c48 => ?_)
    · replace h := fm_itn c48 h
      refine fm_bipushv (pc := 55) (-2) (by decide) dX10_restOf_55 ?_
      refine fm_iret (pc := 57) rfl ?_ dX10_restOf_57
      cases h
      exact hq
    · replace h := fm_itp c48 h
      refine fl_iload2 (pc := 51) dX10_restOf_51 ?_
      refine fm_goto (pc := 52) 57 (by decide) dX10_restOf_52 ?_
      refine fm_iret (pc := 57) rfl ?_ dX10_restOf_57
      cases h
      exact hq
  · intro r9 M9 q9
    cases q9
    replace h := hr9 _ rfl
    cases h
    exact hq
/-! X10_areAgainst -/
def F_X10_areAgainst (a1 : Int32) (a2 : Int32) (a3 : Int32) (M : fm_M) : Option (Int32 × fm_M) :=
    fm_bd (F_X10_isFork a1 M) (fun v1 M2 =>
    if v1 = 0 then (
      some (0, M2)
    ) else (
      fm_bd (F_X10_isFork a2 M2) (fun v3 M4 =>
      if v3 = 0 then (
        some (0, M4)
      ) else (
        if a1 = a2 then (
          some (0, M4)
        ) else (
          fm_bd (F_X10_isNote a3 M4) (fun v5 M6 =>
          if v5 = 0 then (
            some (0, M6)
          ) else (
            some (1, M6)
          ))
        )
      ))
    ))
theorem sp_X10_areAgainst {d : Nat} {a1 : Int32} {a2 : Int32} {a3 : Int32} {M : fm_M} {x : Int32 × fm_M} {Q : Option Value → fm_M → Prop} (h : F_X10_areAgainst a1 a2 a3 M = some x) (hq : Q (some (.int x.1)) x.2) : fm_ct (d + 1) mX10_areAgainst [.ref 76, .int a1, .int a2, .int a3] M Q := by
  rw [F_X10_areAgainst] at h
  show fm_mw (d + 1) mX10_areAgainst Q 0 [some (.ref 76), some (.int a1), some (.int a2), some (.int a3)] [] M
  refine fl_aload0 (pc := 0) dX10_areAgainst_0 ?_
  refine fl_iload1 (pc := 1) dX10_areAgainst_1 ?_
  obtain ⟨v1, M2, ev1, h⟩ := fm_bdp h
  refine fm_callV (pc := 2) mX10_isFork [_] _ rfl cvX10_isFork ml_10_404 sh_76 rfl rfl (Nat.le_of_ble_eq_true rfl) (Nat.le_of_ble_eq_true rfl) dX10_areAgainst_2 ?_
  refine sp_X10_isFork ev1 ?_
  refine fm_ret1 ?_
  refine fm_if_eq (pc := 5) 32 (by decide) dX10_areAgainst_5 (fun c5 => ?_) (fun c5 => ?_)
  · replace h := fm_itp c5 h
    refine fm_iconstv (pc := 32) 0 (by decide) dX10_areAgainst_32 ?_
    refine fm_zret (pc := 33) rfl (by decide) ?_ dX10_areAgainst_33
    cases h
    exact hq
  · replace h := fm_itn c5 h
    refine fl_aload0 (pc := 8) dX10_areAgainst_8 ?_
    refine fl_iload2 (pc := 9) dX10_areAgainst_9 ?_
    obtain ⟨v3, M4, ev3, h⟩ := fm_bdp h
    refine fm_callV (pc := 10) mX10_isFork [_] _ rfl cvX10_isFork ml_10_404 sh_76 rfl rfl (Nat.le_of_ble_eq_true rfl) (Nat.le_of_ble_eq_true rfl) dX10_areAgainst_10 ?_
    refine sp_X10_isFork ev3 ?_
    refine fm_ret1 ?_
    refine fm_if_eq (pc := 13) 32 (by decide) dX10_areAgainst_13 (fun c13 => ?_) (fun c13 => ?_)
    · replace h := fm_itp c13 h
      refine fm_iconstv (pc := 32) 0 (by decide) dX10_areAgainst_32 ?_
      refine fm_zret (pc := 33) rfl (by decide) ?_ dX10_areAgainst_33
      cases h
      exact hq
    · replace h := fm_itn c13 h
      refine fl_iload1 (pc := 16) dX10_areAgainst_16 ?_
      refine fl_iload2 (pc := 17) dX10_areAgainst_17 ?_
      refine fm_icmp_eq (pc := 18) 32 (by decide) dX10_areAgainst_18 (fun c18 => ?_) (fun c18 => ?_)
      · replace h := fm_itp c18 h
        refine fm_iconstv (pc := 32) 0 (by decide) dX10_areAgainst_32 ?_
        refine fm_zret (pc := 33) rfl (by decide) ?_ dX10_areAgainst_33
        cases h
        exact hq
      · replace h := fm_itn c18 h
        refine fl_iload3 (pc := 21) dX10_areAgainst_21 ?_
        obtain ⟨v5, M6, ev5, h⟩ := fm_bdp h
        refine fm_callS (pc := 22) mX10_isNote [_] _ rfl csX10_isNote ml_10_407 rfl (Nat.le_of_ble_eq_true rfl) (Nat.le_of_ble_eq_true rfl) dX10_areAgainst_22 ?_
        refine sp_X10_isNote ev5 ?_
        refine fm_ret1 ?_
        refine fm_if_eq (pc := 25) 32 (by decide) dX10_areAgainst_25 (fun c25 => ?_) (fun c25 => ?_)
        · replace h := fm_itp c25 h
          refine fm_iconstv (pc := 32) 0 (by decide) dX10_areAgainst_32 ?_
          refine fm_zret (pc := 33) rfl (by decide) ?_ dX10_areAgainst_33
          cases h
          exact hq
        · replace h := fm_itn c25 h
          refine fm_iconstv (pc := 28) 1 (by decide) dX10_areAgainst_28 ?_
          refine fm_goto (pc := 29) 33 (by decide) dX10_areAgainst_29 ?_
          refine fm_zret (pc := 33) rfl (by decide) ?_ dX10_areAgainst_33
          cases h
          exact hq
/-! X10_rests -/
def F_X10_rests (a1 : Int32) (a2 : Int32) (a3 : Int32) (M : fm_M) : Option (Int32 × fm_M) :=
    fm_lt (fm_up M 76 0 0) (fun M1 =>
    fm_bd (F_X10_areAgainst a1 a2 a3 M1) (fun v2 M3 =>
    if v2 = 0 then (
      some ((-1), M3)
    ) else (
      fm_bd (F_X10_layAgainst a1 a2 a3 M3) (fun v4 M5 =>
      fm_bd (F_X10_restOf (-1) M5) (fun v6 M7 =>
      some (v6, M7)))
    )))
theorem sp_X10_rests {d : Nat} {a1 : Int32} {a2 : Int32} {a3 : Int32} {M : fm_M} {x : Int32 × fm_M} {Q : Option Value → fm_M → Prop} (h : F_X10_rests a1 a2 a3 M = some x) (hq : Q (some (.int x.1)) x.2) : fm_ct (d + 9) mX10_rests [.ref 76, .int a1, .int a2, .int a3] M Q := by
  rw [F_X10_rests] at h
  show fm_mw (d + 9) mX10_rests Q 0 [some (.ref 76), some (.int a1), some (.int a2), some (.int a3)] [] M
  refine fl_aload0 (pc := 0) dX10_rests_0 ?_
  refine fm_iconstv (pc := 1) 0 (by decide) dX10_rests_1 ?_
  refine fm_puti (pc := 2) lp_10_130 sh_76 rfl dX10_rests_2 ?_
  obtain ⟨M1, eM1, h⟩ := fm_ltp h
  refine fm_cgm eM1 ?_
  refine fl_aload0 (pc := 5) dX10_rests_5 ?_
  refine fl_iload1 (pc := 6) dX10_rests_6 ?_
  refine fl_iload2 (pc := 7) dX10_rests_7 ?_
  refine fl_iload3 (pc := 8) dX10_rests_8 ?_
  obtain ⟨v2, M3, ev2, h⟩ := fm_bdp h
  refine fm_callV (pc := 9) mX10_areAgainst [_, _, _] _ rfl cvX10_areAgainst ml_10_447 sh_76 rfl rfl (Nat.le_of_ble_eq_true rfl) (Nat.le_of_ble_eq_true rfl) dX10_rests_9 ?_
  refine sp_X10_areAgainst ev2 ?_
  refine fm_ret1 ?_
  refine fm_if_ne (pc := 12) 17 (by decide) dX10_rests_12 (fun c12 => ?_) (fun c12 => ?_)
  · replace h := fm_itn c12 h
    refine fl_aload0 (pc := 17) dX10_rests_17 ?_
    refine fl_iload1 (pc := 18) dX10_rests_18 ?_
    refine fl_iload2 (pc := 19) dX10_rests_19 ?_
    refine fl_iload3 (pc := 20) dX10_rests_20 ?_
    obtain ⟨v4, M5, ev4, h⟩ := fm_bdp h
    refine fm_callV (pc := 21) mX10_layAgainst [_, _, _] _ rfl cvX10_layAgainst ml_10_450 sh_76 rfl rfl (Nat.le_of_ble_eq_true rfl) (Nat.le_of_ble_eq_true rfl) dX10_rests_21 ?_
    refine sp_X10_layAgainst ev4 ?_
    refine fm_ret0 ?_
    refine fl_aload0 (pc := 24) dX10_rests_24 ?_
    refine fm_iconstv (pc := 25) (-1) (by decide) dX10_rests_25 ?_
    obtain ⟨v6, M7, ev6, h⟩ := fm_bdp h
    refine fm_callV (pc := 26) mX10_restOf [_] _ rfl cvX10_restOf ml_10_454 sh_76 rfl rfl (Nat.le_of_ble_eq_true rfl) (Nat.le_of_ble_eq_true rfl) dX10_rests_26 ?_
    refine sp_X10_restOf ev6 ?_
    refine fm_ret1 ?_
    refine fm_iret (pc := 29) rfl ?_ dX10_rests_29
    cases h
    exact hq
  · replace h := fm_itp c12 h
    refine fm_iconstv (pc := 15) (-1) (by decide) dX10_rests_15 ?_
    refine fm_iret (pc := 16) rfl ?_ dX10_rests_16
    cases h
    exact hq
/-! X10_rest -/
def F_X10_rest (a1 : Int32) (a2 : Int32) (a3 : Int32) (a4 : Int32) (M : fm_M) : Option (Int32 × fm_M) :=
    fm_lt (fm_up M 76 0 0) (fun M1 =>
    fm_bd (F_X10_areAgainst a1 a2 a3 M1) (fun v2 M3 =>
    if v2 = 0 then (
      some ((-1), M3)
    ) else (
      if 0 ≤ a4 then (
        fm_bd (F_X10_layAgainst a1 a2 a3 M3) (fun v4 M5 =>
        fm_bd (F_X10_restOf a4 M5) (fun v6 M7 =>
        some (v6, M7)))
      ) else (
        some ((-1), M3)
      )
    )))
theorem sp_X10_rest {d : Nat} {a1 : Int32} {a2 : Int32} {a3 : Int32} {a4 : Int32} {M : fm_M} {x : Int32 × fm_M} {Q : Option Value → fm_M → Prop} (h : F_X10_rest a1 a2 a3 a4 M = some x) (hq : Q (some (.int x.1)) x.2) : fm_ct (d + 9) mX10_rest [.ref 76, .int a1, .int a2, .int a3, .int a4] M Q := by
  rw [F_X10_rest] at h
  show fm_mw (d + 9) mX10_rest Q 0 [some (.ref 76), some (.int a1), some (.int a2), some (.int a3), some (.int a4)] [] M
  refine fl_aload0 (pc := 0) dX10_rest_0 ?_
  refine fm_iconstv (pc := 1) 0 (by decide) dX10_rest_1 ?_
  refine fm_puti (pc := 2) lp_10_130 sh_76 rfl dX10_rest_2 ?_
  obtain ⟨M1, eM1, h⟩ := fm_ltp h
  refine fm_cgm eM1 ?_
  refine fl_aload0 (pc := 5) dX10_rest_5 ?_
  refine fl_iload1 (pc := 6) dX10_rest_6 ?_
  refine fl_iload2 (pc := 7) dX10_rest_7 ?_
  refine fl_iload3 (pc := 8) dX10_rest_8 ?_
  obtain ⟨v2, M3, ev2, h⟩ := fm_bdp h
  refine fm_callV (pc := 9) mX10_areAgainst [_, _, _] _ rfl cvX10_areAgainst ml_10_447 sh_76 rfl rfl (Nat.le_of_ble_eq_true rfl) (Nat.le_of_ble_eq_true rfl) dX10_rest_9 ?_
  refine sp_X10_areAgainst ev2 ?_
  refine fm_ret1 ?_
  refine fm_if_eq (pc := 12) 20 (by decide) dX10_rest_12 (fun c12 => ?_) (fun c12 => ?_)
  · replace h := fm_itp c12 h
    refine fm_iconstv (pc := 20) (-1) (by decide) dX10_rest_20 ?_
    refine fm_iret (pc := 21) rfl ?_ dX10_rest_21
    cases h
    exact hq
  · replace h := fm_itn c12 h
    refine fl_iload4 (pc := 15) dX10_rest_15 ?_
    refine fm_if_ge (pc := 17) 22 (by decide) dX10_rest_17 (fun c17 => ?_) (fun c17 => ?_)
    · replace h := fm_itp c17 h
      refine fl_aload0 (pc := 22) dX10_rest_22 ?_
      refine fl_iload1 (pc := 23) dX10_rest_23 ?_
      refine fl_iload2 (pc := 24) dX10_rest_24 ?_
      refine fl_iload3 (pc := 25) dX10_rest_25 ?_
      obtain ⟨v4, M5, ev4, h⟩ := fm_bdp h
      refine fm_callV (pc := 26) mX10_layAgainst [_, _, _] _ rfl cvX10_layAgainst ml_10_450 sh_76 rfl rfl (Nat.le_of_ble_eq_true rfl) (Nat.le_of_ble_eq_true rfl) dX10_rest_26 ?_
      refine sp_X10_layAgainst ev4 ?_
      refine fm_ret0 ?_
      refine fl_aload0 (pc := 29) dX10_rest_29 ?_
      refine fl_iload4 (pc := 30) dX10_rest_30 ?_
      obtain ⟨v6, M7, ev6, h⟩ := fm_bdp h
      refine fm_callV (pc := 32) mX10_restOf [_] _ rfl cvX10_restOf ml_10_454 sh_76 rfl rfl (Nat.le_of_ble_eq_true rfl) (Nat.le_of_ble_eq_true rfl) dX10_rest_32 ?_
      refine sp_X10_restOf ev6 ?_
      refine fm_ret1 ?_
      refine fm_iret (pc := 35) rfl ?_ dX10_rest_35
      cases h
      exact hq
    · replace h := fm_itn c17 h
      refine fm_iconstv (pc := 20) (-1) (by decide) dX10_rest_20 ?_
      refine fm_iret (pc := 21) rfl ?_ dX10_rest_21
      cases h
      exact hq
/-! X10_common -/
def G_X10_common_4 : Nat → Int32 → Int32 → Int32 → Int32 → fm_M → Option ((Int32 × Int32) × fm_M)
  | 0, _, _, _, _, _ => none
  | n + 1, l0, l1, l2, l3, M =>
    if l3 = 0 then (
      some ((l2, l3), M)
    ) else (
      fm_gd (fm_nz l3) (
      fm_lt ((i_rem l2 l3)) (fun x2 =>
      G_X10_common_4 n l0 l1 l3 x2 M))
    )
def F_X10_common (a0 : Int32) (a1 : Int32) (M : fm_M) : Option (Int32 × fm_M) :=
    fm_bd (G_X10_common_4 fm_fuel a0 a1 a0 a1 M) (fun w3 M4 =>
      some (w3.1, M4))
theorem lp_X10_common_4 {d : Nat} {Q : Option Value → fm_M → Prop} {l0 : Int32} {l1 : Int32}   {x : (Int32 × Int32) × fm_M} (k1 : ∀ (v : Int32 × Int32) (M2 : fm_M), x = (v, M2) → fm_mw d mX10_common Q 21 [some (.int l0), some (.int l1), some (.int v.1), some (.int v.2), none] [] M2) : ∀ (n : Nat) (l2 : Int32) (l3 : Int32) (M : fm_M), G_X10_common_4 n l0 l1 l2 l3 M = some x → fm_mw d mX10_common Q 4 [some (.int l0), some (.int l1), some (.int l2), some (.int l3), none] [] M := by
  intro n
  induction n with
  | zero => intro l2 l3 M h; simp [G_X10_common_4] at h
  | succ n ih =>
    intro l2 l3 M h
    rw [G_X10_common_4] at h
    refine fl_iload3 (pc := 4) dX10_common_4 ?_
    refine fm_if_eq (pc := 5) 21 (by decide) dX10_common_5 (fun c5 => ?_) (fun c5 => ?_)
    · replace h := fm_itp c5 h
      refine fm_fgt [some (.int l0), some (.int l1), some (.int l2), some (.int l3), none] (by simp [fm_sub]) ?_
      cases h
      exact k1 _ _ rfl
    · replace h := fm_itn c5 h
      refine fl_iload2 (pc := 8) dX10_common_8 ?_
      refine fl_iload3 (pc := 9) dX10_common_9 ?_
      obtain ⟨g1, h⟩ := fm_gdp h
      refine fq_irem (pc := 10) (fm_nz_ok g1) dX10_common_10 ?_
      obtain ⟨x2, ex2, h⟩ := fm_ltp h
      refine fm_cgi ex2 ?_
      refine fl_istore4 (pc := 11) rfl (by decide) dX10_common_11 ?_
      refine fl_iload3 (pc := 13) dX10_common_13 ?_
      refine fl_istore2 (pc := 14) rfl (by decide) dX10_common_14 ?_
      refine fl_iload4 (pc := 15) dX10_common_15 ?_
      refine fl_istore3 (pc := 17) rfl (by decide) dX10_common_17 ?_
      refine fm_goto (pc := 18) 4 (by decide) dX10_common_18 ?_
      refine fm_fgt [some (.int l0), some (.int l1), some (.int l3), some (.int x2), none] (by simp [fm_sub]) ?_
      exact ih _ _ _ h
theorem sp_X10_common {d : Nat} {a0 : Int32} {a1 : Int32} {M : fm_M} {x : Int32 × fm_M} {Q : Option Value → fm_M → Prop} (h : F_X10_common a0 a1 M = some x) (hq : Q (some (.int x.1)) x.2) : fm_ct d mX10_common [.int a0, .int a1] M Q := by
  rw [F_X10_common] at h
  show fm_mw d mX10_common Q 0 [some (.int a0), some (.int a1), none, none, none] [] M
  refine fl_iload0 (pc := 0) dX10_common_0 ?_
  refine fl_istore2 (pc := 1) rfl (by decide) dX10_common_1 ?_
  refine fl_iload1 (pc := 2) dX10_common_2 ?_
  refine fl_istore3 (pc := 3) rfl (by decide) dX10_common_3 ?_
  obtain ⟨w3, M4, ew3, h⟩ := fm_bdp h
  refine lp_X10_common_4  ?_ _ _ _ _ ew3
  intro w39 M49 q9
  cases q9
  refine fl_iload2 (pc := 21) dX10_common_21 ?_
  refine fm_iret (pc := 22) rfl ?_ dX10_common_22
  cases h
  exact hq
/-! X10_likely -/
def G_X10_likely_29 : Nat → Int32 → Int32 → Int32 → Int32 → fm_M → Option ((Int32 × Int32) × fm_M)
  | 0, _, _, _, _, _ => none
  | n + 1, l1, l2, l3, l4, M =>
    if 10 ≤ l4 then (
      some ((l3, l4), M)
    ) else (
      fm_lt (fm_up M 76 45 l4) (fun M4 =>
      fm_gd (fm_inb l1 20) (
      fm_gd (fm_inb l1 20) (
      fm_bd (F_X10_humAll 0 (M4.1 85 (Int32.toNatClampNeg l1)) M4) (fun v7 M8 =>
      fm_bd (F_X10_passes 0 (M4.1 85 (Int32.toNatClampNeg l1)) v7 M8) (fun v9 M10 =>
      if v9 = 0 then (
        fm_lt ((l3 + 0)) (fun x11 =>
        G_X10_likely_29 n l1 l2 x11 (l4 + 1) M10)
      ) else (
        fm_lt ((l3 + 1)) (fun x12 =>
        G_X10_likely_29 n l1 l2 x12 (l4 + 1) M10)
      ))))))
    )
def F_X10_likely (a1 : Int32) (a2 : Int32) (M : fm_M) : Option (Int32 × fm_M) :=
    fm_lt (fm_up M 76 0 0) (fun M1 =>
    fm_bd (F_X10_isMotion a1 M1) (fun v2 M3 =>
    if v2 = 0 then (
      some ((-1), M3)
    ) else (
      if a2 < 0 then (
        some ((-1), M3)
      ) else (
        if a2 ≤ 1 then (
          fm_bd (G_X10_likely_29 fm_fuel a1 a2 0 0 M3) (fun w13 M14 =>
            fm_lt (fm_up M14 76 45 (-1)) (fun M15 =>
            fm_bd (F_X10_common w13.1 10 M15) (fun v16 M17 =>
            if a2 = 0 then (
              fm_gd (fm_nz v16) (
              some ((w13.1 / v16), M17))
            ) else (
              fm_gd (fm_nz v16) (
              some ((10 / v16), M17))
            ))))
        ) else (
          some ((-1), M3)
        )
      )
    )))
theorem lp_X10_likely_29 {d : Nat} {Q : Option Value → fm_M → Prop} {l1 : Int32} {l2 : Int32}   {x : (Int32 × Int32) × fm_M} (k1 : ∀ (v : Int32 × Int32) (M2 : fm_M), x = (v, M2) → fm_mw (d + 8) mX10_likely Q 81 [some (.ref 76), some (.int l1), some (.int l2), some (.int v.1), some (.int v.2)] [] M2) : ∀ (n : Nat) (l3 : Int32) (l4 : Int32) (M : fm_M), G_X10_likely_29 n l1 l2 l3 l4 M = some x → fm_mw (d + 8) mX10_likely Q 29 [some (.ref 76), some (.int l1), some (.int l2), some (.int l3), some (.int l4)] [] M := by
  intro n
  induction n with
  | zero => intro l3 l4 M h; simp [G_X10_likely_29] at h
  | succ n ih =>
    intro l3 l4 M h
    rw [G_X10_likely_29] at h
    refine fl_iload4 (pc := 29) dX10_likely_29 ?_
    refine fm_bipushv (pc := 31) 10 (by decide) dX10_likely_31 ?_
    refine fm_icmp_ge (pc := 33) 81 (by decide) dX10_likely_33 (fun c33 => ?_) (fun c33 => ?_)
    · replace h := fm_itp c33 h
      refine fm_fgt [some (.ref 76), some (.int l1), some (.int l2), some (.int l3), some (.int l4)] (by simp [fm_sub]) ?_
      cases h
      exact k1 _ _ rfl
    · replace h := fm_itn c33 h
      refine fl_aload0 (pc := 36) dX10_likely_36 ?_
      refine fl_iload4 (pc := 37) dX10_likely_37 ?_
      refine fm_puti (pc := 39) lp_10_93 sh_76 rfl dX10_likely_39 ?_
      obtain ⟨M4, eM4, h⟩ := fm_ltp h
      refine fm_cgm eM4 ?_
      refine fl_iload3 (pc := 42) dX10_likely_42 ?_
      refine fl_aload0 (pc := 43) dX10_likely_43 ?_
      refine fm_iconstv (pc := 44) 0 (by decide) dX10_likely_44 ?_
      refine fl_aload0 (pc := 45) dX10_likely_45 ?_
      refine fm_getr (pc := 46) lk_10_34 sh_76 rfl dX10_likely_46 ?_
      refine fl_iload1 (pc := 49) dX10_likely_49 ?_
      obtain ⟨g5, h⟩ := fm_gdp h
      refine fm_iald (pc := 50) sh_85 (fm_inb_ok g5) dX10_likely_50 ?_
      refine fl_aload0 (pc := 51) dX10_likely_51 ?_
      refine fm_iconstv (pc := 52) 0 (by decide) dX10_likely_52 ?_
      refine fl_aload0 (pc := 53) dX10_likely_53 ?_
      refine fm_getr (pc := 54) lk_10_34 sh_76 rfl dX10_likely_54 ?_
      refine fl_iload1 (pc := 57) dX10_likely_57 ?_
      obtain ⟨g6, h⟩ := fm_gdp h
      refine fm_iald (pc := 58) sh_85 (fm_inb_ok g6) dX10_likely_58 ?_
      obtain ⟨v7, M8, ev7, h⟩ := fm_bdp h
      refine fm_callV (pc := 59) mX10_humAll [_, _] _ rfl cvX10_humAll ml_10_385 sh_76 rfl rfl (Nat.le_of_ble_eq_true rfl) (Nat.le_of_ble_eq_true rfl) dX10_likely_59 ?_
      refine sp_X10_humAll ev7 ?_
      refine fm_ret1 ?_
      obtain ⟨v9, M10, ev9, h⟩ := fm_bdp h
      refine fm_callV (pc := 62) mX10_passes [_, _, _] _ rfl cvX10_passes ml_10_388 sh_76 rfl rfl (Nat.le_of_ble_eq_true rfl) (Nat.le_of_ble_eq_true rfl) dX10_likely_62 ?_
      refine sp_X10_passes ev9 ?_
      refine fm_ret1 ?_
      refine fm_if_eq (pc := 65) 72 (by decide) dX10_likely_65 (fun c65 => ?_) (fun c65 => ?_)
      · replace h := fm_itp c65 h
        refine fm_iconstv (pc := 72) 0 (by decide) dX10_likely_72 ?_
        refine fm_iadd (pc := 73) dX10_likely_73 ?_
        obtain ⟨x11, ex11, h⟩ := fm_ltp h
        refine fm_cgi ex11 ?_
        refine fl_istore3 (pc := 74) rfl (by decide) dX10_likely_74 ?_
        refine fl_iinc4 (pc := 75) rfl 1 (by decide) (by decide) dX10_likely_75 ?_
        refine fm_goto (pc := 78) 29 (by decide) dX10_likely_78 ?_
        refine fm_fgt [some (.ref 76), some (.int l1), some (.int l2), some (.int x11), some (.int (l4 + 1))] (by simp [fm_sub]) ?_
        exact ih _ _ _ h
      · replace h := fm_itn c65 h
        refine fm_iconstv (pc := 68) 1 (by decide) dX10_likely_68 ?_
        refine fm_goto (pc := 69) 73 (by decide) dX10_likely_69 ?_
        refine fm_iadd (pc := 73) dX10_likely_73 ?_
        obtain ⟨x12, ex12, h⟩ := fm_ltp h
        refine fm_cgi ex12 ?_
        refine fl_istore3 (pc := 74) rfl (by decide) dX10_likely_74 ?_
        refine fl_iinc4 (pc := 75) rfl 1 (by decide) (by decide) dX10_likely_75 ?_
        refine fm_goto (pc := 78) 29 (by decide) dX10_likely_78 ?_
        refine fm_fgt [some (.ref 76), some (.int l1), some (.int l2), some (.int x12), some (.int (l4 + 1))] (by simp [fm_sub]) ?_
        exact ih _ _ _ h
theorem sp_X10_likely {d : Nat} {a1 : Int32} {a2 : Int32} {M : fm_M} {x : Int32 × fm_M} {Q : Option Value → fm_M → Prop} (h : F_X10_likely a1 a2 M = some x) (hq : Q (some (.int x.1)) x.2) : fm_ct (d + 8) mX10_likely [.ref 76, .int a1, .int a2] M Q := by
  rw [F_X10_likely] at h
  show fm_mw (d + 8) mX10_likely Q 0 [some (.ref 76), some (.int a1), some (.int a2), none, none] [] M
  refine fl_aload0 (pc := 0) dX10_likely_0 ?_
  refine fm_iconstv (pc := 1) 0 (by decide) dX10_likely_1 ?_
  refine fm_puti (pc := 2) lp_10_130 sh_76 rfl dX10_likely_2 ?_
  obtain ⟨M1, eM1, h⟩ := fm_ltp h
  refine fm_cgm eM1 ?_
  refine fl_aload0 (pc := 5) dX10_likely_5 ?_
  refine fl_iload1 (pc := 6) dX10_likely_6 ?_
  obtain ⟨v2, M3, ev2, h⟩ := fm_bdp h
  refine fm_callV (pc := 7) mX10_isMotion [_] _ rfl cvX10_isMotion ml_10_401 sh_76 rfl rfl (Nat.le_of_ble_eq_true rfl) (Nat.le_of_ble_eq_true rfl) dX10_likely_7 ?_
  refine sp_X10_isMotion ev2 ?_
  refine fm_ret1 ?_
  refine fm_if_eq (pc := 10) 22 (by decide) dX10_likely_10 (fun c10 => ?_) (fun c10 => ?_)
  · replace h := fm_itp c10 h
    refine fm_iconstv (pc := 22) (-1) (by decide) dX10_likely_22 ?_
    refine fm_iret (pc := 23) rfl ?_ dX10_likely_23
    cases h
    exact hq
  · replace h := fm_itn c10 h
    refine fl_iload2 (pc := 13) dX10_likely_13 ?_
    refine fm_if_lt (pc := 14) 22 (by decide) dX10_likely_14 (fun c14 => ?_) (fun c14 => ?_)
    · replace h := fm_itp c14 h
      refine fm_iconstv (pc := 22) (-1) (by decide) dX10_likely_22 ?_
      refine fm_iret (pc := 23) rfl ?_ dX10_likely_23
      cases h
      exact hq
    · replace h := fm_itn c14 h
      refine fl_iload2 (pc := 17) dX10_likely_17 ?_
      refine fm_iconstv (pc := 18) 1 (by decide) dX10_likely_18 ?_
      refine fm_icmp_le (pc := 19) 24 (by decide) dX10_likely_19 (fun c19 => ?_) (fun c19 => ?_)
      · replace h := fm_itp c19 h
        refine fm_iconstv (pc := 24) 0 (by decide) dX10_likely_24 ?_
        refine fl_istore3 (pc := 25) rfl (by decide) dX10_likely_25 ?_
        refine fm_iconstv (pc := 26) 0 (by decide) dX10_likely_26 ?_
        refine fl_istore4 (pc := 27) rfl (by decide) dX10_likely_27 ?_
        obtain ⟨w13, M14, ew13, h⟩ := fm_bdp h
        refine lp_X10_likely_29  ?_ _ _ _ _ ew13
        intro w139 M149 q9
        cases q9
        refine fl_aload0 (pc := 81) dX10_likely_81 ?_
        refine fm_iconstv (pc := 82) (-1) (by decide) dX10_likely_82 ?_
        refine fm_puti (pc := 83) lp_10_93 sh_76 rfl dX10_likely_83 ?_
        obtain ⟨M15, eM15, h⟩ := fm_ltp h
        refine fm_cgm eM15 ?_
        refine fl_iload3 (pc := 86) dX10_likely_86 ?_
        refine fm_bipushv (pc := 87) 10 (by decide) dX10_likely_87 ?_
        obtain ⟨v16, M17, ev16, h⟩ := fm_bdp h
        refine fm_callS (pc := 89) mX10_common [_, _] _ rfl csX10_common ml_10_457 rfl (Nat.le_of_ble_eq_true rfl) (Nat.le_of_ble_eq_true rfl) dX10_likely_89 ?_
        refine sp_X10_common ev16 ?_
        refine fm_ret1 ?_
        refine fl_istore4 (pc := 92) rfl (by decide) dX10_likely_92 ?_
        refine fl_iload2 (pc := 94) dX10_likely_94 ?_
        refine fm_if_ne (pc := 95) 105 (by decide) dX10_likely_95 (fun c95 => ?_) (fun c95 => ?_)
        · replace h := fm_itn c95 h
          refine fm_bipushv (pc := 105) 10 (by decide) dX10_likely_105 ?_
          refine fl_iload4 (pc := 107) dX10_likely_107 ?_
          obtain ⟨g18, h⟩ := fm_gdp h
          refine fm_idiv (pc := 109) (fm_nz_ok g18) dX10_likely_109 ?_
          refine fm_iret (pc := 110) rfl ?_ dX10_likely_110
          cases h
          exact hq
        · replace h := fm_itp c95 h
          refine fl_iload3 (pc := 98) dX10_likely_98 ?_
          refine fl_iload4 (pc := 99) dX10_likely_99 ?_
          obtain ⟨g19, h⟩ := fm_gdp h
          refine fm_idiv (pc := 101) (fm_nz_ok g19) dX10_likely_101 ?_
          refine fm_goto (pc := 102) 110 (by decide) dX10_likely_102 ?_
          refine fm_iret (pc := 110) rfl ?_ dX10_likely_110
          cases h
          exact hq
      · replace h := fm_itn c19 h
        refine fm_iconstv (pc := 22) (-1) (by decide) dX10_likely_22 ?_
        refine fm_iret (pc := 23) rfl ?_ dX10_likely_23
        cases h
        exact hq
/-! X10_power -/
def G_X10_power_4 : Nat → Int32 → Int32 → Int32 → Int32 → fm_M → Option ((Int32 × Int32) × fm_M)
  | 0, _, _, _, _, _ => none
  | n + 1, l0, l1, l2, l3, M =>
    if l1 ≤ l3 then (
      some ((l2, l3), M)
    ) else (
      fm_lt ((l2 * l0)) (fun x1 =>
      G_X10_power_4 n l0 l1 x1 (l3 + 1) M)
    )
def F_X10_power (a0 : Int32) (a1 : Int32) (M : fm_M) : Option (Int32 × fm_M) :=
    fm_bd (G_X10_power_4 fm_fuel a0 a1 1 0 M) (fun w2 M3 =>
      some (w2.1, M3))
theorem lp_X10_power_4 {d : Nat} {Q : Option Value → fm_M → Prop} {l0 : Int32} {l1 : Int32}   {x : (Int32 × Int32) × fm_M} (k1 : ∀ (v : Int32 × Int32) (M2 : fm_M), x = (v, M2) → fm_mw d mX10_power Q 19 [some (.int l0), some (.int l1), some (.int v.1), some (.int v.2)] [] M2) : ∀ (n : Nat) (l2 : Int32) (l3 : Int32) (M : fm_M), G_X10_power_4 n l0 l1 l2 l3 M = some x → fm_mw d mX10_power Q 4 [some (.int l0), some (.int l1), some (.int l2), some (.int l3)] [] M := by
  intro n
  induction n with
  | zero => intro l2 l3 M h; simp [G_X10_power_4] at h
  | succ n ih =>
    intro l2 l3 M h
    rw [G_X10_power_4] at h
    refine fl_iload3 (pc := 4) dX10_power_4 ?_
    refine fl_iload1 (pc := 5) dX10_power_5 ?_
    refine fm_icmp_ge (pc := 6) 19 (by decide) dX10_power_6 (fun c6 => ?_) (fun c6 => ?_)
    · replace h := fm_itp c6 h
      refine fm_fgt [some (.int l0), some (.int l1), some (.int l2), some (.int l3)] (by simp [fm_sub]) ?_
      cases h
      exact k1 _ _ rfl
    · replace h := fm_itn c6 h
      refine fl_iload2 (pc := 9) dX10_power_9 ?_
      refine fl_iload0 (pc := 10) dX10_power_10 ?_
      refine fm_imul (pc := 11) dX10_power_11 ?_
      obtain ⟨x1, ex1, h⟩ := fm_ltp h
      refine fm_cgi ex1 ?_
      refine fl_istore2 (pc := 12) rfl (by decide) dX10_power_12 ?_
      refine fl_iinc3 (pc := 13) rfl 1 (by decide) (by decide) dX10_power_13 ?_
      refine fm_goto (pc := 16) 4 (by decide) dX10_power_16 ?_
      refine fm_fgt [some (.int l0), some (.int l1), some (.int x1), some (.int (l3 + 1))] (by simp [fm_sub]) ?_
      exact ih _ _ _ h
theorem sp_X10_power {d : Nat} {a0 : Int32} {a1 : Int32} {M : fm_M} {x : Int32 × fm_M} {Q : Option Value → fm_M → Prop} (h : F_X10_power a0 a1 M = some x) (hq : Q (some (.int x.1)) x.2) : fm_ct d mX10_power [.int a0, .int a1] M Q := by
  rw [F_X10_power] at h
  show fm_mw d mX10_power Q 0 [some (.int a0), some (.int a1), none, none] [] M
  refine fm_iconstv (pc := 0) 1 (by decide) dX10_power_0 ?_
  refine fl_istore2 (pc := 1) rfl (by decide) dX10_power_1 ?_
  refine fm_iconstv (pc := 2) 0 (by decide) dX10_power_2 ?_
  refine fl_istore3 (pc := 3) rfl (by decide) dX10_power_3 ?_
  obtain ⟨w2, M3, ew2, h⟩ := fm_bdp h
  refine lp_X10_power_4  ?_ _ _ _ _ ew2
  intro w29 M39 q9
  cases q9
  refine fl_iload2 (pc := 19) dX10_power_19 ?_
  refine fm_iret (pc := 20) rfl ?_ dX10_power_20
  cases h
  exact hq
/-! X10_layOrder -/
def G_X10_layOrder_7 : Nat → Int32 → Int32 → fm_M → Option ((Int32) × fm_M)
  | 0, _, _, _ => none
  | n + 1, l1, l2, M =>
    fm_gd (fm_inb 1 20) (
    if (M.1 78 (Int32.toNatClampNeg 1)) ≤ l2 then (
      some (l2, M)
    ) else (
      if 4 ≤ (M.1 76 52) then (
        some (l2, M)
      ) else (
        fm_gd (fm_inb l2 230) (
        if (M.1 100 (Int32.toNatClampNeg l2)) = (-1) then (
          fm_gd (fm_inb (M.1 76 52) 4) (
          fm_lt (fm_up M 105 (Int32.toNatClampNeg (M.1 76 52)) l2) (fun M5 =>
          fm_lt (fm_up M5 76 52 ((M5.1 76 52) + 1)) (fun M6 =>
          G_X10_layOrder_7 n l1 (l2 + 1) M6)))
        ) else (
          G_X10_layOrder_7 n l1 (l2 + 1) M
        ))
      )
    ))
def G_X10_layOrder_91 : Nat → Int32 → Int32 → Int32 → fm_M → Option ((Int32) × fm_M)
  | 0, _, _, _, _ => none
  | n + 1, l1, l2, l3, M =>
    if (M.1 76 52) ≤ l3 then (
      some (l3, M)
    ) else (
      fm_gd (fm_inb l3 4) (
      fm_gd (fm_inb 0 23) (
      fm_bd (F_X10_power l1 (((M.1 76 52) - 1) - l3) M) (fun v16 M17 =>
      fm_gd (fm_nz v16) (
      fm_gd (fm_nz l1) (
      fm_gd (fm_inb (10 + (M.1 105 (Int32.toNatClampNeg l3))) 230) (
      fm_lt (fm_up M17 99 (Int32.toNatClampNeg (10 + (M.1 105 (Int32.toNatClampNeg l3)))) ((M.1 94 (Int32.toNatClampNeg 0)) + (i_rem (l2 / v16) l1))) (fun M21 =>
      G_X10_layOrder_91 n l1 l2 (l3 + 1) M21)))))))
    )
def G_X10_layOrder_71 : Nat → Int32 → Int32 → fm_M → Option ((Int32) × fm_M)
  | 0, _, _, _ => none
  | n + 1, l1, l2, M =>
    fm_bd (F_X10_power l1 (M.1 76 52) M) (fun v10 M11 =>
    if v10 ≤ l2 then (
      some (l2, M11)
    ) else (
      fm_bd (F_X10_copies 1 0 M11) (fun v12 M13 =>
      fm_bd (G_X10_layOrder_91 fm_fuel l1 l2 0 M13) (fun w22 M23 =>
        fm_bd (F_X10_goesOn l1 M23) (fun v24 M25 =>
        fm_bd (F_X10_manyOf 1 1 M25) (fun v26 M27 =>
        fm_bd (F_X10_manyOf 0 1 M27) (fun v28 M29 =>
        fm_lt ((v26 - v28)) (fun x30 =>
        if (M29.1 76 53) < x30 then (
          fm_lt (fm_up M29 76 53 x30) (fun M31 =>
          fm_lt (fm_up M31 76 54 l2) (fun M32 =>
          G_X10_layOrder_71 n l1 (l2 + 1) M32))
        ) else (
          G_X10_layOrder_71 n l1 (l2 + 1) M29
        )))))))
    ))
def F_X10_layOrder (a1 : Int32) (M : fm_M) : Option (Unit × fm_M) :=
    fm_lt (fm_up M 76 52 0) (fun M1 =>
    fm_bd (G_X10_layOrder_7 fm_fuel a1 0 M1) (fun w7 M8 =>
      fm_lt (fm_up M8 76 53 (-1)) (fun M9 =>
      fm_bd (G_X10_layOrder_71 fm_fuel a1 0 M9) (fun w33 M34 =>
        some ((), M34)))))
theorem lp_X10_layOrder_7 {d : Nat} {Q : Option Value → fm_M → Prop} {l1 : Int32}   {x : (Int32) × fm_M} (k1 : ∀ (v : Int32) (M2 : fm_M), x = (v, M2) → fm_mw (d + 11) mX10_layOrder Q 64 [some (.ref 76), some (.int l1), some (.int v), none] [] M2) : ∀ (n : Nat) (l2 : Int32) (M : fm_M), G_X10_layOrder_7 n l1 l2 M = some x → fm_mw (d + 11) mX10_layOrder Q 7 [some (.ref 76), some (.int l1), some (.int l2), none] [] M := by
  intro n
  induction n with
  | zero => intro l2 M h; simp [G_X10_layOrder_7] at h
  | succ n ih =>
    intro l2 M h
    rw [G_X10_layOrder_7] at h
    refine fl_iload2 (pc := 7) dX10_layOrder_7 ?_
    refine fl_aload0 (pc := 8) dX10_layOrder_8 ?_
    refine fm_getr (pc := 9) lk_10_13 sh_76 rfl dX10_layOrder_9 ?_
    refine fm_iconstv (pc := 12) 1 (by decide) dX10_layOrder_12 ?_
    obtain ⟨g2, h⟩ := fm_gdp h
    refine fm_iald (pc := 13) sh_78 (fm_inb_ok g2) dX10_layOrder_13 ?_
    refine fm_icmp_ge (pc := 14) 64 (by decide) dX10_layOrder_14 (fun c14 => ?_) (fun c14 => ?_)
    · replace h := fm_itp c14 h
      refine fm_fgt [some (.ref 76), some (.int l1), some (.int l2), none] (by simp [fm_sub]) ?_
      cases h
      exact k1 _ _ rfl
    · replace h := fm_itn c14 h
      refine fl_aload0 (pc := 17) dX10_layOrder_17 ?_
      refine fm_geti (pc := 18) lk_10_460 sh_76 rfl dX10_layOrder_18 ?_
      refine fm_iconstv (pc := 21) 4 (by decide) dX10_layOrder_21 ?_
      refine fm_icmp_ge (pc := 22) 64 (by decide) dX10_layOrder_22 (fun c22 => ?_) (fun c22 => ?_)
      · replace h := fm_itp c22 h
        refine fm_fgt [some (.ref 76), some (.int l1), some (.int l2), none] (by simp [fm_sub]) ?_
        cases h
        exact k1 _ _ rfl
      · replace h := fm_itn c22 h
        refine fl_aload0 (pc := 25) dX10_layOrder_25 ?_
        refine fm_getr (pc := 26) lk_10_84 sh_76 rfl dX10_layOrder_26 ?_
        refine fl_iload2 (pc := 29) dX10_layOrder_29 ?_
        obtain ⟨g3, h⟩ := fm_gdp h
        refine fm_iald (pc := 30) sh_100 (fm_inb_ok g3) dX10_layOrder_30 ?_
        refine fm_iconstv (pc := 31) (-1) (by decide) dX10_layOrder_31 ?_
        refine fm_icmp_eq (pc := 32) 38 (by decide) dX10_layOrder_32 (fun c32 => ?_) (fun c32 => ?_)
        · replace h := fm_itp c32 h
          refine fl_aload0 (pc := 38) dX10_layOrder_38 ?_
          refine fm_getr (pc := 39) lk_10_108 sh_76 rfl dX10_layOrder_39 ?_
          refine fl_aload0 (pc := 42) dX10_layOrder_42 ?_
          refine fm_geti (pc := 43) lk_10_460 sh_76 rfl dX10_layOrder_43 ?_
          refine fl_iload2 (pc := 46) dX10_layOrder_46 ?_
          obtain ⟨g4, h⟩ := fm_gdp h
          refine fm_iast (pc := 47) sh_105 (fm_inb_ok g4) dX10_layOrder_47 ?_
          obtain ⟨M5, eM5, h⟩ := fm_ltp h
          refine fm_cgm eM5 ?_
          refine fl_aload0 (pc := 48) dX10_layOrder_48 ?_
          refine fm_dup (pc := 49) rfl dX10_layOrder_49 ?_
          refine fm_geti (pc := 50) lk_10_460 sh_76 rfl dX10_layOrder_50 ?_
          refine fm_iconstv (pc := 53) 1 (by decide) dX10_layOrder_53 ?_
          refine fm_iadd (pc := 54) dX10_layOrder_54 ?_
          refine fm_puti (pc := 55) lp_10_460 sh_76 rfl dX10_layOrder_55 ?_
          obtain ⟨M6, eM6, h⟩ := fm_ltp h
          refine fm_cgm eM6 ?_
          refine fl_iinc2 (pc := 58) rfl 1 (by decide) (by decide) dX10_layOrder_58 ?_
          refine fm_goto (pc := 61) 7 (by decide) dX10_layOrder_61 ?_
          refine fm_fgt [some (.ref 76), some (.int l1), some (.int (l2 + 1)), none] (by simp [fm_sub]) ?_
          exact ih _ _ h
        · replace h := fm_itn c32 h
          refine fm_goto (pc := 35) 58 (by decide) dX10_layOrder_35 ?_
          refine fl_iinc2 (pc := 58) rfl 1 (by decide) (by decide) dX10_layOrder_58 ?_
          refine fm_goto (pc := 61) 7 (by decide) dX10_layOrder_61 ?_
          refine fm_fgt [some (.ref 76), some (.int l1), some (.int (l2 + 1)), none] (by simp [fm_sub]) ?_
          exact ih _ _ h
theorem lp_X10_layOrder_91 {d : Nat} {Q : Option Value → fm_M → Prop} {l1 : Int32} {l2 : Int32}   {x : (Int32) × fm_M} (k1 : ∀ (v : Int32) (M2 : fm_M), x = (v, M2) → fm_mw (d + 11) mX10_layOrder Q 142 [some (.ref 76), some (.int l1), some (.int l2), some (.int v)] [] M2) : ∀ (n : Nat) (l3 : Int32) (M : fm_M), G_X10_layOrder_91 n l1 l2 l3 M = some x → fm_mw (d + 11) mX10_layOrder Q 91 [some (.ref 76), some (.int l1), some (.int l2), some (.int l3)] [] M := by
  intro n
  induction n with
  | zero => intro l3 M h; simp [G_X10_layOrder_91] at h
  | succ n ih =>
    intro l3 M h
    rw [G_X10_layOrder_91] at h
    refine fl_iload3 (pc := 91) dX10_layOrder_91 ?_
    refine fl_aload0 (pc := 92) dX10_layOrder_92 ?_
    refine fm_geti (pc := 93) lk_10_460 sh_76 rfl dX10_layOrder_93 ?_
    refine fm_icmp_ge (pc := 96) 142 (by decide) dX10_layOrder_96 (fun c96 => ?_) (fun c96 => ?_)
    · replace h := fm_itp c96 h
      refine fm_fgt [some (.ref 76), some (.int l1), some (.int l2), some (.int l3)] (by simp [fm_sub]) ?_
      cases h
      exact k1 _ _ rfl
    · replace h := fm_itn c96 h
      refine fl_aload0 (pc := 99) dX10_layOrder_99 ?_
      refine fm_getr (pc := 100) lk_10_81 sh_76 rfl dX10_layOrder_100 ?_
      refine fm_bipushv (pc := 103) 10 (by decide) dX10_layOrder_103 ?_
      refine fl_aload0 (pc := 105) dX10_layOrder_105 ?_
      refine fm_getr (pc := 106) lk_10_108 sh_76 rfl dX10_layOrder_106 ?_
      refine fl_iload3 (pc := 109) dX10_layOrder_109 ?_
      obtain ⟨g14, h⟩ := fm_gdp h
      refine fm_iald (pc := 110) sh_105 (fm_inb_ok g14) dX10_layOrder_110 ?_
      refine fm_iadd (pc := 111) dX10_layOrder_111 ?_
      refine fl_aload0 (pc := 112) dX10_layOrder_112 ?_
      refine fm_getr (pc := 113) lk_10_66 sh_76 rfl dX10_layOrder_113 ?_
      refine fm_iconstv (pc := 116) 0 (by decide) dX10_layOrder_116 ?_
      obtain ⟨g15, h⟩ := fm_gdp h
      refine fm_iald (pc := 117) sh_94 (fm_inb_ok g15) dX10_layOrder_117 ?_
      refine fl_iload2 (pc := 118) dX10_layOrder_118 ?_
      refine fl_iload1 (pc := 119) dX10_layOrder_119 ?_
      refine fl_aload0 (pc := 120) dX10_layOrder_120 ?_
      refine fm_geti (pc := 121) lk_10_460 sh_76 rfl dX10_layOrder_121 ?_
      refine fm_iconstv (pc := 124) 1 (by decide) dX10_layOrder_124 ?_
      refine fm_isub (pc := 125) dX10_layOrder_125 ?_
      refine fl_iload3 (pc := 126) dX10_layOrder_126 ?_
      refine fm_isub (pc := 127) dX10_layOrder_127 ?_
      obtain ⟨v16, M17, ev16, h⟩ := fm_bdp h
      refine fm_callS (pc := 128) mX10_power [_, _] _ rfl csX10_power ml_10_466 rfl (Nat.le_of_ble_eq_true rfl) (Nat.le_of_ble_eq_true rfl) dX10_layOrder_128 ?_
      refine sp_X10_power ev16 ?_
      refine fm_ret1 ?_
      obtain ⟨g18, h⟩ := fm_gdp h
      refine fm_idiv (pc := 131) (fm_nz_ok g18) dX10_layOrder_131 ?_
      refine fl_iload1 (pc := 132) dX10_layOrder_132 ?_
      obtain ⟨g19, h⟩ := fm_gdp h
      refine fq_irem (pc := 133) (fm_nz_ok g19) dX10_layOrder_133 ?_
      refine fm_iadd (pc := 134) dX10_layOrder_134 ?_
      obtain ⟨g20, h⟩ := fm_gdp h
      refine fm_iast (pc := 135) sh_99 (fm_inb_ok g20) dX10_layOrder_135 ?_
      obtain ⟨M21, eM21, h⟩ := fm_ltp h
      refine fm_cgm eM21 ?_
      refine fl_iinc3 (pc := 136) rfl 1 (by decide) (by decide) dX10_layOrder_136 ?_
      refine fm_goto (pc := 139) 91 (by decide) dX10_layOrder_139 ?_
      refine fm_fgt [some (.ref 76), some (.int l1), some (.int l2), some (.int (l3 + 1))] (by simp [fm_sub]) ?_
      exact ih _ _ h
theorem lp_X10_layOrder_71 {d : Nat} {Q : Option Value → fm_M → Prop} {l1 : Int32}   {x : (Int32) × fm_M} (k1 : ∀ (v : Int32) (M2 : fm_M), x = (v, M2) → fm_mw (d + 11) mX10_layOrder Q 188 [some (.ref 76), some (.int l1), some (.int v), none] [] M2) : ∀ (n : Nat) (l2 : Int32) (M : fm_M), G_X10_layOrder_71 n l1 l2 M = some x → fm_mw (d + 11) mX10_layOrder Q 71 [some (.ref 76), some (.int l1), some (.int l2), none] [] M := by
  intro n
  induction n with
  | zero => intro l2 M h; simp [G_X10_layOrder_71] at h
  | succ n ih =>
    intro l2 M h
    rw [G_X10_layOrder_71] at h
    refine fl_iload2 (pc := 71) dX10_layOrder_71 ?_
    refine fl_iload1 (pc := 72) dX10_layOrder_72 ?_
    refine fl_aload0 (pc := 73) dX10_layOrder_73 ?_
    refine fm_geti (pc := 74) lk_10_460 sh_76 rfl dX10_layOrder_74 ?_
    obtain ⟨v10, M11, ev10, h⟩ := fm_bdp h
    refine fm_callS (pc := 77) mX10_power [_, _] _ rfl csX10_power ml_10_466 rfl (Nat.le_of_ble_eq_true rfl) (Nat.le_of_ble_eq_true rfl) dX10_layOrder_77 ?_
    refine sp_X10_power ev10 ?_
    refine fm_ret1 ?_
    refine fm_icmp_ge (pc := 80) 188 (by decide) dX10_layOrder_80 (fun c80 => ?_) (fun c80 => ?_)
    · replace h := fm_itp c80 h
      refine fm_fgt [some (.ref 76), some (.int l1), some (.int l2), none] (by simp [fm_sub]) ?_
      cases h
      exact k1 _ _ rfl
    · replace h := fm_itn c80 h
      refine fl_aload0 (pc := 83) dX10_layOrder_83 ?_
      refine fm_iconstv (pc := 84) 1 (by decide) dX10_layOrder_84 ?_
      refine fm_iconstv (pc := 85) 0 (by decide) dX10_layOrder_85 ?_
      obtain ⟨v12, M13, ev12, h⟩ := fm_bdp h
      refine fm_callV (pc := 86) mX10_copies [_, _] _ rfl cvX10_copies ml_10_414 sh_76 rfl rfl (Nat.le_of_ble_eq_true rfl) (Nat.le_of_ble_eq_true rfl) dX10_layOrder_86 ?_
      refine sp_X10_copies ev12 ?_
      refine fm_ret0 ?_
      refine fm_iconstv (pc := 89) 0 (by decide) dX10_layOrder_89 ?_
      refine fl_istore3 (pc := 90) rfl (by decide) dX10_layOrder_90 ?_
      obtain ⟨w22, M23, ew22, h⟩ := fm_bdp h
      refine lp_X10_layOrder_91  ?_ _ _ _ ew22
      intro w229 M239 q9
      cases q9
      refine fl_aload0 (pc := 142) dX10_layOrder_142 ?_
      refine fl_iload1 (pc := 143) dX10_layOrder_143 ?_
      obtain ⟨v24, M25, ev24, h⟩ := fm_bdp h
      refine fm_callV (pc := 144) mX10_goesOn [_] _ rfl cvX10_goesOn ml_10_420 sh_76 rfl rfl (Nat.le_of_ble_eq_true rfl) (Nat.le_of_ble_eq_true rfl) dX10_layOrder_144 ?_
      refine sp_X10_goesOn ev24 ?_
      refine fm_ret0 ?_
      refine fl_aload0 (pc := 147) dX10_layOrder_147 ?_
      refine fm_iconstv (pc := 148) 1 (by decide) dX10_layOrder_148 ?_
      refine fm_iconstv (pc := 149) 1 (by decide) dX10_layOrder_149 ?_
      obtain ⟨v26, M27, ev26, h⟩ := fm_bdp h
      refine fm_callV (pc := 150) mX10_manyOf [_, _] _ rfl cvX10_manyOf ml_10_423 sh_76 rfl rfl (Nat.le_of_ble_eq_true rfl) (Nat.le_of_ble_eq_true rfl) dX10_layOrder_150 ?_
      refine sp_X10_manyOf ev26 ?_
      refine fm_ret1 ?_
      refine fl_aload0 (pc := 153) dX10_layOrder_153 ?_
      refine fm_iconstv (pc := 154) 0 (by decide) dX10_layOrder_154 ?_
      refine fm_iconstv (pc := 155) 1 (by decide) dX10_layOrder_155 ?_
      obtain ⟨v28, M29, ev28, h⟩ := fm_bdp h
      refine fm_callV (pc := 156) mX10_manyOf [_, _] _ rfl cvX10_manyOf ml_10_423 sh_76 rfl rfl (Nat.le_of_ble_eq_true rfl) (Nat.le_of_ble_eq_true rfl) dX10_layOrder_156 ?_
      refine sp_X10_manyOf ev28 ?_
      refine fm_ret1 ?_
      refine fm_isub (pc := 159) dX10_layOrder_159 ?_
      obtain ⟨x30, ex30, h⟩ := fm_ltp h
      refine fm_cgi ex30 ?_
      refine fl_istore3 (pc := 160) rfl (by decide) dX10_layOrder_160 ?_
      refine fl_iload3 (pc := 161) dX10_layOrder_161 ?_
      refine fl_aload0 (pc := 162) dX10_layOrder_162 ?_
      refine fm_geti (pc := 163) lk_10_463 sh_76 rfl dX10_layOrder_163 ?_
      refine fm_icmp_gt (pc := 166) 172 (by decide) dX10_layOrder_166 (fun c166 => ?_) (fun c166 => ?_)
      · replace h := fm_itp c166 h
        refine fl_aload0 (pc := 172) dX10_layOrder_172 ?_
        refine fl_iload3 (pc := 173) dX10_layOrder_173 ?_
        refine fm_puti (pc := 174) lp_10_463 sh_76 rfl dX10_layOrder_174 ?_
        obtain ⟨M31, eM31, h⟩ := fm_ltp h
        refine fm_cgm eM31 ?_
        refine fl_aload0 (pc := 177) dX10_layOrder_177 ?_
        refine fl_iload2 (pc := 178) dX10_layOrder_178 ?_
        refine fm_puti (pc := 179) lp_10_469 sh_76 rfl dX10_layOrder_179 ?_
        obtain ⟨M32, eM32, h⟩ := fm_ltp h
        refine fm_cgm eM32 ?_
        refine fl_iinc2 (pc := 182) rfl 1 (by decide) (by decide) dX10_layOrder_182 ?_
        refine fm_goto (pc := 185) 71 (by decide) dX10_layOrder_185 ?_
        refine fm_fgt [some (.ref 76), some (.int l1), some (.int (l2 + 1)), none] (by simp [fm_sub]) ?_
        exact ih _ _ h
      · replace h := fm_itn c166 h
        refine fm_goto (pc := 169) 182 (by decide) dX10_layOrder_169 ?_
        refine fl_iinc2 (pc := 182) rfl 1 (by decide) (by decide) dX10_layOrder_182 ?_
        refine fm_goto (pc := 185) 71 (by decide) dX10_layOrder_185 ?_
        refine fm_fgt [some (.ref 76), some (.int l1), some (.int (l2 + 1)), none] (by simp [fm_sub]) ?_
        exact ih _ _ h
theorem sp_X10_layOrder {d : Nat} {a1 : Int32} {M : fm_M} {x : Unit × fm_M} {Q : Option Value → fm_M → Prop} (h : F_X10_layOrder a1 M = some x) (hq : Q none x.2) : fm_ct (d + 11) mX10_layOrder [.ref 76, .int a1] M Q := by
  rw [F_X10_layOrder] at h
  show fm_mw (d + 11) mX10_layOrder Q 0 [some (.ref 76), some (.int a1), none, none] [] M
  refine fl_aload0 (pc := 0) dX10_layOrder_0 ?_
  refine fm_iconstv (pc := 1) 0 (by decide) dX10_layOrder_1 ?_
  refine fm_puti (pc := 2) lp_10_460 sh_76 rfl dX10_layOrder_2 ?_
  obtain ⟨M1, eM1, h⟩ := fm_ltp h
  refine fm_cgm eM1 ?_
  refine fm_iconstv (pc := 5) 0 (by decide) dX10_layOrder_5 ?_
  refine fl_istore2 (pc := 6) rfl (by decide) dX10_layOrder_6 ?_
  obtain ⟨w7, M8, ew7, h⟩ := fm_bdp h
  refine lp_X10_layOrder_7  ?_ _ _ _ ew7
  intro w79 M89 q9
  cases q9
  refine fl_aload0 (pc := 64) dX10_layOrder_64 ?_
  refine fm_iconstv (pc := 65) (-1) (by decide) dX10_layOrder_65 ?_
  refine fm_puti (pc := 66) lp_10_463 sh_76 rfl dX10_layOrder_66 ?_
  obtain ⟨M9, eM9, h⟩ := fm_ltp h
  refine fm_cgm eM9 ?_
  refine fm_iconstv (pc := 69) 0 (by decide) dX10_layOrder_69 ?_
  refine fl_istore2 (pc := 70) rfl (by decide) dX10_layOrder_70 ?_
  obtain ⟨w33, M34, ew33, h⟩ := fm_bdp h
  refine lp_X10_layOrder_71  ?_ _ _ _ ew33
  intro w339 M349 q9
  cases q9
  refine fm_vret (pc := 188) rfl ?_ dX10_layOrder_188
  cases h
  exact hq
/-! X10_order -/
def F_X10_order (a1 : Int32) (a2 : Int32) (M : fm_M) : Option (Int32 × fm_M) :=
    fm_lt (fm_up M 76 0 0) (fun M1 =>
    if a1 < 1 then (
      some ((-1), M1)
    ) else (
      if 4 < a1 then (
        some ((-1), M1)
      ) else (
        if a2 < 0 then (
          some ((-1), M1)
        ) else (
          if a2 ≤ 4 then (
            fm_bd (F_X10_layOrder a1 M1) (fun v2 M3 =>
            if a2 = 4 then (
              some ((M3.1 76 53), M3)
            ) else (
              if (M3.1 76 52) ≤ a2 then (
                some ((-2), M3)
              ) else (
                fm_bd (F_X10_power a1 (((M3.1 76 52) - 1) - a2) M3) (fun v4 M5 =>
                fm_gd (fm_nz v4) (
                fm_gd (fm_nz a1) (
                some ((i_rem ((M3.1 76 54) / v4) a1), M5))))
              )
            ))
          ) else (
            some ((-1), M1)
          )
        )
      )
    ))
theorem sp_X10_order {d : Nat} {a1 : Int32} {a2 : Int32} {M : fm_M} {x : Int32 × fm_M} {Q : Option Value → fm_M → Prop} (h : F_X10_order a1 a2 M = some x) (hq : Q (some (.int x.1)) x.2) : fm_ct (d + 12) mX10_order [.ref 76, .int a1, .int a2] M Q := by
  rw [F_X10_order] at h
  show fm_mw (d + 12) mX10_order Q 0 [some (.ref 76), some (.int a1), some (.int a2)] [] M
  refine fl_aload0 (pc := 0) dX10_order_0 ?_
  refine fm_iconstv (pc := 1) 0 (by decide) dX10_order_1 ?_
  refine fm_puti (pc := 2) lp_10_130 sh_76 rfl dX10_order_2 ?_
  obtain ⟨M1, eM1, h⟩ := fm_ltp h
  refine fm_cgm eM1 ?_
  refine fl_iload1 (pc := 5) dX10_order_5 ?_
  refine fm_iconstv (pc := 6) 1 (by decide) dX10_order_6 ?_
  refine fm_icmp_lt (pc := 7) 24 (by decide) dX10_order_7 (fun c7 => ?_) (fun c7 => ?_)
  · replace h := fm_itp c7 h
    refine fm_iconstv (pc := 24) (-1) (by decide) dX10_order_24 ?_
    refine fm_iret (pc := 25) rfl ?_ dX10_order_25
    cases h
    exact hq
  · replace h := fm_itn c7 h
    refine fl_iload1 (pc := 10) dX10_order_10 ?_
    refine fm_iconstv (pc := 11) 4 (by decide) dX10_order_11 ?_
    refine fm_icmp_gt (pc := 12) 24 (by decide) dX10_order_12 (fun c12 => ?_) (fun c12 => ?_)
    · replace h := fm_itp c12 h
      refine fm_iconstv (pc := 24) (-1) (by decide) dX10_order_24 ?_
      refine fm_iret (pc := 25) rfl ?_ dX10_order_25
      cases h
      exact hq
    · replace h := fm_itn c12 h
      refine fl_iload2 (pc := 15) dX10_order_15 ?_
      refine fm_if_lt (pc := 16) 24 (by decide) dX10_order_16 (fun c16 => ?_) (fun c16 => ?_)
      · replace h := fm_itp c16 h
        refine fm_iconstv (pc := 24) (-1) (by decide) dX10_order_24 ?_
        refine fm_iret (pc := 25) rfl ?_ dX10_order_25
        cases h
        exact hq
      · replace h := fm_itn c16 h
        refine fl_iload2 (pc := 19) dX10_order_19 ?_
        refine fm_iconstv (pc := 20) 4 (by decide) dX10_order_20 ?_
        refine fm_icmp_le (pc := 21) 26 (by decide) dX10_order_21 (fun c21 => ?_) (fun c21 => ?_)
        · replace h := fm_itp c21 h
          refine fl_aload0 (pc := 26) dX10_order_26 ?_
          refine fl_iload1 (pc := 27) dX10_order_27 ?_
          obtain ⟨v2, M3, ev2, h⟩ := fm_bdp h
          refine fm_callV (pc := 28) mX10_layOrder [_] _ rfl cvX10_layOrder ml_10_472 sh_76 rfl rfl (Nat.le_of_ble_eq_true rfl) (Nat.le_of_ble_eq_true rfl) dX10_order_28 ?_
          refine sp_X10_layOrder ev2 ?_
          refine fm_ret0 ?_
          refine fl_iload2 (pc := 31) dX10_order_31 ?_
          refine fm_iconstv (pc := 32) 4 (by decide) dX10_order_32 ?_
          refine fm_icmp_ne (pc := 33) 41 (by decide) dX10_order_33 (fun c33 => ?_) (fun c33 => ?_)
          · replace h := fm_itn c33 h
            refine fl_iload2 (pc := 41) dX10_order_41 ?_
            refine fl_aload0 (pc := 42) dX10_order_42 ?_
            refine fm_geti (pc := 43) lk_10_460 sh_76 rfl dX10_order_43 ?_
            refine fm_icmp_ge (pc := 46) 71 (by decide) dX10_order_46 (fun c46 => ?_) (fun c46 => ?_)
            · replace h := fm_itp c46 h
              refine fm_bipushv (pc := 71) (-2) (by decide) dX10_order_71 ?_
              refine fm_iret (pc := 73) rfl ?_ dX10_order_73
              cases h
              exact hq
            · replace h := fm_itn c46 h
              refine fl_aload0 (pc := 49) dX10_order_49 ?_
              refine fm_geti (pc := 50) lk_10_469 sh_76 rfl dX10_order_50 ?_
              refine fl_iload1 (pc := 53) dX10_order_53 ?_
              refine fl_aload0 (pc := 54) dX10_order_54 ?_
              refine fm_geti (pc := 55) lk_10_460 sh_76 rfl dX10_order_55 ?_
              refine fm_iconstv (pc := 58) 1 (by decide) dX10_order_58 ?_
              refine fm_isub (pc := 59) dX10_order_59 ?_
              refine fl_iload2 (pc := 60) dX10_order_60 ?_
              refine fm_isub (pc := 61) dX10_order_61 ?_
              obtain ⟨v4, M5, ev4, h⟩ := fm_bdp h
              refine fm_callS (pc := 62) mX10_power [_, _] _ rfl csX10_power ml_10_466 rfl (Nat.le_of_ble_eq_true rfl) (Nat.le_of_ble_eq_true rfl) dX10_order_62 ?_
              refine sp_X10_power ev4 ?_
              refine fm_ret1 ?_
              obtain ⟨g6, h⟩ := fm_gdp h
              refine fm_idiv (pc := 65) (fm_nz_ok g6) dX10_order_65 ?_
              refine fl_iload1 (pc := 66) dX10_order_66 ?_
              obtain ⟨g7, h⟩ := fm_gdp h
              refine fq_irem (pc := 67) (fm_nz_ok g7) dX10_order_67 ?_
              refine fm_goto (pc := 68) 73 (by decide) dX10_order_68 ?_
              refine fm_iret (pc := 73) rfl ?_ dX10_order_73
              cases h
              exact hq
          · replace h := fm_itp c33 h
            refine fl_aload0 (pc := 36) dX10_order_36 ?_
            refine fm_geti (pc := 37) lk_10_463 sh_76 rfl dX10_order_37 ?_
            refine fm_iret (pc := 40) rfl ?_ dX10_order_40
            cases h
            exact hq
        · replace h := fm_itn c21 h
          refine fm_iconstv (pc := 24) (-1) (by decide) dX10_order_24 ?_
          refine fm_iret (pc := 25) rfl ?_ dX10_order_25
          cases h
          exact hq
