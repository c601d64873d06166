/-! X10_room -/
def G_X10_room_34 : Nat → Int32 → Int32 → Int32 → Int32 → fm_M → Option (((Int32) ⊕ Int32) × fm_M)
  | 0, _, _, _, _, _ => none
  | n + 1, l1, l2, l3, l4, M =>
    if 2 ≤ l4 then (
      some (.inl l4, M)
    ) else (
      fm_gd (fm_inb l1 184) (
      fm_lt (((M.1 98 (Int32.toNatClampNeg l1)) + (l4 * l3))) (fun x7 =>
      fm_bd (F_X10_isNote x7 M) (fun v8 M9 =>
      if v8 = 0 then (
        G_X10_room_34 n l1 l2 l3 (l4 + 2) M9
      ) else (
        fm_bd (F_X10_beatsOf 0 x7 l2 M9) (fun v10 M11 =>
        fm_gd (fm_inb l1 16) (
        if (M11.1 81 (Int32.toNatClampNeg l1)) < v10 then (
          G_X10_room_34 n l1 l2 l3 (l4 + 2) M11
        ) else (
          some (.inr l3, M11)
        )))
      ))))
    )
def G_X10_room_24 : Nat → Int32 → Int32 → Int32 → fm_M → Option (((Int32) ⊕ Int32) × fm_M)
  | 0, _, _, _, _ => none
  | n + 1, l1, l2, l3, M =>
    if 900 ≤ l3 then (
      some (.inl l3, M)
    ) else (
      fm_bs (G_X10_room_34 fm_fuel l1 l2 l3 (-1) M) (fun w13 M14 =>
        G_X10_room_24 n l1 l2 (l3 + 1) M14) (fun r15 M => some (.inr r15, M))
    )
def F_X10_room (a1 : Int32) (a2 : Int32) (M : fm_M) : Option (Int32 × fm_M) :=
    fm_lt (fm_up M 76 0 0) (fun M1 =>
    fm_bd (F_X10_isFork a1 M1) (fun v2 M3 =>
    if v2 = 0 then (
      some ((-1), M3)
    ) else (
      fm_bd (F_X10_isNote a2 M3) (fun v4 M5 =>
      if v4 = 0 then (
        some ((-1), M5)
      ) else (
        fm_bs (G_X10_room_24 fm_fuel a1 a2 0 M5) (fun w16 M17 =>
          some ((-2), M17)) (fun r18 M => some (r18, M))
      ))
    )))
theorem lp_X10_room_34 {d : Nat} {Q : Option Value → fm_M → Prop} {l1 : Int32} {l2 : Int32} {l3 : Int32}   {x : ((Int32) ⊕ Int32) × fm_M} (k1 : ∀ (v : Int32) (M2 : fm_M), x = (.inl v, M2) → fm_mw (d + 4) mX10_room Q 86 [some (.ref 76), some (.int l1), some (.int l2), some (.int l3), some (.int v), none] [] M2) (k2 : ∀ (r : Int32) (M2 : fm_M), x = (.inr r, M2) → Q (some (.int r)) M2) : ∀ (n : Nat) (l4 : Int32) (M : fm_M), G_X10_room_34 n l1 l2 l3 l4 M = some x → fm_mw (d + 4) mX10_room Q 34 [some (.ref 76), some (.int l1), some (.int l2), some (.int l3), some (.int l4), none] [] M := by
  intro n
  induction n with
  | zero => intro l4 M h; simp [G_X10_room_34] at h
  | succ n ih =>
    intro l4 M h
    rw [G_X10_room_34] at h
    refine fl_iload4 (pc := 34) dX10_room_34 ?_
    refine fm_iconstv (pc := 36) 2 (by decide) dX10_room_36 ?_
    refine fm_icmp_ge (pc := 37) 86 (by decide) dX10_room_37 (fun c37 => ?_) (fun c37 => ?_)
    · replace h := fm_itp c37 h
      refine fm_fgt [some (.ref 76), some (.int l1), some (.int l2), some (.int l3), some (.int l4), none] (by simp [fm_sub]) ?_
      cases h
      exact k1 _ _ rfl
    · replace h := fm_itn c37 h
      refine fl_aload0 (pc := 40) dX10_room_40 ?_
      refine fm_getr (pc := 41) lk_10_78 sh_76 rfl dX10_room_41 ?_
      refine fl_iload1 (pc := 44) dX10_room_44 ?_
      obtain ⟨g6, h⟩ := fm_gdp h
      refine fm_iald (pc := 45) sh_98 (fm_inb_ok g6) dX10_room_45 ?_
      refine fl_iload4 (pc := 46) dX10_room_46 ?_
      refine fl_iload3 (pc := 48) dX10_room_48 ?_
      refine fm_imul (pc := 49) dX10_room_49 ?_
      refine fm_iadd (pc := 50) dX10_room_50 ?_
      obtain ⟨x7, ex7, h⟩ := fm_ltp h
      refine fm_cgi ex7 ?_
      refine fl_istore5 (pc := 51) rfl (by decide) dX10_room_51 ?_
      refine fl_iload5 (pc := 53) dX10_room_53 ?_
      obtain ⟨v8, M9, ev8, h⟩ := fm_bdp h
      refine fm_callS (pc := 55) mX10_isNote [_] _ rfl csX10_isNote ml_10_407 rfl (Nat.le_of_ble_eq_true rfl) (Nat.le_of_ble_eq_true rfl) dX10_room_55 ?_
      refine sp_X10_isNote ev8 ?_
      refine fm_ret1 ?_
      refine fm_if_eq (pc := 58) 80 (by decide) dX10_room_58 (fun c58 => ?_) (fun c58 => ?_)
      · replace h := fm_itp c58 h
        refine fl_iinc4 (pc := 80) rfl 2 (by decide) (by decide) dX10_room_80 ?_
        refine fm_goto (pc := 83) 34 (by decide) dX10_room_83 ?_
        refine fm_fgt [some (.ref 76), some (.int l1), some (.int l2), some (.int l3), some (.int (l4 + 2)), none] (by simp [fm_sub]) ?_
        exact ih _ _ h
      · replace h := fm_itn c58 h
        refine fl_aload0 (pc := 61) dX10_room_61 ?_
        refine fm_iconstv (pc := 62) 0 (by decide) dX10_room_62 ?_
        refine fl_iload5 (pc := 63) dX10_room_63 ?_
        refine fl_iload2 (pc := 65) dX10_room_65 ?_
        obtain ⟨v10, M11, ev10, h⟩ := fm_bdp h
        refine fm_callV (pc := 66) mX10_beatsOf [_, _, _] _ rfl cvX10_beatsOf ml_10_342 sh_76 rfl rfl (Nat.le_of_ble_eq_true rfl) (Nat.le_of_ble_eq_true rfl) dX10_room_66 ?_
        refine sp_X10_beatsOf ev10 ?_
        refine fm_ret1 ?_
        refine fl_aload0 (pc := 69) dX10_room_69 ?_
        refine fm_getr (pc := 70) lk_10_22 sh_76 rfl dX10_room_70 ?_
        refine fl_iload1 (pc := 73) dX10_room_73 ?_
        obtain ⟨g12, h⟩ := fm_gdp h
        refine fm_iald (pc := 74) sh_81 (fm_inb_ok g12) dX10_room_74 ?_
        refine fm_icmp_gt (pc := 75) 80 (by decide) dX10_room_75 (fun c75 => ?_) (fun c75 => ?_)
        · replace h := fm_itp c75 h
          refine fl_iinc4 (pc := 80) rfl 2 (by decide) (by decide) dX10_room_80 ?_
          refine fm_goto (pc := 83) 34 (by decide) dX10_room_83 ?_
          refine fm_fgt [some (.ref 76), some (.int l1), some (.int l2), some (.int l3), some (.int (l4 + 2)), none] (by simp [fm_sub]) ?_
          exact ih _ _ h
        · replace h := fm_itn c75 h
          refine fl_iload3 (pc := 78) dX10_room_78 ?_
          refine fm_iret (pc := 79) rfl ?_ dX10_room_79
          cases h
          exact k2 _ _ rfl
theorem lp_X10_room_24 {d : Nat} {Q : Option Value → fm_M → Prop} {l1 : Int32} {l2 : Int32}   {x : ((Int32) ⊕ Int32) × fm_M} (k1 : ∀ (v : Int32) (M2 : fm_M), x = (.inl v, M2) → fm_mw (d + 4) mX10_room Q 92 [some (.ref 76), some (.int l1), some (.int l2), some (.int v), none, none] [] M2) (k2 : ∀ (r : Int32) (M2 : fm_M), x = (.inr r, M2) → Q (some (.int r)) M2) : ∀ (n : Nat) (l3 : Int32) (M : fm_M), G_X10_room_24 n l1 l2 l3 M = some x → fm_mw (d + 4) mX10_room Q 24 [some (.ref 76), some (.int l1), some (.int l2), some (.int l3), none, none] [] M := by
  intro n
  induction n with
  | zero => intro l3 M h; simp [G_X10_room_24] at h
  | succ n ih =>
    intro l3 M h
    rw [G_X10_room_24] at h
    refine fl_iload3 (pc := 24) dX10_room_24 ?_
    refine fm_sipushv (pc := 25) 900 (by decide) dX10_room_25 ?_
    refine fm_icmp_ge (pc := 28) 92 (by decide) dX10_room_28 (fun c28 => ?_) (fun c28 => ?_)
    · replace h := fm_itp c28 h
      refine fm_fgt [some (.ref 76), some (.int l1), some (.int l2), some (.int l3), none, none] (by simp [fm_sub]) ?_
      cases h
      exact k1 _ _ rfl
    · replace h := fm_itn c28 h
      refine fm_iconstv (pc := 31) (-1) (by decide) dX10_room_31 ?_
      refine fl_istore4 (pc := 32) rfl (by decide) dX10_room_32 ?_
      obtain ⟨w9, M14, ew13, hl9, hr9⟩ := fm_bsp h
      refine lp_X10_room_34  ?_ ?_ _ _ _ ew13
      · intro w13 M9 q9
        cases q9
        replace h := hl9 _ rfl
        refine fl_iinc3 (pc := 86) rfl 1 (by decide) (by decide) dX10_room_86 ?_
        refine fm_goto (pc := 89) 24 (by decide) dX10_room_89 ?_
        refine fm_fgt [some (.ref 76), some (.int l1), some (.int l2), some (.int (l3 + 1)), none, none] (by simp [fm_sub]) ?_
        exact ih _ _ h
      · intro r9 M9 q9
        cases q9
        replace h := hr9 _ rfl
        cases h
        exact k2 _ _ rfl
theorem sp_X10_room {d : Nat} {a1 : Int32} {a2 : Int32} {M : fm_M} {x : Int32 × fm_M} {Q : Option Value → fm_M → Prop} (h : F_X10_room a1 a2 M = some x) (hq : Q (some (.int x.1)) x.2) : fm_ct (d + 4) mX10_room [.ref 76, .int a1, .int a2] M Q := by
  rw [F_X10_room] at h
  show fm_mw (d + 4) mX10_room Q 0 [some (.ref 76), some (.int a1), some (.int a2), none, none, none] [] M
  refine fl_aload0 (pc := 0) dX10_room_0 ?_
  refine fm_iconstv (pc := 1) 0 (by decide) dX10_room_1 ?_
  refine fm_puti (pc := 2) lp_10_130 sh_76 rfl dX10_room_2 ?_
  obtain ⟨M1, eM1, h⟩ := fm_ltp h
  refine fm_cgm eM1 ?_
  refine fl_aload0 (pc := 5) dX10_room_5 ?_
  refine fl_iload1 (pc := 6) dX10_room_6 ?_
  obtain ⟨v2, M3, ev2, h⟩ := fm_bdp h
  refine fm_callV (pc := 7) mX10_isFork [_] _ rfl cvX10_isFork ml_10_404 sh_76 rfl rfl (Nat.le_of_ble_eq_true rfl) (Nat.le_of_ble_eq_true rfl) dX10_room_7 ?_
  refine sp_X10_isFork ev2 ?_
  refine fm_ret1 ?_
  refine fm_if_eq (pc := 10) 20 (by decide) dX10_room_10 (fun c10 => ?_) (fun c10 => ?_)
  · replace h := fm_itp c10 h
    refine fm_iconstv (pc := 20) (-1) (by decide) dX10_room_20 ?_
    refine fm_iret (pc := 21) rfl ?_ dX10_room_21
    cases h
    exact hq
  · replace h := fm_itn c10 h
    refine fl_iload2 (pc := 13) dX10_room_13 ?_
    obtain ⟨v4, M5, ev4, h⟩ := fm_bdp h
    refine fm_callS (pc := 14) mX10_isNote [_] _ rfl csX10_isNote ml_10_407 rfl (Nat.le_of_ble_eq_true rfl) (Nat.le_of_ble_eq_true rfl) dX10_room_14 ?_
    refine sp_X10_isNote ev4 ?_
    refine fm_ret1 ?_
    refine fm_if_ne (pc := 17) 22 (by decide) dX10_room_17 (fun c17 => ?_) (fun c17 => ?_)
    · replace h := fm_itn c17 h
      refine fm_iconstv (pc := 22) 0 (by decide) dX10_room_22 ?_
      refine fl_istore3 (pc := 23) rfl (by decide) dX10_room_23 ?_
      obtain ⟨w9, M17, ew16, hl9, hr9⟩ := fm_bsp h
      refine lp_X10_room_24  ?_ ?_ _ _ _ ew16
      · intro w16 M9 q9
        cases q9
        replace h := hl9 _ rfl
        refine fm_bipushv (pc := 92) (-2) (by decide) dX10_room_92 ?_
        refine fm_iret (pc := 94) rfl ?_ dX10_room_94
        cases h
        exact hq
      · intro r9 M9 q9
        cases q9
        replace h := hr9 _ rfl
        cases h
        exact hq
    · replace h := fm_itp c17 h
      refine fm_iconstv (pc := 20) (-1) (by decide) dX10_room_20 ?_
      refine fm_iret (pc := 21) rfl ?_ dX10_room_21
      cases h
      exact hq
/-! X10_minute -/
def F_X10_minute (a1 : Int32) (a2 : Int32) (M : fm_M) : Option (Int32 × fm_M) :=
    fm_lt (fm_up M 76 0 0) (fun M1 =>
    fm_bd (F_X10_isMotion a1 M1) (fun v2 M3 =>
    if v2 = 0 then (
      some ((-1), M3)
    ) else (
      if (M3.1 76 55) = 24 then (
        some ((-1), M3)
      ) else (
        fm_gd (fm_inb (M3.1 76 55) 24) (
        fm_lt (fm_up M3 106 (Int32.toNatClampNeg (M3.1 76 55)) a1) (fun M5 =>
        fm_gd (fm_inb (M5.1 76 55) 24) (
        fm_lt (fm_up M5 107 (Int32.toNatClampNeg (M5.1 76 55)) (vp_nar .boolean a2)) (fun M7 =>
        fm_gd (fm_inb (M7.1 76 55) 24) (
        fm_lt (fm_up M7 108 (Int32.toNatClampNeg (M7.1 76 55)) (-1)) (fun M9 =>
        fm_lt (fm_up M9 76 55 ((M9.1 76 55) + 1)) (fun M10 =>
        some (((M10.1 76 55) - 1), M10))))))))
      )
    )))
theorem sp_X10_minute {d : Nat} {a1 : Int32} {a2 : Int32} {M : fm_M} {x : Int32 × fm_M} {Q : Option Value → fm_M → Prop} (h : F_X10_minute a1 a2 M = some x) (hq : Q (some (.int x.1)) x.2) : fm_ct (d + 1) mX10_minute [.ref 76, .int a1, .int a2] M Q := by
  rw [F_X10_minute] at h
  show fm_mw (d + 1) mX10_minute Q 0 [some (.ref 76), some (.int a1), some (.int a2)] [] M
  refine fl_aload0 (pc := 0) dX10_minute_0 ?_
  refine fm_iconstv (pc := 1) 0 (by decide) dX10_minute_1 ?_
  refine fm_puti (pc := 2) lp_10_130 sh_76 rfl dX10_minute_2 ?_
  obtain ⟨M1, eM1, h⟩ := fm_ltp h
  refine fm_cgm eM1 ?_
  refine fl_aload0 (pc := 5) dX10_minute_5 ?_
  refine fl_iload1 (pc := 6) dX10_minute_6 ?_
  obtain ⟨v2, M3, ev2, h⟩ := fm_bdp h
  refine fm_callV (pc := 7) mX10_isMotion [_] _ rfl cvX10_isMotion ml_10_401 sh_76 rfl rfl (Nat.le_of_ble_eq_true rfl) (Nat.le_of_ble_eq_true rfl) dX10_minute_7 ?_
  refine sp_X10_isMotion ev2 ?_
  refine fm_ret1 ?_
  refine fm_if_eq (pc := 10) 22 (by decide) dX10_minute_10 (fun c10 => ?_) (fun c10 => ?_)
  · replace h := fm_itp c10 h
    refine fm_iconstv (pc := 22) (-1) (by decide) dX10_minute_22 ?_
    refine fm_iret (pc := 23) rfl ?_ dX10_minute_23
    cases h
    exact hq
  · replace h := fm_itn c10 h
    refine fl_aload0 (pc := 13) dX10_minute_13 ?_
    refine fm_geti (pc := 14) lk_10_283 sh_76 rfl dX10_minute_14 ?_
    refine fm_bipushv (pc := 17) 24 (by decide) dX10_minute_17 ?_
    refine fm_icmp_ne (pc := 19) 24 (by decide) dX10_minute_19 (fun c19 => ?_) (fun c19 => ?_)
    · replace h := fm_itn c19 h
      refine fl_aload0 (pc := 24) dX10_minute_24 ?_
      refine fm_getr (pc := 25) lk_10_114 sh_76 rfl dX10_minute_25 ?_
      refine fl_aload0 (pc := 28) dX10_minute_28 ?_
      refine fm_geti (pc := 29) lk_10_283 sh_76 rfl dX10_minute_29 ?_
      refine fl_iload1 (pc := 32) dX10_minute_32 ?_
      obtain ⟨g4, h⟩ := fm_gdp h
      refine fm_iast (pc := 33) sh_106 (fm_inb_ok g4) dX10_minute_33 ?_
      obtain ⟨M5, eM5, h⟩ := fm_ltp h
      refine fm_cgm eM5 ?_
      refine fl_aload0 (pc := 34) dX10_minute_34 ?_
      refine fm_getr (pc := 35) lk_10_117 sh_76 rfl dX10_minute_35 ?_
      refine fl_aload0 (pc := 38) dX10_minute_38 ?_
      refine fm_geti (pc := 39) lk_10_283 sh_76 rfl dX10_minute_39 ?_
      refine fl_iload2 (pc := 42) dX10_minute_42 ?_
      obtain ⟨g6, h⟩ := fm_gdp h
      refine fm_zast (pc := 43) sh_107 (fm_inb_ok g6) dX10_minute_43 ?_
      obtain ⟨M7, eM7, h⟩ := fm_ltp h
      refine fm_cgm eM7 ?_
      refine fl_aload0 (pc := 44) dX10_minute_44 ?_
      refine fm_getr (pc := 45) lk_10_121 sh_76 rfl dX10_minute_45 ?_
      refine fl_aload0 (pc := 48) dX10_minute_48 ?_
      refine fm_geti (pc := 49) lk_10_283 sh_76 rfl dX10_minute_49 ?_
      refine fm_iconstv (pc := 52) (-1) (by decide) dX10_minute_52 ?_
      obtain ⟨g8, h⟩ := fm_gdp h
      refine fm_iast (pc := 53) sh_108 (fm_inb_ok g8) dX10_minute_53 ?_
      obtain ⟨M9, eM9, h⟩ := fm_ltp h
      refine fm_cgm eM9 ?_
      refine fl_aload0 (pc := 54) dX10_minute_54 ?_
      refine fm_dup (pc := 55) rfl dX10_minute_55 ?_
      refine fm_geti (pc := 56) lk_10_283 sh_76 rfl dX10_minute_56 ?_
      refine fm_iconstv (pc := 59) 1 (by decide) dX10_minute_59 ?_
      refine fm_iadd (pc := 60) dX10_minute_60 ?_
      refine fm_puti (pc := 61) lp_10_283 sh_76 rfl dX10_minute_61 ?_
      obtain ⟨M10, eM10, h⟩ := fm_ltp h
      refine fm_cgm eM10 ?_
      refine fl_aload0 (pc := 64) dX10_minute_64 ?_
      refine fm_geti (pc := 65) lk_10_283 sh_76 rfl dX10_minute_65 ?_
      refine fm_iconstv (pc := 68) 1 (by decide) dX10_minute_68 ?_
      refine fm_isub (pc := 69) dX10_minute_69 ?_
      refine fm_iret (pc := 70) rfl ?_ dX10_minute_70
      cases h
      exact hq
    · replace h := fm_itp c19 h
      refine fm_iconstv (pc := 22) (-1) (by decide) dX10_minute_22 ?_
      refine fm_iret (pc := 23) rfl ?_ dX10_minute_23
      cases h
      exact hq
/-! X10_out -/
def F_X10_out (a1 : Int32) (M : fm_M) : Option (Int32 × fm_M) :=
    fm_lt (fm_up M 76 0 0) (fun M1 =>
    if a1 < 0 then (
      some ((-1), M1)
    ) else (
      if (M1.1 76 55) ≤ a1 then (
        some ((-1), M1)
      ) else (
        if (M1.1 76 55) = 24 then (
          some ((-1), M1)
        ) else (
          fm_gd (fm_inb (M1.1 76 55) 24) (
          fm_lt (fm_up M1 108 (Int32.toNatClampNeg (M1.1 76 55)) a1) (fun M3 =>
          fm_lt (fm_up M3 76 55 ((M3.1 76 55) + 1)) (fun M4 =>
          some (((M4.1 76 55) - 1), M4))))
        )
      )
    ))
theorem sp_X10_out {d : Nat} {a1 : Int32} {M : fm_M} {x : Int32 × fm_M} {Q : Option Value → fm_M → Prop} (h : F_X10_out a1 M = some x) (hq : Q (some (.int x.1)) x.2) : fm_ct d mX10_out [.ref 76, .int a1] M Q := by
  rw [F_X10_out] at h
  show fm_mw d mX10_out Q 0 [some (.ref 76), some (.int a1)] [] M
  refine fl_aload0 (pc := 0) dX10_out_0 ?_
  refine fm_iconstv (pc := 1) 0 (by decide) dX10_out_1 ?_
  refine fm_puti (pc := 2) lp_10_130 sh_76 rfl dX10_out_2 ?_
  obtain ⟨M1, eM1, h⟩ := fm_ltp h
  refine fm_cgm eM1 ?_
  refine fl_iload1 (pc := 5) dX10_out_5 ?_
  refine fm_if_lt (pc := 6) 26 (by decide) dX10_out_6 (fun c6 => ?_) (fun c6 => ?_)
  · replace h := fm_itp c6 h
    refine fm_iconstv (pc := 26) (-1) (by decide) dX10_out_26 ?_
    refine fm_iret (pc := 27) rfl ?_ dX10_out_27
    cases h
    exact hq
  · replace h := fm_itn c6 h
    refine fl_iload1 (pc := 9) dX10_out_9 ?_
    refine fl_aload0 (pc := 10) dX10_out_10 ?_
    refine fm_geti (pc := 11) lk_10_283 sh_76 rfl dX10_out_11 ?_
    refine fm_icmp_ge (pc := 14) 26 (by decide) dX10_out_14 (fun c14 => ?_) (fun c14 => ?_)
    · replace h := fm_itp c14 h
      refine fm_iconstv (pc := 26) (-1) (by decide) dX10_out_26 ?_
      refine fm_iret (pc := 27) rfl ?_ dX10_out_27
      cases h
      exact hq
    · replace h := fm_itn c14 h
      refine fl_aload0 (pc := 17) dX10_out_17 ?_
      refine fm_geti (pc := 18) lk_10_283 sh_76 rfl dX10_out_18 ?_
      refine fm_bipushv (pc := 21) 24 (by decide) dX10_out_21 ?_
      refine fm_icmp_ne (pc := 23) 28 (by decide) dX10_out_23 (fun c23 => ?_) (fun c23 => ?_)
      · replace h := fm_itn c23 h
        refine fl_aload0 (pc := 28) dX10_out_28 ?_
        refine fm_getr (pc := 29) lk_10_121 sh_76 rfl dX10_out_29 ?_
        refine fl_aload0 (pc := 32) dX10_out_32 ?_
        refine fm_geti (pc := 33) lk_10_283 sh_76 rfl dX10_out_33 ?_
        refine fl_iload1 (pc := 36) dX10_out_36 ?_
        obtain ⟨g2, h⟩ := fm_gdp h
        refine fm_iast (pc := 37) sh_108 (fm_inb_ok g2) dX10_out_37 ?_
        obtain ⟨M3, eM3, h⟩ := fm_ltp h
        refine fm_cgm eM3 ?_
        refine fl_aload0 (pc := 38) dX10_out_38 ?_
        refine fm_dup (pc := 39) rfl dX10_out_39 ?_
        refine fm_geti (pc := 40) lk_10_283 sh_76 rfl dX10_out_40 ?_
        refine fm_iconstv (pc := 43) 1 (by decide) dX10_out_43 ?_
        refine fm_iadd (pc := 44) dX10_out_44 ?_
        refine fm_puti (pc := 45) lp_10_283 sh_76 rfl dX10_out_45 ?_
        obtain ⟨M4, eM4, h⟩ := fm_ltp h
        refine fm_cgm eM4 ?_
        refine fl_aload0 (pc := 48) dX10_out_48 ?_
        refine fm_geti (pc := 49) lk_10_283 sh_76 rfl dX10_out_49 ?_
        refine fm_iconstv (pc := 52) 1 (by decide) dX10_out_52 ?_
        refine fm_isub (pc := 53) dX10_out_53 ?_
        refine fm_iret (pc := 54) rfl ?_ dX10_out_54
        cases h
        exact hq
      · replace h := fm_itp c23 h
        refine fm_iconstv (pc := 26) (-1) (by decide) dX10_out_26 ?_
        refine fm_iret (pc := 27) rfl ?_ dX10_out_27
        cases h
        exact hq
/-! X10_known -/
def F_X10_known (a1 : Int32) (M : fm_M) : Option (Int32 × fm_M) :=
    fm_lt (fm_up M 76 0 0) (fun M1 =>
    if a1 < (-1) then (
      some (0, M1)
    ) else (
      if a1 ≤ (M1.1 76 55) then (
        fm_lt (fm_up M1 76 56 a1) (fun M2 =>
        some (1, M2))
      ) else (
        some (0, M1)
      )
    ))
theorem sp_X10_known {d : Nat} {a1 : Int32} {M : fm_M} {x : Int32 × fm_M} {Q : Option Value → fm_M → Prop} (h : F_X10_known a1 M = some x) (hq : Q (some (.int x.1)) x.2) : fm_ct d mX10_known [.ref 76, .int a1] M Q := by
  rw [F_X10_known] at h
  show fm_mw d mX10_known Q 0 [some (.ref 76), some (.int a1)] [] M
  refine fl_aload0 (pc := 0) dX10_known_0 ?_
  refine fm_iconstv (pc := 1) 0 (by decide) dX10_known_1 ?_
  refine fm_puti (pc := 2) lp_10_130 sh_76 rfl dX10_known_2 ?_
  obtain ⟨M1, eM1, h⟩ := fm_ltp h
  refine fm_cgm eM1 ?_
  refine fl_iload1 (pc := 5) dX10_known_5 ?_
  refine fm_iconstv (pc := 6) (-1) (by decide) dX10_known_6 ?_
  refine fm_icmp_lt (pc := 7) 18 (by decide) dX10_known_7 (fun c7 => ?_) (fun c7 => ?_)
  · replace h := fm_itp c7 h
    refine fm_iconstv (pc := 18) 0 (by decide) dX10_known_18 ?_
    refine fm_zret (pc := 19) rfl (by decide) ?_ dX10_known_19
    cases h
    exact hq
  · replace h := fm_itn c7 h
    refine fl_iload1 (pc := 10) dX10_known_10 ?_
    refine fl_aload0 (pc := 11) dX10_known_11 ?_
    refine fm_geti (pc := 12) lk_10_283 sh_76 rfl dX10_known_12 ?_
    refine fm_icmp_le (pc := 15) 20 (by decide) dX10_known_15 (fun c15 => ?_) (fun c15 => ?_)
    · replace h := fm_itp c15 h
      refine fl_aload0 (pc := 20) dX10_known_20 ?_
      refine fl_iload1 (pc := 21) dX10_known_21 ?_
      refine fm_puti (pc := 22) lp_10_111 sh_76 rfl dX10_known_22 ?_
      obtain ⟨M2, eM2, h⟩ := fm_ltp h
      refine fm_cgm eM2 ?_
      refine fm_iconstv (pc := 25) 1 (by decide) dX10_known_25 ?_
      refine fm_zret (pc := 26) rfl (by decide) ?_ dX10_known_26
      cases h
      exact hq
    · replace h := fm_itn c15 h
      refine fm_iconstv (pc := 18) 0 (by decide) dX10_known_18 ?_
      refine fm_zret (pc := 19) rfl (by decide) ?_ dX10_known_19
      cases h
      exact hq
/-! X10_knownMany -/
def F_X10_knownMany  (M : fm_M) : Option (Int32 × fm_M) :=
    if (M.1 76 56) = (-1) then (
      some ((M.1 76 55), M)
    ) else (
      some ((M.1 76 56), M)
    )
theorem sp_X10_knownMany {d : Nat}  {M : fm_M} {x : Int32 × fm_M} {Q : Option Value → fm_M → Prop} (h : F_X10_knownMany  M = some x) (hq : Q (some (.int x.1)) x.2) : fm_ct d mX10_knownMany [.ref 76] M Q := by
  rw [F_X10_knownMany] at h
  show fm_mw d mX10_knownMany Q 0 [some (.ref 76)] [] M
  refine fl_aload0 (pc := 0) dX10_knownMany_0 ?_
  refine fm_geti (pc := 1) lk_10_111 sh_76 rfl dX10_knownMany_1 ?_
  refine fm_iconstv (pc := 4) (-1) (by decide) dX10_knownMany_4 ?_
  refine fm_icmp_ne (pc := 5) 15 (by decide) dX10_knownMany_5 (fun c5 => ?_) (fun c5 => ?_)
  · replace h := fm_itn c5 h
    refine fl_aload0 (pc := 15) dX10_knownMany_15 ?_
    refine fm_geti (pc := 16) lk_10_111 sh_76 rfl dX10_knownMany_16 ?_
    refine fm_iret (pc := 19) rfl ?_ dX10_knownMany_19
    cases h
    exact hq
  · replace h := fm_itp c5 h
    refine fl_aload0 (pc := 8) dX10_knownMany_8 ?_
    refine fm_geti (pc := 9) lk_10_283 sh_76 rfl dX10_knownMany_9 ?_
    refine fm_goto (pc := 12) 19 (by decide) dX10_knownMany_12 ?_
    refine fm_iret (pc := 19) rfl ?_ dX10_knownMany_19
    cases h
    exact hq
/-! X10_fitsWidth -/
def J_X10_fitsWidth_67 (rec : Int32 → fm_M → Option (((Int32) ⊕ Int32) × fm_M)) (l1 : Int32) (l2 : Int32) (s0 : Int32) (M : fm_M) : Option (((Int32) ⊕ Int32) × fm_M) :=
    fm_gd (fm_inb l2 24) (
    if s0 = (M.1 107 (Int32.toNatClampNeg l2)) then (
      rec (l2 + 1) M
    ) else (
      some (.inr 0, M)
    ))
def G_X10_fitsWidth_14 : Nat → Int32 → Int32 → fm_M → Option (((Int32) ⊕ Int32) × fm_M)
  | 0, _, _, _ => none
  | n + 1, l1, l2, M =>
    fm_bd (F_X10_knownMany M) (fun v5 M6 =>
    if v5 ≤ l2 then (
      some (.inl l2, M6)
    ) else (
      fm_gd (fm_inb l2 24) (
      if (M6.1 109 (Int32.toNatClampNeg l2)) = 0 then (
        fm_gd (fm_inb l2 24) (
        if (M6.1 108 (Int32.toNatClampNeg l2)) = (-1) then (
          fm_gd (fm_inb l2 24) (
          fm_gd (fm_inb (10 + (M6.1 106 (Int32.toNatClampNeg l2))) 230) (
          if (M6.1 100 (Int32.toNatClampNeg (10 + (M6.1 106 (Int32.toNatClampNeg l2))))) = 1 then (
            J_X10_fitsWidth_67 (G_X10_fitsWidth_14 n l1) l1 l2 1 M6
          ) else (
            J_X10_fitsWidth_67 (G_X10_fitsWidth_14 n l1) l1 l2 0 M6
          )))
        ) else (
          G_X10_fitsWidth_14 n l1 (l2 + 1) M6
        ))
      ) else (
        G_X10_fitsWidth_14 n l1 (l2 + 1) M6
      ))
    ))
def F_X10_fitsWidth (a1 : Int32) (M : fm_M) : Option (Int32 × fm_M) :=
    fm_bd (F_X10_starts 1 M) (fun v1 M2 =>
    fm_bd (F_X10_goesOn (a1 + 1) M2) (fun v3 M4 =>
    fm_bs (G_X10_fitsWidth_14 fm_fuel a1 0 M4) (fun w12 M13 =>
      some (1, M13)) (fun r14 M => some (r14, M))))
theorem jn_X10_fitsWidth_67 {d : Nat} {Q : Option Value → fm_M → Prop} (rec : Int32 → fm_M → Option (((Int32) ⊕ Int32) × fm_M))  (l1 : Int32) (l2 : Int32) (s0 : Int32) {x : ((Int32) ⊕ Int32) × fm_M}  (ih : ∀ (l2 : Int32) (M : fm_M), rec l2 M = some x → fm_mw (d + 11) mX10_fitsWidth Q 14 [some (.ref 76), some (.int l1), some (.int l2)] [] M) (k1 : ∀ (v : Int32) (M2 : fm_M), x = (.inl v, M2) → fm_mw (d + 11) mX10_fitsWidth Q 84 [some (.ref 76), some (.int l1), some (.int v)] [] M2) (k2 : ∀ (r : Int32) (M2 : fm_M), x = (.inr r, M2) → Q (some (.int r)) M2) (M : fm_M) (h : J_X10_fitsWidth_67 rec l1 l2 s0 M = some x) : fm_mw (d + 11) mX10_fitsWidth Q 67 [some (.ref 76), some (.int l1), some (.int l2)] [(.int s0)] M := by
  rw [J_X10_fitsWidth_67] at h
  refine fl_aload0 (pc := 67) dX10_fitsWidth_67 ?_
  refine fm_getr (pc := 68) lk_10_117 sh_76 rfl dX10_fitsWidth_68 ?_
  refine fl_iload2 (pc := 71) dX10_fitsWidth_71 ?_
  obtain ⟨g11, h⟩ := fm_gdp h
  refine fm_zald (pc := 72) sh_107 (fm_inb_ok g11) dX10_fitsWidth_72 ?_
  refine fm_icmp_eq (pc := 73) 78 (by decide) dX10_fitsWidth_73 (fun c73 => ?_) (fun c73 => ?_)
  · replace h := fm_itp c73 h
    refine fl_iinc2 (pc := 78) rfl 1 (by decide) (by decide) dX10_fitsWidth_78 ?_
    refine fm_goto (pc := 81) 14 (by decide) dX10_fitsWidth_81 ?_
    refine fm_fgt [some (.ref 76), some (.int l1), some (.int (l2 + 1))] (by simp [fm_sub]) ?_
    exact ih _ _ h
  · replace h := fm_itn c73 h
    refine fm_iconstv (pc := 76) 0 (by decide) dX10_fitsWidth_76 ?_
    refine fm_zret (pc := 77) rfl (by decide) ?_ dX10_fitsWidth_77
    cases h
    exact k2 _ _ rfl
theorem lp_X10_fitsWidth_14 {d : Nat} {Q : Option Value → fm_M → Prop} {l1 : Int32}   {x : ((Int32) ⊕ Int32) × fm_M} (k1 : ∀ (v : Int32) (M2 : fm_M), x = (.inl v, M2) → fm_mw (d + 11) mX10_fitsWidth Q 84 [some (.ref 76), some (.int l1), some (.int v)] [] M2) (k2 : ∀ (r : Int32) (M2 : fm_M), x = (.inr r, M2) → Q (some (.int r)) M2) : ∀ (n : Nat) (l2 : Int32) (M : fm_M), G_X10_fitsWidth_14 n l1 l2 M = some x → fm_mw (d + 11) mX10_fitsWidth Q 14 [some (.ref 76), some (.int l1), some (.int l2)] [] M := by
  intro n
  induction n with
  | zero => intro l2 M h; simp [G_X10_fitsWidth_14] at h
  | succ n ih =>
    intro l2 M h
    rw [G_X10_fitsWidth_14] at h
    refine fl_iload2 (pc := 14) dX10_fitsWidth_14 ?_
    refine fl_aload0 (pc := 15) dX10_fitsWidth_15 ?_
    obtain ⟨v5, M6, ev5, h⟩ := fm_bdp h
    refine fm_callV (pc := 16) mX10_knownMany [] _ rfl cvX10_knownMany ml_10_475 sh_76 rfl rfl (Nat.le_of_ble_eq_true rfl) (Nat.le_of_ble_eq_true rfl) dX10_fitsWidth_16 ?_
    refine sp_X10_knownMany ev5 ?_
    refine fm_ret1 ?_
    refine fm_icmp_ge (pc := 19) 84 (by decide) dX10_fitsWidth_19 (fun c19 => ?_) (fun c19 => ?_)
    · replace h := fm_itp c19 h
      refine fm_fgt [some (.ref 76), some (.int l1), some (.int l2)] (by simp [fm_sub]) ?_
      cases h
      exact k1 _ _ rfl
    · replace h := fm_itn c19 h
      refine fl_aload0 (pc := 22) dX10_fitsWidth_22 ?_
      refine fm_getr (pc := 23) lk_10_124 sh_76 rfl dX10_fitsWidth_23 ?_
      refine fl_iload2 (pc := 26) dX10_fitsWidth_26 ?_
      obtain ⟨g7, h⟩ := fm_gdp h
      refine fm_zald (pc := 27) sh_109 (fm_inb_ok g7) dX10_fitsWidth_27 ?_
      refine fm_if_ne (pc := 28) 78 (by decide) dX10_fitsWidth_28 (fun c28 => ?_) (fun c28 => ?_)
      · replace h := fm_itn c28 h
        refine fl_iinc2 (pc := 78) rfl 1 (by decide) (by decide) dX10_fitsWidth_78 ?_
        refine fm_goto (pc := 81) 14 (by decide) dX10_fitsWidth_81 ?_
        refine fm_fgt [some (.ref 76), some (.int l1), some (.int (l2 + 1))] (by simp [fm_sub]) ?_
        exact ih _ _ h
      · replace h := fm_itp c28 h
        refine fl_aload0 (pc := 31) dX10_fitsWidth_31 ?_
        refine fm_getr (pc := 32) lk_10_121 sh_76 rfl dX10_fitsWidth_32 ?_
        refine fl_iload2 (pc := 35) dX10_fitsWidth_35 ?_
        obtain ⟨g8, h⟩ := fm_gdp h
        refine fm_iald (pc := 36) sh_108 (fm_inb_ok g8) dX10_fitsWidth_36 ?_
        refine fm_iconstv (pc := 37) (-1) (by decide) dX10_fitsWidth_37 ?_
        refine fm_icmp_eq (pc := 38) 44 (by decide) dX10_fitsWidth_38 (fun c38 => ?_) (fun c38 => ?_)
        · replace h := fm_itp c38 h
          refine fl_aload0 (pc := 44) dX10_fitsWidth_44 ?_
          refine fm_getr (pc := 45) lk_10_84 sh_76 rfl dX10_fitsWidth_45 ?_
          refine fm_bipushv (pc := 48) 10 (by decide) dX10_fitsWidth_48 ?_
          refine fl_aload0 (pc := 50) dX10_fitsWidth_50 ?_
          refine fm_getr (pc := 51) lk_10_114 sh_76 rfl dX10_fitsWidth_51 ?_
          refine fl_iload2 (pc := 54) dX10_fitsWidth_54 ?_
          obtain ⟨g9, h⟩ := fm_gdp h
          refine fm_iald (pc := 55) sh_106 (fm_inb_ok g9) dX10_fitsWidth_55 ?_
          refine fm_iadd (pc := 56) dX10_fitsWidth_56 ?_
          obtain ⟨g10, h⟩ := fm_gdp h
          refine fm_iald (pc := 57) sh_100 (fm_inb_ok g10) dX10_fitsWidth_57 ?_
          refine fm_iconstv (pc := 58) 1 (by decide) dX10_fitsWidth_58 ?_
          refine fm_icmp_ne (pc := 59) 66 (by decide) dX10_fitsWidth_59 (fun c59 => ?_) (fun c59 => ?_)
          · replace h := fm_itn c59 h
            refine fm_iconstv (pc := 66) 0 (by decide) dX10_fitsWidth_66 ?_
            exact jn_X10_fitsWidth_67 _ _ _ _  ih k1 k2 _ h
          · replace h := fm_itp c59 h
            refine fm_iconstv (pc := 62) 1 (by decide) dX10_fitsWidth_62 ?_
            refine fm_goto (pc := 63) 67 (by decide) dX10_fitsWidth_63 ?_
            exact jn_X10_fitsWidth_67 _ _ _ _  ih k1 k2 _ h
        · replace h := fm_itn c38 h
          refine fm_goto (pc := 41) 78 (by decide) dX10_fitsWidth_41 ?_
          refine fl_iinc2 (pc := 78) rfl 1 (by decide) (by decide) dX10_fitsWidth_78 ?_
          refine fm_goto (pc := 81) 14 (by decide) dX10_fitsWidth_81 ?_
          refine fm_fgt [some (.ref 76), some (.int l1), some (.int (l2 + 1))] (by simp [fm_sub]) ?_
          exact ih _ _ h
theorem sp_X10_fitsWidth {d : Nat} {a1 : Int32} {M : fm_M} {x : Int32 × fm_M} {Q : Option Value → fm_M → Prop} (h : F_X10_fitsWidth a1 M = some x) (hq : Q (some (.int x.1)) x.2) : fm_ct (d + 11) mX10_fitsWidth [.ref 76, .int a1] M Q := by
  rw [F_X10_fitsWidth] at h
  show fm_mw (d + 11) mX10_fitsWidth Q 0 [some (.ref 76), some (.int a1), none] [] M
  refine fl_aload0 (pc := 0) dX10_fitsWidth_0 ?_
  refine fm_iconstv (pc := 1) 1 (by decide) dX10_fitsWidth_1 ?_
  obtain ⟨v1, M2, ev1, h⟩ := fm_bdp h
  refine fm_callV (pc := 2) mX10_starts [_] _ rfl cvX10_starts ml_10_313 sh_76 rfl rfl (Nat.le_of_ble_eq_true rfl) (Nat.le_of_ble_eq_true rfl) dX10_fitsWidth_2 ?_
  refine sp_X10_starts ev1 ?_
  refine fm_ret0 ?_
  refine fl_aload0 (pc := 5) dX10_fitsWidth_5 ?_
  refine fl_iload1 (pc := 6) dX10_fitsWidth_6 ?_
  refine fm_iconstv (pc := 7) 1 (by decide) dX10_fitsWidth_7 ?_
  refine fm_iadd (pc := 8) dX10_fitsWidth_8 ?_
  obtain ⟨v3, M4, ev3, h⟩ := fm_bdp h
  refine fm_callV (pc := 9) mX10_goesOn [_] _ rfl cvX10_goesOn ml_10_420 sh_76 rfl rfl (Nat.le_of_ble_eq_true rfl) (Nat.le_of_ble_eq_true rfl) dX10_fitsWidth_9 ?_
  refine sp_X10_goesOn ev3 ?_
  refine fm_ret0 ?_
  refine fm_iconstv (pc := 12) 0 (by decide) dX10_fitsWidth_12 ?_
  refine fl_istore2 (pc := 13) rfl (by decide) dX10_fitsWidth_13 ?_
  obtain ⟨w9, M13, ew12, hl9, hr9⟩ := fm_bsp h
  refine lp_X10_fitsWidth_14  ?_ ?_ _ _ _ ew12
  · intro w12 M9 q9
    cases q9
    replace h := hl9 _ rfl
    refine fm_iconstv (pc := 84) 1 (by decide) dX10_fitsWidth_84 ?_
    refine fm_zret (pc := 85) rfl (by decide) ?_ dX10_fitsWidth_85
    cases h
    exact hq
  · intro r9 M9 q9
    cases q9
    replace h := hr9 _ rfl
    cases h
    exact hq
/-! X10_widths -/
def G_X10_widths_19 : Nat → Int32 → Int32 → Int32 → fm_M → Option ((Int32) × fm_M)
  | 0, _, _, _, _ => none
  | n + 1, l1, l2, l3, M =>
    fm_bd (F_X10_knownMany M) (fun v4 M5 =>
    if v4 ≤ l3 then (
      some (l3, M5)
    ) else (
      fm_gd (fm_inb l3 24) (
      fm_lt (fm_up M5 109 (Int32.toNatClampNeg l3) (vp_nar .boolean 0)) (fun M7 =>
      G_X10_widths_19 n l1 l2 (l3 + 1) M7))
    ))
def G_X10_widths_47 : Nat → Int32 → Int32 → Int32 → fm_M → Option ((Int32) × fm_M)
  | 0, _, _, _, _ => none
  | n + 1, l1, l2, l3, M =>
    if l3 < 0 then (
      some (l3, M)
    ) else (
      fm_gd (fm_inb l3 24) (
      if (M.1 109 (Int32.toNatClampNeg l3)) = 0 then (
        fm_gd (fm_inb l3 24) (
        if (M.1 108 (Int32.toNatClampNeg l3)) = (-1) then (
          G_X10_widths_47 n l1 l2 (l3 + (-1)) M
        ) else (
          fm_gd (fm_inb l3 24) (
          fm_gd (fm_inb (M.1 108 (Int32.toNatClampNeg l3)) 24) (
          fm_lt (fm_up M 109 (Int32.toNatClampNeg (M.1 108 (Int32.toNatClampNeg l3))) (vp_nar .boolean 1)) (fun M17 =>
          G_X10_widths_47 n l1 l2 (l3 + (-1)) M17)))
        ))
      ) else (
        G_X10_widths_47 n l1 l2 (l3 + (-1)) M
      ))
    )
def G_X10_widths_90 : Nat → Int32 → Int32 → Int32 → fm_M → Option ((Int32 × Int32) × fm_M)
  | 0, _, _, _, _ => none
  | n + 1, l1, l2, l3, M =>
    fm_bd (F_X10_knownMany M) (fun v20 M21 =>
    if v20 ≤ l3 then (
      some ((l2, l3), M21)
    ) else (
      fm_gd (fm_inb l3 24) (
      if (M21.1 109 (Int32.toNatClampNeg l3)) = 0 then (
        fm_gd (fm_inb l3 24) (
        if (M21.1 108 (Int32.toNatClampNeg l3)) = (-1) then (
          fm_gd (fm_inb l3 24) (
          fm_gd (fm_inb (M21.1 106 (Int32.toNatClampNeg l3)) 20) (
          fm_lt ((i_max l2 (M21.1 86 (Int32.toNatClampNeg (M21.1 106 (Int32.toNatClampNeg l3)))))) (fun x26 =>
          G_X10_widths_90 n l1 x26 (l3 + 1) M21)))
        ) else (
          G_X10_widths_90 n l1 l2 (l3 + 1) M21
        ))
      ) else (
        G_X10_widths_90 n l1 l2 (l3 + 1) M21
      ))
    ))
def G_X10_widths_149 : Nat → Int32 → Int32 → Int32 → Int32 → fm_M → Option ((Int32 × Int32) × fm_M)
  | 0, _, _, _, _, _ => none
  | n + 1, l1, l2, l3, l4, M =>
    if 10 ≤ l4 then (
      some ((l3, l4), M)
    ) else (
      fm_lt (fm_up M 76 47 (10 * l4)) (fun M30 =>
      fm_bd (F_X10_fitsWidth l2 M30) (fun v31 M32 =>
      if v31 = 0 then (
        fm_lt ((l3 ||| 0)) (fun x33 =>
        G_X10_widths_149 n l1 l2 x33 (l4 + 1) M32)
      ) else (
        fm_lt ((l3 ||| (1 <<< (l4 &&& 31)))) (fun x34 =>
        G_X10_widths_149 n l1 l2 x34 (l4 + 1) M32)
      )))
    )
def F_X10_widths (a1 : Int32) (M : fm_M) : Option (Int32 × fm_M) :=
    fm_lt (fm_up M 76 0 0) (fun M1 =>
    fm_bd (F_X10_isFork a1 M1) (fun v2 M3 =>
    if v2 = 0 then (
      some ((-1), M3)
    ) else (
      fm_bd (G_X10_widths_19 fm_fuel a1 (-1) 0 M3) (fun w8 M9 =>
        fm_bd (F_X10_knownMany M9) (fun v10 M11 =>
        fm_lt ((v10 - 1)) (fun x12 =>
        fm_bd (G_X10_widths_47 fm_fuel a1 (-1) x12 M11) (fun w18 M19 =>
          fm_bd (G_X10_widths_90 fm_fuel a1 (-1) 0 M19) (fun w27 M28 =>
            fm_lt (fm_up M28 76 46 a1) (fun M29 =>
            fm_bd (G_X10_widths_149 fm_fuel a1 w27.1 0 0 M29) (fun w35 M36 =>
              fm_lt (fm_up M36 76 46 (-1)) (fun M37 =>
              some (w35.1, M37)))))))))
    )))
theorem lp_X10_widths_19 {d : Nat} {Q : Option Value → fm_M → Prop} {l1 : Int32} {l2 : Int32}   {x : (Int32) × fm_M} (k1 : ∀ (v : Int32) (M2 : fm_M), x = (v, M2) → fm_mw (d + 12) mX10_widths Q 40 [some (.ref 76), some (.int l1), some (.int l2), some (.int v), none] [] M2) : ∀ (n : Nat) (l3 : Int32) (M : fm_M), G_X10_widths_19 n l1 l2 l3 M = some x → fm_mw (d + 12) mX10_widths Q 19 [some (.ref 76), some (.int l1), some (.int l2), some (.int l3), none] [] M := by
  intro n
  induction n with
  | zero => intro l3 M h; simp [G_X10_widths_19] at h
  | succ n ih =>
    intro l3 M h
    rw [G_X10_widths_19] at h
    refine fl_iload3 (pc := 19) dX10_widths_19 ?_
    refine fl_aload0 (pc := 20) dX10_widths_20 ?_
    obtain ⟨v4, M5, ev4, h⟩ := fm_bdp h
    refine fm_callV (pc := 21) mX10_knownMany [] _ rfl cvX10_knownMany ml_10_475 sh_76 rfl rfl (Nat.le_of_ble_eq_true rfl) (Nat.le_of_ble_eq_true rfl) dX10_widths_21 ?_
    refine sp_X10_knownMany ev4 ?_
    refine fm_ret1 ?_
    refine fm_icmp_ge (pc := 24) 40 (by decide) dX10_widths_24 (fun c24 => ?_) (fun c24 => ?_)
    · replace h := fm_itp c24 h
      refine fm_fgt [some (.ref 76), some (.int l1), some (.int l2), some (.int l3), none] (by simp [fm_sub]) ?_
      cases h
      exact k1 _ _ rfl
    · replace h := fm_itn c24 h
      refine fl_aload0 (pc := 27) dX10_widths_27 ?_
      refine fm_getr (pc := 28) lk_10_124 sh_76 rfl dX10_widths_28 ?_
      refine fl_iload3 (pc := 31) dX10_widths_31 ?_
      refine fm_iconstv (pc := 32) 0 (by decide) dX10_widths_32 ?_
      obtain ⟨g6, h⟩ := fm_gdp h
      refine fm_zast (pc := 33) sh_109 (fm_inb_ok g6) dX10_widths_33 ?_
      obtain ⟨M7, eM7, h⟩ := fm_ltp h
      refine fm_cgm eM7 ?_
      refine fl_iinc3 (pc := 34) rfl 1 (by decide) (by decide) dX10_widths_34 ?_
      refine fm_goto (pc := 37) 19 (by decide) dX10_widths_37 ?_
      refine fm_fgt [some (.ref 76), some (.int l1), some (.int l2), some (.int (l3 + 1)), none] (by simp [fm_sub]) ?_
      exact ih _ _ h
theorem lp_X10_widths_47 {d : Nat} {Q : Option Value → fm_M → Prop} {l1 : Int32} {l2 : Int32}   {x : (Int32) × fm_M} (k1 : ∀ (v : Int32) (M2 : fm_M), x = (v, M2) → fm_mw (d + 12) mX10_widths Q 88 [some (.ref 76), some (.int l1), some (.int l2), some (.int v), none] [] M2) : ∀ (n : Nat) (l3 : Int32) (M : fm_M), G_X10_widths_47 n l1 l2 l3 M = some x → fm_mw (d + 12) mX10_widths Q 47 [some (.ref 76), some (.int l1), some (.int l2), some (.int l3), none] [] M := by
  intro n
  induction n with
  | zero => intro l3 M h; simp [G_X10_widths_47] at h
  | succ n ih =>
    intro l3 M h
    rw [G_X10_widths_47] at h
    refine fl_iload3 (pc := 47) dX10_widths_47 ?_
    refine fm_if_lt (pc := 48) 88 (by decide) dX10_widths_48 (fun c48 => ?_) (fun c48 => ?_)
    · replace h := fm_itp c48 h
      refine fm_fgt [some (.ref 76), some (.int l1), some (.int l2), some (.int l3), none] (by simp [fm_sub]) ?_
      cases h
      exact k1 _ _ rfl
    · replace h := fm_itn c48 h
      refine fl_aload0 (pc := 51) dX10_widths_51 ?_
      refine fm_getr (pc := 52) lk_10_124 sh_76 rfl dX10_widths_52 ?_
      refine fl_iload3 (pc := 55) dX10_widths_55 ?_
      obtain ⟨g13, h⟩ := fm_gdp h
      refine fm_zald (pc := 56) sh_109 (fm_inb_ok g13) dX10_widths_56 ?_
      refine fm_if_ne (pc := 57) 82 (by decide) dX10_widths_57 (fun c57 => ?_) (fun c57 => ?_)
      · replace h := fm_itn c57 h
        refine fl_iinc3 (pc := 82) rfl (-1) (by decide) (by decide) dX10_widths_82 ?_
        refine fm_goto (pc := 85) 47 (by decide) dX10_widths_85 ?_
        refine fm_fgt [some (.ref 76), some (.int l1), some (.int l2), some (.int (l3 + (-1))), none] (by simp [fm_sub]) ?_
        exact ih _ _ h
      · replace h := fm_itp c57 h
        refine fl_aload0 (pc := 60) dX10_widths_60 ?_
        refine fm_getr (pc := 61) lk_10_121 sh_76 rfl dX10_widths_61 ?_
        refine fl_iload3 (pc := 64) dX10_widths_64 ?_
        obtain ⟨g14, h⟩ := fm_gdp h
        refine fm_iald (pc := 65) sh_108 (fm_inb_ok g14) dX10_widths_65 ?_
        refine fm_iconstv (pc := 66) (-1) (by decide) dX10_widths_66 ?_
        refine fm_icmp_eq (pc := 67) 82 (by decide) dX10_widths_67 (fun c67 => ?_) (fun c67 => ?_)
        · replace h := fm_itp c67 h
          refine fl_iinc3 (pc := 82) rfl (-1) (by decide) (by decide) dX10_widths_82 ?_
          refine fm_goto (pc := 85) 47 (by decide) dX10_widths_85 ?_
          refine fm_fgt [some (.ref 76), some (.int l1), some (.int l2), some (.int (l3 + (-1))), none] (by simp [fm_sub]) ?_
          exact ih _ _ h
        · replace h := fm_itn c67 h
          refine fl_aload0 (pc := 70) dX10_widths_70 ?_
          refine fm_getr (pc := 71) lk_10_124 sh_76 rfl dX10_widths_71 ?_
          refine fl_aload0 (pc := 74) dX10_widths_74 ?_
          refine fm_getr (pc := 75) lk_10_121 sh_76 rfl dX10_widths_75 ?_
          refine fl_iload3 (pc := 78) dX10_widths_78 ?_
          obtain ⟨g15, h⟩ := fm_gdp h
          refine fm_iald (pc := 79) sh_108 (fm_inb_ok g15) dX10_widths_79 ?_
          refine fm_iconstv (pc := 80) 1 (by decide) dX10_widths_80 ?_
          obtain ⟨g16, h⟩ := fm_gdp h
          refine fm_zast (pc := 81) sh_109 (fm_inb_ok g16) dX10_widths_81 ?_
          obtain ⟨M17, eM17, h⟩ := fm_ltp h
          refine fm_cgm eM17 ?_
          refine fl_iinc3 (pc := 82) rfl (-1) (by decide) (by decide) dX10_widths_82 ?_
          refine fm_goto (pc := 85) 47 (by decide) dX10_widths_85 ?_
          refine fm_fgt [some (.ref 76), some (.int l1), some (.int l2), some (.int (l3 + (-1))), none] (by simp [fm_sub]) ?_
          exact ih _ _ h
theorem lp_X10_widths_90 {d : Nat} {Q : Option Value → fm_M → Prop} {l1 : Int32}   {x : (Int32 × Int32) × fm_M} (k1 : ∀ (v : Int32 × Int32) (M2 : fm_M), x = (v, M2) → fm_mw (d + 12) mX10_widths Q 139 [some (.ref 76), some (.int l1), some (.int v.1), some (.int v.2), none] [] M2) : ∀ (n : Nat) (l2 : Int32) (l3 : Int32) (M : fm_M), G_X10_widths_90 n l1 l2 l3 M = some x → fm_mw (d + 12) mX10_widths Q 90 [some (.ref 76), some (.int l1), some (.int l2), some (.int l3), none] [] M := by
  intro n
  induction n with
  | zero => intro l2 l3 M h; simp [G_X10_widths_90] at h
  | succ n ih =>
    intro l2 l3 M h
    rw [G_X10_widths_90] at h
    refine fl_iload3 (pc := 90) dX10_widths_90 ?_
    refine fl_aload0 (pc := 91) dX10_widths_91 ?_
    obtain ⟨v20, M21, ev20, h⟩ := fm_bdp h
    refine fm_callV (pc := 92) mX10_knownMany [] _ rfl cvX10_knownMany ml_10_475 sh_76 rfl rfl (Nat.le_of_ble_eq_true rfl) (Nat.le_of_ble_eq_true rfl) dX10_widths_92 ?_
    refine sp_X10_knownMany ev20 ?_
    refine fm_ret1 ?_
    refine fm_icmp_ge (pc := 95) 139 (by decide) dX10_widths_95 (fun c95 => ?_) (fun c95 => ?_)
    · replace h := fm_itp c95 h
      refine fm_fgt [some (.ref 76), some (.int l1), some (.int l2), some (.int l3), none] (by simp [fm_sub]) ?_
      cases h
      exact k1 _ _ rfl
    · replace h := fm_itn c95 h
      refine fl_aload0 (pc := 98) dX10_widths_98 ?_
      refine fm_getr (pc := 99) lk_10_124 sh_76 rfl dX10_widths_99 ?_
      refine fl_iload3 (pc := 102) dX10_widths_102 ?_
      obtain ⟨g22, h⟩ := fm_gdp h
      refine fm_zald (pc := 103) sh_109 (fm_inb_ok g22) dX10_widths_103 ?_
      refine fm_if_ne (pc := 104) 133 (by decide) dX10_widths_104 (fun c104 => ?_) (fun c104 => ?_)
      · replace h := fm_itn c104 h
        refine fl_iinc3 (pc := 133) rfl 1 (by decide) (by decide) dX10_widths_133 ?_
        refine fm_goto (pc := 136) 90 (by decide) dX10_widths_136 ?_
        refine fm_fgt [some (.ref 76), some (.int l1), some (.int l2), some (.int (l3 + 1)), none] (by simp [fm_sub]) ?_
        exact ih _ _ _ h
      · replace h := fm_itp c104 h
        refine fl_aload0 (pc := 107) dX10_widths_107 ?_
        refine fm_getr (pc := 108) lk_10_121 sh_76 rfl dX10_widths_108 ?_
        refine fl_iload3 (pc := 111) dX10_widths_111 ?_
        obtain ⟨g23, h⟩ := fm_gdp h
        refine fm_iald (pc := 112) sh_108 (fm_inb_ok g23) dX10_widths_112 ?_
        refine fm_iconstv (pc := 113) (-1) (by decide) dX10_widths_113 ?_
        refine fm_icmp_ne (pc := 114) 133 (by decide) dX10_widths_114 (fun c114 => ?_) (fun c114 => ?_)
        · replace h := fm_itn c114 h
          refine fl_iinc3 (pc := 133) rfl 1 (by decide) (by decide) dX10_widths_133 ?_
          refine fm_goto (pc := 136) 90 (by decide) dX10_widths_136 ?_
          refine fm_fgt [some (.ref 76), some (.int l1), some (.int l2), some (.int (l3 + 1)), none] (by simp [fm_sub]) ?_
          exact ih _ _ _ h
        · replace h := fm_itp c114 h
          refine fl_iload2 (pc := 117) dX10_widths_117 ?_
          refine fl_aload0 (pc := 118) dX10_widths_118 ?_
          refine fm_getr (pc := 119) lk_10_37 sh_76 rfl dX10_widths_119 ?_
          refine fl_aload0 (pc := 122) dX10_widths_122 ?_
          refine fm_getr (pc := 123) lk_10_114 sh_76 rfl dX10_widths_123 ?_
          refine fl_iload3 (pc := 126) dX10_widths_126 ?_
          obtain ⟨g24, h⟩ := fm_gdp h
          refine fm_iald (pc := 127) sh_106 (fm_inb_ok g24) dX10_widths_127 ?_
          obtain ⟨g25, h⟩ := fm_gdp h
          refine fm_iald (pc := 128) sh_86 (fm_inb_ok g25) dX10_widths_128 ?_
          refine fq_mmax (pc := 129) ml_10_328 (Nat.le_of_ble_eq_true rfl) dX10_widths_129 ?_
          obtain ⟨x26, ex26, h⟩ := fm_ltp h
          refine fm_cgi ex26 ?_
          refine fl_istore2 (pc := 132) rfl (by decide) dX10_widths_132 ?_
          refine fl_iinc3 (pc := 133) rfl 1 (by decide) (by decide) dX10_widths_133 ?_
          refine fm_goto (pc := 136) 90 (by decide) dX10_widths_136 ?_
          refine fm_fgt [some (.ref 76), some (.int l1), some (.int x26), some (.int (l3 + 1)), none] (by simp [fm_sub]) ?_
          exact ih _ _ _ h
theorem lp_X10_widths_149 {d : Nat} {Q : Option Value → fm_M → Prop} {l1 : Int32} {l2 : Int32}   {x : (Int32 × Int32) × fm_M} (k1 : ∀ (v : Int32 × Int32) (M2 : fm_M), x = (v, M2) → fm_mw (d + 12) mX10_widths Q 190 [some (.ref 76), some (.int l1), some (.int l2), some (.int v.1), some (.int v.2)] [] M2) : ∀ (n : Nat) (l3 : Int32) (l4 : Int32) (M : fm_M), G_X10_widths_149 n l1 l2 l3 l4 M = some x → fm_mw (d + 12) mX10_widths Q 149 [some (.ref 76), some (.int l1), some (.int l2), some (.int l3), some (.int l4)] [] M := by
  intro n
  induction n with
  | zero => intro l3 l4 M h; simp [G_X10_widths_149] at h
  | succ n ih =>
    intro l3 l4 M h
    rw [G_X10_widths_149] at h
    refine fl_iload4 (pc := 149) dX10_widths_149 ?_
    refine fm_bipushv (pc := 151) 10 (by decide) dX10_widths_151 ?_
    refine fm_icmp_ge (pc := 153) 190 (by decide) dX10_widths_153 (fun c153 => ?_) (fun c153 => ?_)
    · replace h := fm_itp c153 h
      refine fm_fgt [some (.ref 76), some (.int l1), some (.int l2), some (.int l3), some (.int l4)] (by simp [fm_sub]) ?_
      cases h
      exact k1 _ _ rfl
    · replace h := fm_itn c153 h
      refine fl_aload0 (pc := 156) dX10_widths_156 ?_
      refine fm_bipushv (pc := 157) 10 (by decide) dX10_widths_157 ?_
      refine fl_iload4 (pc := 159) dX10_widths_159 ?_
      refine fm_imul (pc := 161) dX10_widths_161 ?_
      refine fm_puti (pc := 162) lp_10_322 sh_76 rfl dX10_widths_162 ?_
      obtain ⟨M30, eM30, h⟩ := fm_ltp h
      refine fm_cgm eM30 ?_
      refine fl_iload3 (pc := 165) dX10_widths_165 ?_
      refine fl_aload0 (pc := 166) dX10_widths_166 ?_
      refine fl_iload2 (pc := 167) dX10_widths_167 ?_
      obtain ⟨v31, M32, ev31, h⟩ := fm_bdp h
      refine fm_callV (pc := 168) mX10_fitsWidth [_] _ rfl cvX10_fitsWidth ml_10_478 sh_76 rfl rfl (Nat.le_of_ble_eq_true rfl) (Nat.le_of_ble_eq_true rfl) dX10_widths_168 ?_
      refine sp_X10_fitsWidth ev31 ?_
      refine fm_ret1 ?_
      refine fm_if_eq (pc := 171) 181 (by decide) dX10_widths_171 (fun c171 => ?_) (fun c171 => ?_)
      · replace h := fm_itp c171 h
        refine fm_iconstv (pc := 181) 0 (by decide) dX10_widths_181 ?_
        refine fm_ior (pc := 182) dX10_widths_182 ?_
        obtain ⟨x33, ex33, h⟩ := fm_ltp h
        refine fm_cgi ex33 ?_
        refine fl_istore3 (pc := 183) rfl (by decide) dX10_widths_183 ?_
        refine fl_iinc4 (pc := 184) rfl 1 (by decide) (by decide) dX10_widths_184 ?_
        refine fm_goto (pc := 187) 149 (by decide) dX10_widths_187 ?_
        refine fm_fgt [some (.ref 76), some (.int l1), some (.int l2), some (.int x33), some (.int (l4 + 1))] (by simp [fm_sub]) ?_
        exact ih _ _ _ h
      · replace h := fm_itn c171 h
        refine fm_iconstv (pc := 174) 1 (by decide) dX10_widths_174 ?_
        refine fl_iload4 (pc := 175) dX10_widths_175 ?_
        refine fm_ishl (pc := 177) dX10_widths_177 ?_
        refine fm_goto (pc := 178) 182 (by decide) dX10_widths_178 ?_
        refine fm_ior (pc := 182) dX10_widths_182 ?_
        obtain ⟨x34, ex34, h⟩ := fm_ltp h
        refine fm_cgi ex34 ?_
        refine fl_istore3 (pc := 183) rfl (by decide) dX10_widths_183 ?_
        refine fl_iinc4 (pc := 184) rfl 1 (by decide) (by decide) dX10_widths_184 ?_
        refine fm_goto (pc := 187) 149 (by decide) dX10_widths_187 ?_
        refine fm_fgt [some (.ref 76), some (.int l1), some (.int l2), some (.int x34), some (.int (l4 + 1))] (by simp [fm_sub]) ?_
        exact ih _ _ _ h
theorem sp_X10_widths {d : Nat} {a1 : Int32} {M : fm_M} {x : Int32 × fm_M} {Q : Option Value → fm_M → Prop} (h : F_X10_widths a1 M = some x) (hq : Q (some (.int x.1)) x.2) : fm_ct (d + 12) mX10_widths [.ref 76, .int a1] M Q := by
  rw [F_X10_widths] at h
  show fm_mw (d + 12) mX10_widths Q 0 [some (.ref 76), some (.int a1), none, none, none] [] M
  refine fl_aload0 (pc := 0) dX10_widths_0 ?_
  refine fm_iconstv (pc := 1) 0 (by decide) dX10_widths_1 ?_
  refine fm_puti (pc := 2) lp_10_130 sh_76 rfl dX10_widths_2 ?_
  obtain ⟨M1, eM1, h⟩ := fm_ltp h
  refine fm_cgm eM1 ?_
  refine fl_aload0 (pc := 5) dX10_widths_5 ?_
  refine fl_iload1 (pc := 6) dX10_widths_6 ?_
  obtain ⟨v2, M3, ev2, h⟩ := fm_bdp h
  refine fm_callV (pc := 7) mX10_isFork [_] _ rfl cvX10_isFork ml_10_404 sh_76 rfl rfl (Nat.le_of_ble_eq_true rfl) (Nat.le_of_ble_eq_true rfl) dX10_widths_7 ?_
  refine sp_X10_isFork ev2 ?_
  refine fm_ret1 ?_
  refine fm_if_ne (pc := 10) 15 (by decide) dX10_widths_10 (fun c10 => ?_) (fun c10 => ?_)
  · replace h := fm_itn c10 h
    refine fm_iconstv (pc := 15) (-1) (by decide) dX10_widths_15 ?_
    refine fl_istore2 (pc := 16) rfl (by decide) dX10_widths_16 ?_
    refine fm_iconstv (pc := 17) 0 (by decide) dX10_widths_17 ?_
    refine fl_istore3 (pc := 18) rfl (by decide) dX10_widths_18 ?_
    obtain ⟨w8, M9, ew8, h⟩ := fm_bdp h
    refine lp_X10_widths_19  ?_ _ _ _ ew8
    intro w89 M99 q9
    cases q9
    refine fl_aload0 (pc := 40) dX10_widths_40 ?_
    obtain ⟨v10, M11, ev10, h⟩ := fm_bdp h
    refine fm_callV (pc := 41) mX10_knownMany [] _ rfl cvX10_knownMany ml_10_475 sh_76 rfl rfl (Nat.le_of_ble_eq_true rfl) (Nat.le_of_ble_eq_true rfl) dX10_widths_41 ?_
    refine sp_X10_knownMany ev10 ?_
    refine fm_ret1 ?_
    refine fm_iconstv (pc := 44) 1 (by decide) dX10_widths_44 ?_
    refine fm_isub (pc := 45) dX10_widths_45 ?_
    obtain ⟨x12, ex12, h⟩ := fm_ltp h
    refine fm_cgi ex12 ?_
    refine fl_istore3 (pc := 46) rfl (by decide) dX10_widths_46 ?_
    obtain ⟨w18, M19, ew18, h⟩ := fm_bdp h
    refine lp_X10_widths_47  ?_ _ _ _ ew18
    intro w189 M199 q9
    cases q9
    refine fm_iconstv (pc := 88) 0 (by decide) dX10_widths_88 ?_
    refine fl_istore3 (pc := 89) rfl (by decide) dX10_widths_89 ?_
    obtain ⟨w27, M28, ew27, h⟩ := fm_bdp h
    refine lp_X10_widths_90  ?_ _ _ _ _ ew27
    intro w279 M289 q9
    cases q9
    refine fm_iconstv (pc := 139) 0 (by decide) dX10_widths_139 ?_
    refine fl_istore3 (pc := 140) rfl (by decide) dX10_widths_140 ?_
    refine fl_aload0 (pc := 141) dX10_widths_141 ?_
    refine fl_iload1 (pc := 142) dX10_widths_142 ?_
    refine fm_puti (pc := 143) lp_10_96 sh_76 rfl dX10_widths_143 ?_
    obtain ⟨M29, eM29, h⟩ := fm_ltp h
    refine fm_cgm eM29 ?_
    refine fm_iconstv (pc := 146) 0 (by decide) dX10_widths_146 ?_
    refine fl_istore4 (pc := 147) rfl (by decide) dX10_widths_147 ?_
    obtain ⟨w35, M36, ew35, h⟩ := fm_bdp h
    refine lp_X10_widths_149  ?_ _ _ _ _ ew35
    intro w359 M369 q9
    cases q9
    refine fl_aload0 (pc := 190) dX10_widths_190 ?_
    refine fm_iconstv (pc := 191) (-1) (by decide) dX10_widths_191 ?_
    refine fm_puti (pc := 192) lp_10_96 sh_76 rfl dX10_widths_192 ?_
    obtain ⟨M37, eM37, h⟩ := fm_ltp h
    refine fm_cgm eM37 ?_
    refine fl_iload3 (pc := 195) dX10_widths_195 ?_
    refine fm_iret (pc := 196) rfl ?_ dX10_widths_196
    cases h
    exact hq
  · replace h := fm_itp c10 h
    refine fm_iconstv (pc := 13) (-1) (by decide) dX10_widths_13 ?_
    refine fm_iret (pc := 14) rfl ?_ dX10_widths_14
    cases h
    exact hq
/-! X10_chance -/
def G_X10_chance_57 : Nat → Int32 → Int32 → Int32 → Int32 → Int32 → Int32 → Int32 → fm_M → Option ((Int32 × Int32) × fm_M)
  | 0, _, _, _, _, _, _, _, _ => none
  | n + 1, l1, l2, l3, l5, l6, l4, l7, M =>
    if l2 ≤ l7 then (
      some ((l4, l7), M)
    ) else (
      fm_lt ((((l4 * 1103515245) + 12345) &&& 2147483647)) (fun x4 =>
      fm_lt (fm_up M 76 45 (i_rem (x4 >>> (16 &&& 31)) 10)) (fun M5 =>
      fm_bd (F_X10_dayGoes 1 M5) (fun v6 M7 =>
      G_X10_chance_57 n l1 l2 l3 l5 l6 x4 (l7 + 1) M7)))
    )
def G_X10_chance_41 : Nat → Int32 → Int32 → Int32 → Int32 → Int32 → Int32 → fm_M → Option ((Int32 × Int32 × Int32) × fm_M)
  | 0, _, _, _, _, _, _, _ => none
  | n + 1, l1, l2, l3, l4, l5, l6, M =>
    if 10 ≤ l6 then (
      some ((l4, l5, l6), M)
    ) else (
      fm_bd (F_X10_copies 1 0 M) (fun v2 M3 =>
      fm_bd (G_X10_chance_57 fm_fuel l1 l2 l3 l5 l6 l4 0 M3) (fun w8 M9 =>
        fm_lt (fm_up M9 76 45 (-1)) (fun M10 =>
        fm_bd (F_X10_manyOf 1 1 M10) (fun v11 M12 =>
        fm_bd (F_X10_manyOf 0 1 M12) (fun v13 M14 =>
        if (v11 - v13) < l3 then (
          fm_lt ((l5 + 0)) (fun x15 =>
          G_X10_chance_41 n l1 l2 l3 w8.1 x15 (l6 + 1) M14)
        ) else (
          fm_lt ((l5 + 1)) (fun x16 =>
          G_X10_chance_41 n l1 l2 l3 w8.1 x16 (l6 + 1) M14)
        ))))))
    )
def F_X10_chance (a1 : Int32) (a2 : Int32) (a3 : Int32) (M : fm_M) : Option (Int32 × fm_M) :=
    fm_lt (fm_up M 76 0 0) (fun M1 =>
    if a1 < 0 then (
      some ((-1), M1)
    ) else (
      if a2 < 1 then (
        some ((-1), M1)
      ) else (
        if 99 < a2 then (
          some ((-1), M1)
        ) else (
          if a3 < 0 then (
            some ((-1), M1)
          ) else (
            if a3 ≤ 10 then (
              fm_bd (G_X10_chance_41 fm_fuel a1 a2 a3 a1 0 0 M1) (fun w17 M18 =>
                some (w17.2.1, M18))
            ) else (
              some ((-1), M1)
            )
          )
        )
      )
    ))
theorem lp_X10_chance_57 {d : Nat} {Q : Option Value → fm_M → Prop} {l1 : Int32} {l2 : Int32} {l3 : Int32} {l5 : Int32} {l6 : Int32}   {x : (Int32 × Int32) × fm_M} (k1 : ∀ (v : Int32 × Int32) (M2 : fm_M), x = (v, M2) → fm_mw (d + 10) mX10_chance Q 102 [some (.ref 76), some (.int l1), some (.int l2), some (.int l3), some (.int v.1), some (.int l5), some (.int l6), some (.int v.2)] [] M2) : ∀ (n : Nat) (l4 : Int32) (l7 : Int32) (M : fm_M), G_X10_chance_57 n l1 l2 l3 l5 l6 l4 l7 M = some x → fm_mw (d + 10) mX10_chance Q 57 [some (.ref 76), some (.int l1), some (.int l2), some (.int l3), some (.int l4), some (.int l5), some (.int l6), some (.int l7)] [] M := by
  intro n
  induction n with
  | zero => intro l4 l7 M h; simp [G_X10_chance_57] at h
  | succ n ih =>
    intro l4 l7 M h
    rw [G_X10_chance_57] at h
    refine fl_iload7 (pc := 57) dX10_chance_57 ?_
    refine fl_iload2 (pc := 59) dX10_chance_59 ?_
    refine fm_icmp_ge (pc := 60) 102 (by decide) dX10_chance_60 (fun c60 => ?_) (fun c60 => ?_)
    · replace h := fm_itp c60 h
      refine fm_fgt [some (.ref 76), some (.int l1), some (.int l2), some (.int l3), some (.int l4), some (.int l5), some (.int l6), some (.int l7)] (by simp [fm_sub]) ?_
      cases h
      exact k1 _ _ rfl
    · replace h := fm_itn c60 h
      refine fl_iload4 (pc := 63) dX10_chance_63 ?_
      refine fm_ldcw (pc := 65) kc_10_481 dX10_chance_65 ?_
      refine fm_imul (pc := 68) dX10_chance_68 ?_
      refine fm_sipushv (pc := 69) 12345 (by decide) dX10_chance_69 ?_
      refine fm_iadd (pc := 72) dX10_chance_72 ?_
      refine fm_ldcw (pc := 73) kc_10_482 dX10_chance_73 ?_
      refine fm_iand (pc := 76) dX10_chance_76 ?_
      obtain ⟨x4, ex4, h⟩ := fm_ltp h
      refine fm_cgi ex4 ?_
      refine fl_istore4 (pc := 77) rfl (by decide) dX10_chance_77 ?_
      refine fl_aload0 (pc := 79) dX10_chance_79 ?_
      refine fl_iload4 (pc := 80) dX10_chance_80 ?_
      refine fm_bipushv (pc := 82) 16 (by decide) dX10_chance_82 ?_
      refine fm_ishr (pc := 84) dX10_chance_84 ?_
      refine fm_bipushv (pc := 85) 10 (by decide) dX10_chance_85 ?_
      refine fq_irem (pc := 87) (by decide) dX10_chance_87 ?_
      refine fm_puti (pc := 88) lp_10_93 sh_76 rfl dX10_chance_88 ?_
      obtain ⟨M5, eM5, h⟩ := fm_ltp h
      refine fm_cgm eM5 ?_
      refine fl_aload0 (pc := 91) dX10_chance_91 ?_
      refine fm_iconstv (pc := 92) 1 (by decide) dX10_chance_92 ?_
      obtain ⟨v6, M7, ev6, h⟩ := fm_bdp h
      refine fm_callV (pc := 93) mX10_dayGoes [_] _ rfl cvX10_dayGoes ml_10_398 sh_76 rfl rfl (Nat.le_of_ble_eq_true rfl) (Nat.le_of_ble_eq_true rfl) dX10_chance_93 ?_
      refine sp_X10_dayGoes ev6 ?_
      refine fm_ret0 ?_
      refine fl_iinc7 (pc := 96) rfl 1 (by decide) (by decide) dX10_chance_96 ?_
      refine fm_goto (pc := 99) 57 (by decide) dX10_chance_99 ?_
      refine fm_fgt [some (.ref 76), some (.int l1), some (.int l2), some (.int l3), some (.int x4), some (.int l5), some (.int l6), some (.int (l7 + 1))] (by simp [fm_sub]) ?_
      exact ih _ _ _ h
theorem lp_X10_chance_41 {d : Nat} {Q : Option Value → fm_M → Prop} {l1 : Int32} {l2 : Int32} {l3 : Int32}   {x : (Int32 × Int32 × Int32) × fm_M} (k1 : ∀ (v : Int32 × Int32 × Int32) (M2 : fm_M), x = (v, M2) → fm_mw (d + 10) mX10_chance Q 140 [some (.ref 76), some (.int l1), some (.int l2), some (.int l3), some (.int v.1), some (.int v.2.1), some (.int v.2.2), none] [] M2) : ∀ (n : Nat) (l4 : Int32) (l5 : Int32) (l6 : Int32) (M : fm_M), G_X10_chance_41 n l1 l2 l3 l4 l5 l6 M = some x → fm_mw (d + 10) mX10_chance Q 41 [some (.ref 76), some (.int l1), some (.int l2), some (.int l3), some (.int l4), some (.int l5), some (.int l6), none] [] M := by
  intro n
  induction n with
  | zero => intro l4 l5 l6 M h; simp [G_X10_chance_41] at h
  | succ n ih =>
    intro l4 l5 l6 M h
    rw [G_X10_chance_41] at h
    refine fl_iload6 (pc := 41) dX10_chance_41 ?_
    refine fm_bipushv (pc := 43) 10 (by decide) dX10_chance_43 ?_
    refine fm_icmp_ge (pc := 45) 140 (by decide) dX10_chance_45 (fun c45 => ?_) (fun c45 => ?_)
    · replace h := fm_itp c45 h
      refine fm_fgt [some (.ref 76), some (.int l1), some (.int l2), some (.int l3), some (.int l4), some (.int l5), some (.int l6), none] (by simp [fm_sub]) ?_
      cases h
      exact k1 _ _ rfl
    · replace h := fm_itn c45 h
      refine fl_aload0 (pc := 48) dX10_chance_48 ?_
      refine fm_iconstv (pc := 49) 1 (by decide) dX10_chance_49 ?_
      refine fm_iconstv (pc := 50) 0 (by decide) dX10_chance_50 ?_
      obtain ⟨v2, M3, ev2, h⟩ := fm_bdp h
      refine fm_callV (pc := 51) mX10_copies [_, _] _ rfl cvX10_copies ml_10_414 sh_76 rfl rfl (Nat.le_of_ble_eq_true rfl) (Nat.le_of_ble_eq_true rfl) dX10_chance_51 ?_
      refine sp_X10_copies ev2 ?_
      refine fm_ret0 ?_
      refine fm_iconstv (pc := 54) 0 (by decide) dX10_chance_54 ?_
      refine fl_istore7 (pc := 55) rfl (by decide) dX10_chance_55 ?_
      obtain ⟨w8, M9, ew8, h⟩ := fm_bdp h
      refine lp_X10_chance_57  ?_ _ _ _ _ ew8
      intro w89 M99 q9
      cases q9
      refine fl_aload0 (pc := 102) dX10_chance_102 ?_
      refine fm_iconstv (pc := 103) (-1) (by decide) dX10_chance_103 ?_
      refine fm_puti (pc := 104) lp_10_93 sh_76 rfl dX10_chance_104 ?_
      obtain ⟨M10, eM10, h⟩ := fm_ltp h
      refine fm_cgm eM10 ?_
      refine fl_iload5 (pc := 107) dX10_chance_107 ?_
      refine fl_aload0 (pc := 109) dX10_chance_109 ?_
      refine fm_iconstv (pc := 110) 1 (by decide) dX10_chance_110 ?_
      refine fm_iconstv (pc := 111) 1 (by decide) dX10_chance_111 ?_
      obtain ⟨v11, M12, ev11, h⟩ := fm_bdp h
      refine fm_callV (pc := 112) mX10_manyOf [_, _] _ rfl cvX10_manyOf ml_10_423 sh_76 rfl rfl (Nat.le_of_ble_eq_true rfl) (Nat.le_of_ble_eq_true rfl) dX10_chance_112 ?_
      refine sp_X10_manyOf ev11 ?_
      refine fm_ret1 ?_
      refine fl_aload0 (pc := 115) dX10_chance_115 ?_
      refine fm_iconstv (pc := 116) 0 (by decide) dX10_chance_116 ?_
      refine fm_iconstv (pc := 117) 1 (by decide) dX10_chance_117 ?_
      obtain ⟨v13, M14, ev13, h⟩ := fm_bdp h
      refine fm_callV (pc := 118) mX10_manyOf [_, _] _ rfl cvX10_manyOf ml_10_423 sh_76 rfl rfl (Nat.le_of_ble_eq_true rfl) (Nat.le_of_ble_eq_true rfl) dX10_chance_118 ?_
      refine sp_X10_manyOf ev13 ?_
      refine fm_ret1 ?_
      refine fm_isub (pc := 121) dX10_chance_121 ?_
      refine fl_iload3 (pc := 122) dX10_chance_122 ?_
      refine fm_icmp_lt (pc := 123) 130 (by decide) dX10_chance_123 (fun c123 => ?_) (fun c123 => ?_)
      · replace h := fm_itp c123 h
        refine fm_iconstv (pc := 130) 0 (by decide) dX10_chance_130 ?_
        refine fm_iadd (pc := 131) dX10_chance_131 ?_
        obtain ⟨x15, ex15, h⟩ := fm_ltp h
        refine fm_cgi ex15 ?_
        refine fl_istore5 (pc := 132) rfl (by decide) dX10_chance_132 ?_
        refine fl_iinc6 (pc := 134) rfl 1 (by decide) (by decide) dX10_chance_134 ?_
        refine fm_goto (pc := 137) 41 (by decide) dX10_chance_137 ?_
        refine fm_fgt [some (.ref 76), some (.int l1), some (.int l2), some (.int l3), some (.int w8.1), some (.int x15), some (.int (l6 + 1)), none] (by simp [fm_sub]) ?_
        exact ih _ _ _ _ h
      · replace h := fm_itn c123 h
        refine fm_iconstv (pc := 126) 1 (by decide) dX10_chance_126 ?_
        refine fm_goto (pc := 127) 131 (by decide) dX10_chance_127 ?_
        refine fm_iadd (pc := 131) dX10_chance_131 ?_
        obtain ⟨x16, ex16, h⟩ := fm_ltp h
        refine fm_cgi ex16 ?_
        refine fl_istore5 (pc := 132) rfl (by decide) dX10_chance_132 ?_
        refine fl_iinc6 (pc := 134) rfl 1 (by decide) (by decide) dX10_chance_134 ?_
        refine fm_goto (pc := 137) 41 (by decide) dX10_chance_137 ?_
        refine fm_fgt [some (.ref 76), some (.int l1), some (.int l2), some (.int l3), some (.int w8.1), some (.int x16), some (.int (l6 + 1)), none] (by simp [fm_sub]) ?_
        exact ih _ _ _ _ h
theorem sp_X10_chance {d : Nat} {a1 : Int32} {a2 : Int32} {a3 : Int32} {M : fm_M} {x : Int32 × fm_M} {Q : Option Value → fm_M → Prop} (h : F_X10_chance a1 a2 a3 M = some x) (hq : Q (some (.int x.1)) x.2) : fm_ct (d + 10) mX10_chance [.ref 76, .int a1, .int a2, .int a3] M Q := by
  rw [F_X10_chance] at h
  show fm_mw (d + 10) mX10_chance Q 0 [some (.ref 76), some (.int a1), some (.int a2), some (.int a3), none, none, none, none] [] M
  refine fl_aload0 (pc := 0) dX10_chance_0 ?_
  refine fm_iconstv (pc := 1) 0 (by decide) dX10_chance_1 ?_
  refine fm_puti (pc := 2) lp_10_130 sh_76 rfl dX10_chance_2 ?_
  obtain ⟨M1, eM1, h⟩ := fm_ltp h
  refine fm_cgm eM1 ?_
  refine fl_iload1 (pc := 5) dX10_chance_5 ?_
  refine fm_if_lt (pc := 6) 30 (by decide) dX10_chance_6 (fun c6 => ?_) (fun c6 => ?_)
  · replace h := fm_itp c6 h
    refine fm_iconstv (pc := 30) (-1) (by decide) dX10_chance_30 ?_
    refine fm_iret (pc := 31) rfl ?_ dX10_chance_31
    cases h
    exact hq
  · replace h := fm_itn c6 h
    refine fl_iload2 (pc := 9) dX10_chance_9 ?_
    refine fm_iconstv (pc := 10) 1 (by decide) dX10_chance_10 ?_
    refine fm_icmp_lt (pc := 11) 30 (by decide) dX10_chance_11 (fun c11 => ?_) (fun c11 => ?_)
    · replace h := fm_itp c11 h
      refine fm_iconstv (pc := 30) (-1) (by decide) dX10_chance_30 ?_
      refine fm_iret (pc := 31) rfl ?_ dX10_chance_31
      cases h
      exact hq
    · replace h := fm_itn c11 h
      refine fl_iload2 (pc := 14) dX10_chance_14 ?_
      refine fm_bipushv (pc := 15) 99 (by decide) dX10_chance_15 ?_
      refine fm_icmp_gt (pc := 17) 30 (by decide) dX10_chance_17 (fun c17 => ?_) (fun c17 => ?_)
      · replace h := fm_itp c17 h
        refine fm_iconstv (pc := 30) (-1) (by decide) dX10_chance_30 ?_
        refine fm_iret (pc := 31) rfl ?_ dX10_chance_31
        cases h
        exact hq
      · replace h := fm_itn c17 h
        refine fl_iload3 (pc := 20) dX10_chance_20 ?_
        refine fm_if_lt (pc := 21) 30 (by decide) dX10_chance_21 (fun c21 => ?_) (fun c21 => ?_)
        · replace h := fm_itp c21 h
          refine fm_iconstv (pc := 30) (-1) (by decide) dX10_chance_30 ?_
          refine fm_iret (pc := 31) rfl ?_ dX10_chance_31
          cases h
          exact hq
        · replace h := fm_itn c21 h
          refine fl_iload3 (pc := 24) dX10_chance_24 ?_
          refine fm_bipushv (pc := 25) 10 (by decide) dX10_chance_25 ?_
          refine fm_icmp_le (pc := 27) 32 (by decide) dX10_chance_27 (fun c27 => ?_) (fun c27 => ?_)
          · replace h := fm_itp c27 h
            refine fl_iload1 (pc := 32) dX10_chance_32 ?_
            refine fl_istore4 (pc := 33) rfl (by decide) dX10_chance_33 ?_
            refine fm_iconstv (pc := 35) 0 (by decide) dX10_chance_35 ?_
            refine fl_istore5 (pc := 36) rfl (by decide) dX10_chance_36 ?_
            refine fm_iconstv (pc := 38) 0 (by decide) dX10_chance_38 ?_
            refine fl_istore6 (pc := 39) rfl (by decide) dX10_chance_39 ?_
            obtain ⟨w17, M18, ew17, h⟩ := fm_bdp h
            refine lp_X10_chance_41  ?_ _ _ _ _ _ ew17
            intro w179 M189 q9
            cases q9
            refine fl_iload5 (pc := 140) dX10_chance_140 ?_
            refine fm_iret (pc := 142) rfl ?_ dX10_chance_142
            cases h
            exact hq
          · replace h := fm_itn c27 h
            refine fm_iconstv (pc := 30) (-1) (by decide) dX10_chance_30 ?_
            refine fm_iret (pc := 31) rfl ?_ dX10_chance_31
            cases h
            exact hq
/-! X10_tried -/
def J_X10_tried_36 (l1 : Int32) (l2 : Int32) (l3 : Int32) (s0 : Int32) (M : fm_M) : Option (Int32 × fm_M) :=
    if s0 = 0 then (
      some ((-1), M)
    ) else (
      if l3 < 0 then (
        some ((-1), M)
      ) else (
        if l3 ≤ 99 then (
          fm_lt (fm_up M 76 43 l1) (fun M2 =>
          fm_lt (fm_up M2 76 44 l2) (fun M3 =>
          fm_bd (F_X10_copies 1 0 M3) (fun v4 M5 =>
          fm_bd (F_X10_goesOn l3 M5) (fun v6 M7 =>
          fm_lt (fm_up M7 76 43 0) (fun M8 =>
          fm_lt (fm_up M8 76 44 (-1)) (fun M9 =>
          fm_bd (F_X10_manyOf 1 1 M9) (fun v10 M11 =>
          fm_bd (F_X10_manyOf 0 1 M11) (fun v12 M13 =>
          some ((v10 - v12), M13)))))))))
        ) else (
          some ((-1), M)
        )
      )
    )
def J_X10_tried_35 (l1 : Int32) (l2 : Int32) (l3 : Int32) (M : fm_M) : Option (Int32 × fm_M) :=
    J_X10_tried_36 l1 l2 l3 0 M
def F_X10_tried (a1 : Int32) (a2 : Int32) (a3 : Int32) (M : fm_M) : Option (Int32 × fm_M) :=
    fm_lt (fm_up M 76 0 0) (fun M1 =>
    if a1 = 2 then (
      fm_bd (F_X10_isFork a2 M1) (fun v14 M15 =>
      J_X10_tried_36 a1 a2 a3 v14 M15)
    ) else (
      if a1 < 0 then (
        J_X10_tried_35 a1 a2 a3 M1
      ) else (
        if 5 < a1 then (
          J_X10_tried_35 a1 a2 a3 M1
        ) else (
          if a2 = 0 then (
            J_X10_tried_36 a1 a2 a3 1 M1
          ) else (
            J_X10_tried_35 a1 a2 a3 M1
          )
        )
      )
    ))
theorem jn_X10_tried_36 {d : Nat} {Q : Option Value → fm_M → Prop}  (l1 : Int32) (l2 : Int32) (l3 : Int32) (s0 : Int32) {x : Int32 × fm_M}  (hq : Q (some (.int x.1)) x.2) (M : fm_M) (h : J_X10_tried_36 l1 l2 l3 s0 M = some x) : fm_mw (d + 11) mX10_tried Q 36 [some (.ref 76), some (.int l1), some (.int l2), some (.int l3), none] [(.int s0)] M := by
  rw [J_X10_tried_36] at h
  refine fl_istore4 (pc := 36) rfl (by decide) dX10_tried_36 ?_
  refine fl_iload4 (pc := 38) dX10_tried_38 ?_
  refine fm_if_eq (pc := 40) 53 (by decide) dX10_tried_40 (fun c40 => ?_) (fun c40 => ?_)
  · replace h := fm_itp c40 h
    refine fm_iconstv (pc := 53) (-1) (by decide) dX10_tried_53 ?_
    refine fm_iret (pc := 54) rfl ?_ dX10_tried_54
    cases h
    exact hq
  · replace h := fm_itn c40 h
    refine fl_iload3 (pc := 43) dX10_tried_43 ?_
    refine fm_if_lt (pc := 44) 53 (by decide) dX10_tried_44 (fun c44 => ?_) (fun c44 => ?_)
    · replace h := fm_itp c44 h
      refine fm_iconstv (pc := 53) (-1) (by decide) dX10_tried_53 ?_
      refine fm_iret (pc := 54) rfl ?_ dX10_tried_54
      cases h
      exact hq
    · replace h := fm_itn c44 h
      refine fl_iload3 (pc := 47) dX10_tried_47 ?_
      refine fm_bipushv (pc := 48) 99 (by decide) dX10_tried_48 ?_
      refine fm_icmp_le (pc := 50) 55 (by decide) dX10_tried_50 (fun c50 => ?_) (fun c50 => ?_)
      · replace h := fm_itp c50 h
        refine fl_aload0 (pc := 55) dX10_tried_55 ?_
        refine fl_iload1 (pc := 56) dX10_tried_56 ?_
        refine fm_puti (pc := 57) lp_10_316 sh_76 rfl dX10_tried_57 ?_
        obtain ⟨M2, eM2, h⟩ := fm_ltp h
        refine fm_cgm eM2 ?_
        refine fl_aload0 (pc := 60) dX10_tried_60 ?_
        refine fl_iload2 (pc := 61) dX10_tried_61 ?_
        refine fm_puti (pc := 62) lp_10_90 sh_76 rfl dX10_tried_62 ?_
        obtain ⟨M3, eM3, h⟩ := fm_ltp h
        refine fm_cgm eM3 ?_
        refine fl_aload0 (pc := 65) dX10_tried_65 ?_
        refine fm_iconstv (pc := 66) 1 (by decide) dX10_tried_66 ?_
        refine fm_iconstv (pc := 67) 0 (by decide) dX10_tried_67 ?_
        obtain ⟨v4, M5, ev4, h⟩ := fm_bdp h
        refine fm_callV (pc := 68) mX10_copies [_, _] _ rfl cvX10_copies ml_10_414 sh_76 rfl rfl (Nat.le_of_ble_eq_true rfl) (Nat.le_of_ble_eq_true rfl) dX10_tried_68 ?_
        refine sp_X10_copies ev4 ?_
        refine fm_ret0 ?_
        refine fl_aload0 (pc := 71) dX10_tried_71 ?_
        refine fl_iload3 (pc := 72) dX10_tried_72 ?_
        obtain ⟨v6, M7, ev6, h⟩ := fm_bdp h
        refine fm_callV (pc := 73) mX10_goesOn [_] _ rfl cvX10_goesOn ml_10_420 sh_76 rfl rfl (Nat.le_of_ble_eq_true rfl) (Nat.le_of_ble_eq_true rfl) dX10_tried_73 ?_
        refine sp_X10_goesOn ev6 ?_
        refine fm_ret0 ?_
        refine fl_aload0 (pc := 76) dX10_tried_76 ?_
        refine fm_iconstv (pc := 77) 0 (by decide) dX10_tried_77 ?_
        refine fm_puti (pc := 78) lp_10_316 sh_76 rfl dX10_tried_78 ?_
        obtain ⟨M8, eM8, h⟩ := fm_ltp h
        refine fm_cgm eM8 ?_
        refine fl_aload0 (pc := 81) dX10_tried_81 ?_
        refine fm_iconstv (pc := 82) (-1) (by decide) dX10_tried_82 ?_
        refine fm_puti (pc := 83) lp_10_90 sh_76 rfl dX10_tried_83 ?_
        obtain ⟨M9, eM9, h⟩ := fm_ltp h
        refine fm_cgm eM9 ?_
        refine fl_aload0 (pc := 86) dX10_tried_86 ?_
        refine fm_iconstv (pc := 87) 1 (by decide) dX10_tried_87 ?_
        refine fm_iconstv (pc := 88) 1 (by decide) dX10_tried_88 ?_
        obtain ⟨v10, M11, ev10, h⟩ := fm_bdp h
        refine fm_callV (pc := 89) mX10_manyOf [_, _] _ rfl cvX10_manyOf ml_10_423 sh_76 rfl rfl (Nat.le_of_ble_eq_true rfl) (Nat.le_of_ble_eq_true rfl) dX10_tried_89 ?_
        refine sp_X10_manyOf ev10 ?_
        refine fm_ret1 ?_
        refine fl_aload0 (pc := 92) dX10_tried_92 ?_
        refine fm_iconstv (pc := 93) 0 (by decide) dX10_tried_93 ?_
        refine fm_iconstv (pc := 94) 1 (by decide) dX10_tried_94 ?_
        obtain ⟨v12, M13, ev12, h⟩ := fm_bdp h
        refine fm_callV (pc := 95) mX10_manyOf [_, _] _ rfl cvX10_manyOf ml_10_423 sh_76 rfl rfl (Nat.le_of_ble_eq_true rfl) (Nat.le_of_ble_eq_true rfl) dX10_tried_95 ?_
        refine sp_X10_manyOf ev12 ?_
        refine fm_ret1 ?_
        refine fm_isub (pc := 98) dX10_tried_98 ?_
        refine fm_iret (pc := 99) rfl ?_ dX10_tried_99
        cases h
        exact hq
      · replace h := fm_itn c50 h
        refine fm_iconstv (pc := 53) (-1) (by decide) dX10_tried_53 ?_
        refine fm_iret (pc := 54) rfl ?_ dX10_tried_54
        cases h
        exact hq
theorem jn_X10_tried_35 {d : Nat} {Q : Option Value → fm_M → Prop}  (l1 : Int32) (l2 : Int32) (l3 : Int32) {x : Int32 × fm_M}  (hq : Q (some (.int x.1)) x.2) (M : fm_M) (h : J_X10_tried_35 l1 l2 l3 M = some x) : fm_mw (d + 11) mX10_tried Q 35 [some (.ref 76), some (.int l1), some (.int l2), some (.int l3), none] [] M := by
  rw [J_X10_tried_35] at h
  refine fm_iconstv (pc := 35) 0 (by decide) dX10_tried_35 ?_
  exact jn_X10_tried_36 _ _ _ _  hq _ h
theorem sp_X10_tried {d : Nat} {a1 : Int32} {a2 : Int32} {a3 : Int32} {M : fm_M} {x : Int32 × fm_M} {Q : Option Value → fm_M → Prop} (h : F_X10_tried a1 a2 a3 M = some x) (hq : Q (some (.int x.1)) x.2) : fm_ct (d + 11) mX10_tried [.ref 76, .int a1, .int a2, .int a3] M Q := by
  rw [F_X10_tried] at h
  show fm_mw (d + 11) mX10_tried Q 0 [some (.ref 76), some (.int a1), some (.int a2), some (.int a3), none] [] M
  refine fl_aload0 (pc := 0) dX10_tried_0 ?_
  refine fm_iconstv (pc := 1) 0 (by decide) dX10_tried_1 ?_
  refine fm_puti (pc := 2) lp_10_130 sh_76 rfl dX10_tried_2 ?_
  obtain ⟨M1, eM1, h⟩ := fm_ltp h
  refine fm_cgm eM1 ?_
  refine fl_iload1 (pc := 5) dX10_tried_5 ?_
  refine fm_iconstv (pc := 6) 2 (by decide) dX10_tried_6 ?_
  refine fm_icmp_ne (pc := 7) 18 (by decide) dX10_tried_7 (fun c7 => ?_) (fun c7 => ?_)
  · replace h := fm_itn c7 h
    refine fl_iload1 (pc := 18) dX10_tried_18 ?_
    refine fm_if_lt (pc := 19) 35 (by decide) dX10_tried_19 (fun c19 => ?_) (fun c19 => ?_)
    · replace h := fm_itp c19 h
      exact jn_X10_tried_35 _ _ _  hq _ h
    · replace h := fm_itn c19 h
      refine fl_iload1 (pc := 22) dX10_tried_22 ?_
      refine fm_iconstv (pc := 23) 5 (by decide) dX10_tried_23 ?_
      refine fm_icmp_gt (pc := 24) 35 (by decide) dX10_tried_24 (fun c24 => ?_) (fun c24 => ?_)
      · replace h := fm_itp c24 h
        exact jn_X10_tried_35 _ _ _  hq _ h
      · replace h := fm_itn c24 h
        refine fl_iload2 (pc := 27) dX10_tried_27 ?_
        refine fm_if_ne (pc := 28) 35 (by decide) dX10_tried_28 (fun c28 => ?_) (fun c28 => ?_)
        · replace h := fm_itn c28 h
          exact jn_X10_tried_35 _ _ _  hq _ h
        · replace h := fm_itp c28 h
          refine fm_iconstv (pc := 31) 1 (by decide) dX10_tried_31 ?_
          refine fm_goto (pc := 32) 36 (by decide) dX10_tried_32 ?_
          exact jn_X10_tried_36 _ _ _ _  hq _ h
  · replace h := fm_itp c7 h
    refine fl_aload0 (pc := 10) dX10_tried_10 ?_
    refine fl_iload2 (pc := 11) dX10_tried_11 ?_
    obtain ⟨v14, M15, ev14, h⟩ := fm_bdp h
    refine fm_callV (pc := 12) mX10_isFork [_] _ rfl cvX10_isFork ml_10_404 sh_76 rfl rfl (Nat.le_of_ble_eq_true rfl) (Nat.le_of_ble_eq_true rfl) dX10_tried_12 ?_
    refine sp_X10_isFork ev14 ?_
    refine fm_ret1 ?_
    refine fm_goto (pc := 15) 36 (by decide) dX10_tried_15 ?_
    exact jn_X10_tried_36 _ _ _ _  hq _ h
/-! X10_undo -/
def F_X10_undo  (M : fm_M) : Option (Int32 × fm_M) :=
    fm_lt (fm_up M 76 0 0) (fun M1 =>
    if (M1.1 76 42) = 0 then (
      some ((-1), M1)
    ) else (
      fm_lt (fm_up M1 76 42 ((M1.1 76 42) - 1)) (fun M2 =>
      fm_bd (F_X10_copies 0 (3 + (M2.1 76 42)) M2) (fun v3 M4 =>
      some ((M4.1 76 42), M4)))
    ))
theorem sp_X10_undo {d : Nat}  {M : fm_M} {x : Int32 × fm_M} {Q : Option Value → fm_M → Prop} (h : F_X10_undo  M = some x) (hq : Q (some (.int x.1)) x.2) : fm_ct (d + 1) mX10_undo [.ref 76] M Q := by
  rw [F_X10_undo] at h
  show fm_mw (d + 1) mX10_undo Q 0 [some (.ref 76)] [] M
  refine fl_aload0 (pc := 0) dX10_undo_0 ?_
  refine fm_iconstv (pc := 1) 0 (by decide) dX10_undo_1 ?_
  refine fm_puti (pc := 2) lp_10_130 sh_76 rfl dX10_undo_2 ?_
  obtain ⟨M1, eM1, h⟩ := fm_ltp h
  refine fm_cgm eM1 ?_
  refine fl_aload0 (pc := 5) dX10_undo_5 ?_
  refine fm_geti (pc := 6) lk_10_290 sh_76 rfl dX10_undo_6 ?_
  refine fm_if_ne (pc := 9) 14 (by decide) dX10_undo_9 (fun c9 => ?_) (fun c9 => ?_)
  · replace h := fm_itn c9 h
    refine fl_aload0 (pc := 14) dX10_undo_14 ?_
    refine fm_dup (pc := 15) rfl dX10_undo_15 ?_
    refine fm_geti (pc := 16) lk_10_290 sh_76 rfl dX10_undo_16 ?_
    refine fm_iconstv (pc := 19) 1 (by decide) dX10_undo_19 ?_
    refine fm_isub (pc := 20) dX10_undo_20 ?_
    refine fm_puti (pc := 21) lp_10_290 sh_76 rfl dX10_undo_21 ?_
    obtain ⟨M2, eM2, h⟩ := fm_ltp h
    refine fm_cgm eM2 ?_
    refine fl_aload0 (pc := 24) dX10_undo_24 ?_
    refine fm_iconstv (pc := 25) 0 (by decide) dX10_undo_25 ?_
    refine fm_iconstv (pc := 26) 3 (by decide) dX10_undo_26 ?_
    refine fl_aload0 (pc := 27) dX10_undo_27 ?_
    refine fm_geti (pc := 28) lk_10_290 sh_76 rfl dX10_undo_28 ?_
    refine fm_iadd (pc := 31) dX10_undo_31 ?_
    obtain ⟨v3, M4, ev3, h⟩ := fm_bdp h
    refine fm_callV (pc := 32) mX10_copies [_, _] _ rfl cvX10_copies ml_10_414 sh_76 rfl rfl (Nat.le_of_ble_eq_true rfl) (Nat.le_of_ble_eq_true rfl) dX10_undo_32 ?_
    refine sp_X10_copies ev3 ?_
    refine fm_ret0 ?_
    refine fl_aload0 (pc := 35) dX10_undo_35 ?_
    refine fm_geti (pc := 36) lk_10_290 sh_76 rfl dX10_undo_36 ?_
    refine fm_iret (pc := 39) rfl ?_ dX10_undo_39
    cases h
    exact hq
  · replace h := fm_itp c9 h
    refine fm_iconstv (pc := 12) (-1) (by decide) dX10_undo_12 ?_
    refine fm_iret (pc := 13) rfl ?_ dX10_undo_13
    cases h
    exact hq
/-! X10_keep -/
def F_X10_keep  (M : fm_M) : Option (Int32 × fm_M) :=
    fm_lt (fm_up M 76 0 0) (fun M1 =>
    fm_bd (F_X10_copies 2 0 M1) (fun v2 M3 =>
    fm_lt (fm_up M3 76 41 1) (fun M4 =>
    fm_gd (fm_inb 0 23) (
    some ((M4.1 94 (Int32.toNatClampNeg 0)), M4)))))
theorem sp_X10_keep {d : Nat}  {M : fm_M} {x : Int32 × fm_M} {Q : Option Value → fm_M → Prop} (h : F_X10_keep  M = some x) (hq : Q (some (.int x.1)) x.2) : fm_ct (d + 1) mX10_keep [.ref 76] M Q := by
  rw [F_X10_keep] at h
  show fm_mw (d + 1) mX10_keep Q 0 [some (.ref 76)] [] M
  refine fl_aload0 (pc := 0) dX10_keep_0 ?_
  refine fm_iconstv (pc := 1) 0 (by decide) dX10_keep_1 ?_
  refine fm_puti (pc := 2) lp_10_130 sh_76 rfl dX10_keep_2 ?_
  obtain ⟨M1, eM1, h⟩ := fm_ltp h
  refine fm_cgm eM1 ?_
  refine fl_aload0 (pc := 5) dX10_keep_5 ?_
  refine fm_iconstv (pc := 6) 2 (by decide) dX10_keep_6 ?_
  refine fm_iconstv (pc := 7) 0 (by decide) dX10_keep_7 ?_
  obtain ⟨v2, M3, ev2, h⟩ := fm_bdp h
  refine fm_callV (pc := 8) mX10_copies [_, _] _ rfl cvX10_copies ml_10_414 sh_76 rfl rfl (Nat.le_of_ble_eq_true rfl) (Nat.le_of_ble_eq_true rfl) dX10_keep_8 ?_
  refine sp_X10_copies ev2 ?_
  refine fm_ret0 ?_
  refine fl_aload0 (pc := 11) dX10_keep_11 ?_
  refine fm_iconstv (pc := 12) 1 (by decide) dX10_keep_12 ?_
  refine fm_putz (pc := 13) (by decide) lp_10_286 sh_76 rfl dX10_keep_13 ?_
  obtain ⟨M4, eM4, h⟩ := fm_ltp h
  refine fm_cgm eM4 ?_
  refine fl_aload0 (pc := 16) dX10_keep_16 ?_
  refine fm_getr (pc := 17) lk_10_66 sh_76 rfl dX10_keep_17 ?_
  refine fm_iconstv (pc := 20) 0 (by decide) dX10_keep_20 ?_
  obtain ⟨g5, h⟩ := fm_gdp h
  refine fm_iald (pc := 21) sh_94 (fm_inb_ok g5) dX10_keep_21 ?_
  refine fm_iret (pc := 22) rfl ?_ dX10_keep_22
  cases h
  exact hq
/-! X10_back -/
def F_X10_back  (M : fm_M) : Option (Int32 × fm_M) :=
    fm_lt (fm_up M 76 0 0) (fun M1 =>
    if (M1.1 76 41) = 0 then (
      some ((-1), M1)
    ) else (
      fm_bd (F_X10_copies 0 2 M1) (fun v2 M3 =>
      fm_lt (fm_up M3 76 42 0) (fun M4 =>
      fm_gd (fm_inb 0 23) (
      some ((M4.1 94 (Int32.toNatClampNeg 0)), M4))))
    ))
theorem sp_X10_back {d : Nat}  {M : fm_M} {x : Int32 × fm_M} {Q : Option Value → fm_M → Prop} (h : F_X10_back  M = some x) (hq : Q (some (.int x.1)) x.2) : fm_ct (d + 1) mX10_back [.ref 76] M Q := by
  rw [F_X10_back] at h
  show fm_mw (d + 1) mX10_back Q 0 [some (.ref 76)] [] M
  refine fl_aload0 (pc := 0) dX10_back_0 ?_
  refine fm_iconstv (pc := 1) 0 (by decide) dX10_back_1 ?_
  refine fm_puti (pc := 2) lp_10_130 sh_76 rfl dX10_back_2 ?_
  obtain ⟨M1, eM1, h⟩ := fm_ltp h
  refine fm_cgm eM1 ?_
  refine fl_aload0 (pc := 5) dX10_back_5 ?_
  refine fm_geti (pc := 6) lk_10_286 sh_76 rfl dX10_back_6 ?_
  refine fm_if_ne (pc := 9) 14 (by decide) dX10_back_9 (fun c9 => ?_) (fun c9 => ?_)
  · replace h := fm_itn c9 h
    refine fl_aload0 (pc := 14) dX10_back_14 ?_
    refine fm_iconstv (pc := 15) 0 (by decide) dX10_back_15 ?_
    refine fm_iconstv (pc := 16) 2 (by decide) dX10_back_16 ?_
    obtain ⟨v2, M3, ev2, h⟩ := fm_bdp h
    refine fm_callV (pc := 17) mX10_copies [_, _] _ rfl cvX10_copies ml_10_414 sh_76 rfl rfl (Nat.le_of_ble_eq_true rfl) (Nat.le_of_ble_eq_true rfl) dX10_back_17 ?_
    refine sp_X10_copies ev2 ?_
    refine fm_ret0 ?_
    refine fl_aload0 (pc := 20) dX10_back_20 ?_
    refine fm_iconstv (pc := 21) 0 (by decide) dX10_back_21 ?_
    refine fm_puti (pc := 22) lp_10_290 sh_76 rfl dX10_back_22 ?_
    obtain ⟨M4, eM4, h⟩ := fm_ltp h
    refine fm_cgm eM4 ?_
    refine fl_aload0 (pc := 25) dX10_back_25 ?_
    refine fm_getr (pc := 26) lk_10_66 sh_76 rfl dX10_back_26 ?_
    refine fm_iconstv (pc := 29) 0 (by decide) dX10_back_29 ?_
    obtain ⟨g5, h⟩ := fm_gdp h
    refine fm_iald (pc := 30) sh_94 (fm_inb_ok g5) dX10_back_30 ?_
    refine fm_iret (pc := 31) rfl ?_ dX10_back_31
    cases h
    exact hq
  · replace h := fm_itp c9 h
    refine fm_iconstv (pc := 12) (-1) (by decide) dX10_back_12 ?_
    refine fm_iret (pc := 13) rfl ?_ dX10_back_13
    cases h
    exact hq
/-! X10_count -/
def F_X10_count (a1 : Int32) (M : fm_M) : Option (Int32 × fm_M) :=
    fm_lt (fm_up M 76 0 0) (fun M1 =>
    if a1 = 0 then (
      fm_gd (fm_inb 0 20) (
      some ((M1.1 78 (Int32.toNatClampNeg 0)), M1))
    ) else (
    if a1 = 1 then (
      fm_gd (fm_inb 1 20) (
      some ((M1.1 78 (Int32.toNatClampNeg 1)), M1))
    ) else (
    if a1 = 2 then (
      fm_gd (fm_inb 9 20) (
      fm_bd (F_X10_bitsOf (M1.1 78 (Int32.toNatClampNeg 9)) M1) (fun v5 M6 =>
      some (v5, M6)))
    ) else (
    if a1 = 3 then (
      fm_gd (fm_inb 3 20) (
      some ((M1.1 78 (Int32.toNatClampNeg 3)), M1))
    ) else (
    if a1 = 4 then (
      fm_gd (fm_inb 8 20) (
      some ((M1.1 78 (Int32.toNatClampNeg 8)), M1))
    ) else (
    if a1 = 5 then (
      fm_gd (fm_inb 0 23) (
      some ((M1.1 94 (Int32.toNatClampNeg 0)), M1))
    ) else (
    if a1 = 6 then (
      fm_gd (fm_inb 0 23) (
      some ((M1.1 95 (Int32.toNatClampNeg 0)), M1))
    ) else (
    if a1 = 7 then (
      fm_gd (fm_inb 0 23) (
      some ((M1.1 96 (Int32.toNatClampNeg 0)), M1))
    ) else (
    if a1 = 8 then (
      fm_bd (F_X10_manyOf 0 1 M1) (fun v12 M13 =>
      some (v12, M13))
    ) else (
    if a1 = 9 then (
      fm_bd (F_X10_manyOf 0 0 M1) (fun v14 M15 =>
      some (v14, M15))
    ) else (
    if a1 = 10 then (
      fm_bd (F_X10_heardAll 0 M1) (fun v16 M17 =>
      some (v16, M17))
    ) else (
    if a1 = 11 then (
      fm_gd (fm_inb 0 23) (
      fm_bd (F_X10_bitsOf (M1.1 97 (Int32.toNatClampNeg 0)) M1) (fun v19 M20 =>
      some (v19, M20)))
    ) else (
    if a1 = 12 then (
      some ((M1.1 76 55), M1)
    ) else (
    if a1 = 13 then (
      fm_bd (F_X10_knownMany M1) (fun v21 M22 =>
      some (v21, M22))
    ) else (
    if a1 = 14 then (
      some ((M1.1 76 42), M1)
    ) else (
    some ((-1), M1)))))))))))))))))
theorem sp_X10_count {d : Nat} {a1 : Int32} {M : fm_M} {x : Int32 × fm_M} {Q : Option Value → fm_M → Prop} (h : F_X10_count a1 M = some x) (hq : Q (some (.int x.1)) x.2) : fm_ct (d + 2) mX10_count [.ref 76, .int a1] M Q := by
  rw [F_X10_count] at h
  show fm_mw (d + 2) mX10_count Q 0 [some (.ref 76), some (.int a1)] [] M
  refine fl_aload0 (pc := 0) dX10_count_0 ?_
  refine fm_iconstv (pc := 1) 0 (by decide) dX10_count_1 ?_
  refine fm_puti (pc := 2) lp_10_130 sh_76 rfl dX10_count_2 ?_
  obtain ⟨M1, eM1, h⟩ := fm_ltp h
  refine fm_cgm eM1 ?_
  refine fl_iload1 (pc := 5) dX10_count_5 ?_
  by_cases s6_0 : a1 = 0
  · replace h := fm_itp s6_0 h
    refine fm_tswIn (pc := 6) 80 0 (74) (by rw [s6_0]; rfl) (by decide) (by decide) (by decide) (by decide) dX10_count_6 ?_
    refine fl_aload0 (pc := 80) dX10_count_80 ?_
    refine fm_getr (pc := 81) lk_10_13 sh_76 rfl dX10_count_81 ?_
    refine fm_iconstv (pc := 84) 0 (by decide) dX10_count_84 ?_
    obtain ⟨g2, h⟩ := fm_gdp h
    refine fm_iald (pc := 85) sh_78 (fm_inb_ok g2) dX10_count_85 ?_
    refine fm_iret (pc := 86) rfl ?_ dX10_count_86
    cases h
    exact hq
  · replace h := fm_itn s6_0 h
    by_cases s6_1 : a1 = 1
    · replace h := fm_itp s6_1 h
      refine fm_tswIn (pc := 6) 87 1 (81) (by rw [s6_1]; rfl) (by decide) (by decide) (by decide) (by decide) dX10_count_6 ?_
      refine fl_aload0 (pc := 87) dX10_count_87 ?_
      refine fm_getr (pc := 88) lk_10_13 sh_76 rfl dX10_count_88 ?_
      refine fm_iconstv (pc := 91) 1 (by decide) dX10_count_91 ?_
      obtain ⟨g3, h⟩ := fm_gdp h
      refine fm_iald (pc := 92) sh_78 (fm_inb_ok g3) dX10_count_92 ?_
      refine fm_iret (pc := 93) rfl ?_ dX10_count_93
      cases h
      exact hq
    · replace h := fm_itn s6_1 h
      by_cases s6_2 : a1 = 2
      · replace h := fm_itp s6_2 h
        refine fm_tswIn (pc := 6) 94 2 (88) (by rw [s6_2]; rfl) (by decide) (by decide) (by decide) (by decide) dX10_count_6 ?_
        refine fl_aload0 (pc := 94) dX10_count_94 ?_
        refine fm_getr (pc := 95) lk_10_13 sh_76 rfl dX10_count_95 ?_
        refine fm_bipushv (pc := 98) 9 (by decide) dX10_count_98 ?_
        obtain ⟨g4, h⟩ := fm_gdp h
        refine fm_iald (pc := 100) sh_78 (fm_inb_ok g4) dX10_count_100 ?_
        obtain ⟨v5, M6, ev5, h⟩ := fm_bdp h
        refine fm_callS (pc := 101) mX10_bitsOf [_] _ rfl csX10_bitsOf ml_10_438 rfl (Nat.le_of_ble_eq_true rfl) (Nat.le_of_ble_eq_true rfl) dX10_count_101 ?_
        refine sp_X10_bitsOf ev5 ?_
        refine fm_ret1 ?_
        refine fm_iret (pc := 104) rfl ?_ dX10_count_104
        cases h
        exact hq
      · replace h := fm_itn s6_2 h
        by_cases s6_3 : a1 = 3
        · replace h := fm_itp s6_3 h
          refine fm_tswIn (pc := 6) 105 3 (99) (by rw [s6_3]; rfl) (by decide) (by decide) (by decide) (by decide) dX10_count_6 ?_
          refine fl_aload0 (pc := 105) dX10_count_105 ?_
          refine fm_getr (pc := 106) lk_10_13 sh_76 rfl dX10_count_106 ?_
          refine fm_iconstv (pc := 109) 3 (by decide) dX10_count_109 ?_
          obtain ⟨g7, h⟩ := fm_gdp h
          refine fm_iald (pc := 110) sh_78 (fm_inb_ok g7) dX10_count_110 ?_
          refine fm_iret (pc := 111) rfl ?_ dX10_count_111
          cases h
          exact hq
        · replace h := fm_itn s6_3 h
          by_cases s6_4 : a1 = 4
          · replace h := fm_itp s6_4 h
            refine fm_tswIn (pc := 6) 112 4 (106) (by rw [s6_4]; rfl) (by decide) (by decide) (by decide) (by decide) dX10_count_6 ?_
            refine fl_aload0 (pc := 112) dX10_count_112 ?_
            refine fm_getr (pc := 113) lk_10_13 sh_76 rfl dX10_count_113 ?_
            refine fm_bipushv (pc := 116) 8 (by decide) dX10_count_116 ?_
            obtain ⟨g8, h⟩ := fm_gdp h
            refine fm_iald (pc := 118) sh_78 (fm_inb_ok g8) dX10_count_118 ?_
            refine fm_iret (pc := 119) rfl ?_ dX10_count_119
            cases h
            exact hq
          · replace h := fm_itn s6_4 h
            by_cases s6_5 : a1 = 5
            · replace h := fm_itp s6_5 h
              refine fm_tswIn (pc := 6) 120 5 (114) (by rw [s6_5]; rfl) (by decide) (by decide) (by decide) (by decide) dX10_count_6 ?_
              refine fl_aload0 (pc := 120) dX10_count_120 ?_
              refine fm_getr (pc := 121) lk_10_66 sh_76 rfl dX10_count_121 ?_
              refine fm_iconstv (pc := 124) 0 (by decide) dX10_count_124 ?_
              obtain ⟨g9, h⟩ := fm_gdp h
              refine fm_iald (pc := 125) sh_94 (fm_inb_ok g9) dX10_count_125 ?_
              refine fm_iret (pc := 126) rfl ?_ dX10_count_126
              cases h
              exact hq
            · replace h := fm_itn s6_5 h
              by_cases s6_6 : a1 = 6
              · replace h := fm_itp s6_6 h
                refine fm_tswIn (pc := 6) 127 6 (121) (by rw [s6_6]; rfl) (by decide) (by decide) (by decide) (by decide) dX10_count_6 ?_
                refine fl_aload0 (pc := 127) dX10_count_127 ?_
                refine fm_getr (pc := 128) lk_10_69 sh_76 rfl dX10_count_128 ?_
                refine fm_iconstv (pc := 131) 0 (by decide) dX10_count_131 ?_
                obtain ⟨g10, h⟩ := fm_gdp h
                refine fm_iald (pc := 132) sh_95 (fm_inb_ok g10) dX10_count_132 ?_
                refine fm_iret (pc := 133) rfl ?_ dX10_count_133
                cases h
                exact hq
              · replace h := fm_itn s6_6 h
                by_cases s6_7 : a1 = 7
                · replace h := fm_itp s6_7 h
                  refine fm_tswIn (pc := 6) 134 7 (128) (by rw [s6_7]; rfl) (by decide) (by decide) (by decide) (by decide) dX10_count_6 ?_
                  refine fl_aload0 (pc := 134) dX10_count_134 ?_
                  refine fm_getr (pc := 135) lk_10_72 sh_76 rfl dX10_count_135 ?_
                  refine fm_iconstv (pc := 138) 0 (by decide) dX10_count_138 ?_
                  obtain ⟨g11, h⟩ := fm_gdp h
                  refine fm_iald (pc := 139) sh_96 (fm_inb_ok g11) dX10_count_139 ?_
                  refine fm_iret (pc := 140) rfl ?_ dX10_count_140
                  cases h
                  exact hq
                · replace h := fm_itn s6_7 h
                  by_cases s6_8 : a1 = 8
                  · replace h := fm_itp s6_8 h
                    refine fm_tswIn (pc := 6) 141 8 (135) (by rw [s6_8]; rfl) (by decide) (by decide) (by decide) (by decide) dX10_count_6 ?_
                    refine fl_aload0 (pc := 141) dX10_count_141 ?_
                    refine fm_iconstv (pc := 142) 0 (by decide) dX10_count_142 ?_
                    refine fm_iconstv (pc := 143) 1 (by decide) dX10_count_143 ?_
                    obtain ⟨v12, M13, ev12, h⟩ := fm_bdp h
                    refine fm_callV (pc := 144) mX10_manyOf [_, _] _ rfl cvX10_manyOf ml_10_423 sh_76 rfl rfl (Nat.le_of_ble_eq_true rfl) (Nat.le_of_ble_eq_true rfl) dX10_count_144 ?_
                    refine sp_X10_manyOf ev12 ?_
                    refine fm_ret1 ?_
                    refine fm_iret (pc := 147) rfl ?_ dX10_count_147
                    cases h
                    exact hq
                  · replace h := fm_itn s6_8 h
                    by_cases s6_9 : a1 = 9
                    · replace h := fm_itp s6_9 h
                      refine fm_tswIn (pc := 6) 148 9 (142) (by rw [s6_9]; rfl) (by decide) (by decide) (by decide) (by decide) dX10_count_6 ?_
                      refine fl_aload0 (pc := 148) dX10_count_148 ?_
                      refine fm_iconstv (pc := 149) 0 (by decide) dX10_count_149 ?_
                      refine fm_iconstv (pc := 150) 0 (by decide) dX10_count_150 ?_
                      obtain ⟨v14, M15, ev14, h⟩ := fm_bdp h
                      refine fm_callV (pc := 151) mX10_manyOf [_, _] _ rfl cvX10_manyOf ml_10_423 sh_76 rfl rfl (Nat.le_of_ble_eq_true rfl) (Nat.le_of_ble_eq_true rfl) dX10_count_151 ?_
                      refine sp_X10_manyOf ev14 ?_
                      refine fm_ret1 ?_
                      refine fm_iret (pc := 154) rfl ?_ dX10_count_154
                      cases h
                      exact hq
                    · replace h := fm_itn s6_9 h
                      by_cases s6_10 : a1 = 10
                      · replace h := fm_itp s6_10 h
                        refine fm_tswIn (pc := 6) 155 10 (149) (by rw [s6_10]; rfl) (by decide) (by decide) (by decide) (by decide) dX10_count_6 ?_
                        refine fl_aload0 (pc := 155) dX10_count_155 ?_
                        refine fm_iconstv (pc := 156) 0 (by decide) dX10_count_156 ?_
                        obtain ⟨v16, M17, ev16, h⟩ := fm_bdp h
                        refine fm_callV (pc := 157) mX10_heardAll [_] _ rfl cvX10_heardAll ml_10_426 sh_76 rfl rfl (Nat.le_of_ble_eq_true rfl) (Nat.le_of_ble_eq_true rfl) dX10_count_157 ?_
                        refine sp_X10_heardAll ev16 ?_
                        refine fm_ret1 ?_
                        refine fm_iret (pc := 160) rfl ?_ dX10_count_160
                        cases h
                        exact hq
                      · replace h := fm_itn s6_10 h
                        by_cases s6_11 : a1 = 11
                        · replace h := fm_itp s6_11 h
                          refine fm_tswIn (pc := 6) 161 11 (155) (by rw [s6_11]; rfl) (by decide) (by decide) (by decide) (by decide) dX10_count_6 ?_
                          refine fl_aload0 (pc := 161) dX10_count_161 ?_
                          refine fm_getr (pc := 162) lk_10_75 sh_76 rfl dX10_count_162 ?_
                          refine fm_iconstv (pc := 165) 0 (by decide) dX10_count_165 ?_
                          obtain ⟨g18, h⟩ := fm_gdp h
                          refine fm_iald (pc := 166) sh_97 (fm_inb_ok g18) dX10_count_166 ?_
                          obtain ⟨v19, M20, ev19, h⟩ := fm_bdp h
                          refine fm_callS (pc := 167) mX10_bitsOf [_] _ rfl csX10_bitsOf ml_10_438 rfl (Nat.le_of_ble_eq_true rfl) (Nat.le_of_ble_eq_true rfl) dX10_count_167 ?_
                          refine sp_X10_bitsOf ev19 ?_
                          refine fm_ret1 ?_
                          refine fm_iret (pc := 170) rfl ?_ dX10_count_170
                          cases h
                          exact hq
                        · replace h := fm_itn s6_11 h
                          by_cases s6_12 : a1 = 12
                          · replace h := fm_itp s6_12 h
                            refine fm_tswIn (pc := 6) 171 12 (165) (by rw [s6_12]; rfl) (by decide) (by decide) (by decide) (by decide) dX10_count_6 ?_
                            refine fl_aload0 (pc := 171) dX10_count_171 ?_
                            refine fm_geti (pc := 172) lk_10_283 sh_76 rfl dX10_count_172 ?_
                            refine fm_iret (pc := 175) rfl ?_ dX10_count_175
                            cases h
                            exact hq
                          · replace h := fm_itn s6_12 h
                            by_cases s6_13 : a1 = 13
                            · replace h := fm_itp s6_13 h
                              refine fm_tswIn (pc := 6) 176 13 (170) (by rw [s6_13]; rfl) (by decide) (by decide) (by decide) (by decide) dX10_count_6 ?_
                              refine fl_aload0 (pc := 176) dX10_count_176 ?_
                              obtain ⟨v21, M22, ev21, h⟩ := fm_bdp h
                              refine fm_callV (pc := 177) mX10_knownMany [] _ rfl cvX10_knownMany ml_10_475 sh_76 rfl rfl (Nat.le_of_ble_eq_true rfl) (Nat.le_of_ble_eq_true rfl) dX10_count_177 ?_
                              refine sp_X10_knownMany ev21 ?_
                              refine fm_ret1 ?_
                              refine fm_iret (pc := 180) rfl ?_ dX10_count_180
                              cases h
                              exact hq
                            · replace h := fm_itn s6_13 h
                              by_cases s6_14 : a1 = 14
                              · replace h := fm_itp s6_14 h
                                refine fm_tswIn (pc := 6) 181 14 (175) (by rw [s6_14]; rfl) (by decide) (by decide) (by decide) (by decide) dX10_count_6 ?_
                                refine fl_aload0 (pc := 181) dX10_count_181 ?_
                                refine fm_geti (pc := 182) lk_10_290 sh_76 rfl dX10_count_182 ?_
                                refine fm_iret (pc := 185) rfl ?_ dX10_count_185
                                cases h
                                exact hq
                              · replace h := fm_itn s6_14 h
                                have q0 : ¬ Int32.toInt a1 = 0 := fun q => s6_0 (Int32.toInt_inj.mp (by rw [q]; rfl))
                                have q1 : ¬ Int32.toInt a1 = 1 := fun q => s6_1 (Int32.toInt_inj.mp (by rw [q]; rfl))
                                have q2 : ¬ Int32.toInt a1 = 2 := fun q => s6_2 (Int32.toInt_inj.mp (by rw [q]; rfl))
                                have q3 : ¬ Int32.toInt a1 = 3 := fun q => s6_3 (Int32.toInt_inj.mp (by rw [q]; rfl))
                                have q4 : ¬ Int32.toInt a1 = 4 := fun q => s6_4 (Int32.toInt_inj.mp (by rw [q]; rfl))
                                have q5 : ¬ Int32.toInt a1 = 5 := fun q => s6_5 (Int32.toInt_inj.mp (by rw [q]; rfl))
                                have q6 : ¬ Int32.toInt a1 = 6 := fun q => s6_6 (Int32.toInt_inj.mp (by rw [q]; rfl))
                                have q7 : ¬ Int32.toInt a1 = 7 := fun q => s6_7 (Int32.toInt_inj.mp (by rw [q]; rfl))
                                have q8 : ¬ Int32.toInt a1 = 8 := fun q => s6_8 (Int32.toInt_inj.mp (by rw [q]; rfl))
                                have q9 : ¬ Int32.toInt a1 = 9 := fun q => s6_9 (Int32.toInt_inj.mp (by rw [q]; rfl))
                                have q10 : ¬ Int32.toInt a1 = 10 := fun q => s6_10 (Int32.toInt_inj.mp (by rw [q]; rfl))
                                have q11 : ¬ Int32.toInt a1 = 11 := fun q => s6_11 (Int32.toInt_inj.mp (by rw [q]; rfl))
                                have q12 : ¬ Int32.toInt a1 = 12 := fun q => s6_12 (Int32.toInt_inj.mp (by rw [q]; rfl))
                                have q13 : ¬ Int32.toInt a1 = 13 := fun q => s6_13 (Int32.toInt_inj.mp (by rw [q]; rfl))
                                have q14 : ¬ Int32.toInt a1 = 14 := fun q => s6_14 (Int32.toInt_inj.mp (by rw [q]; rfl))
                                refine fm_tswOut (pc := 6) 186 (by omega) (by decide) dX10_count_6 ?_
                                refine fm_iconstv (pc := 186) (-1) (by decide) dX10_count_186 ?_
                                refine fm_iret (pc := 187) rfl ?_ dX10_count_187
                                cases h
                                exact hq
