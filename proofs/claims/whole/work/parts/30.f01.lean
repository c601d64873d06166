/-! X0_settle -/
def G_X0_settle_9 : Nat → Int32 → Int32 → Int32 → fm_M → Option ((Int32 × Int32) × fm_M)
  | 0, _, _, _, _ => none
  | n + 1, l1, l2, l3, M =>
    if l3 < 0 then (
      some ((l2, l3), M)
    ) else (
      fm_gd (fm_inb l3 4) (
      fm_lt (fm_up M 69 (Int32.toNatClampNeg l3) ((i_rem l2 9) - 4)) (fun M3 =>
      fm_lt ((l2 / 9)) (fun x4 =>
      G_X0_settle_9 n l1 x4 (l3 + (-1)) M3)))
    )
def F_X0_settle (a1 : Int32) (M : fm_M) : Option (Unit × fm_M) :=
    fm_lt (((M.1 66 3) - 1)) (fun x1 =>
    fm_bd (G_X0_settle_9 fm_fuel a1 a1 x1 M) (fun w5 M6 =>
      some ((), M6)))
theorem lp_X0_settle_9 {d : Nat} {Q : Option Value → fm_M → Prop} {l1 : Int32}   {x : (Int32 × Int32) × fm_M} (k1 : ∀ (v : Int32 × Int32) (M2 : fm_M), x = (v, M2) → fm_mw d mX0_settle Q 36 [some (.ref 66), some (.int l1), some (.int v.1), some (.int v.2)] [] M2) : ∀ (n : Nat) (l2 : Int32) (l3 : Int32) (M : fm_M), G_X0_settle_9 n l1 l2 l3 M = some x → fm_mw d mX0_settle Q 9 [some (.ref 66), some (.int l1), some (.int l2), some (.int l3)] [] M := by
  intro n
  induction n with
  | zero => intro l2 l3 M h; simp [G_X0_settle_9] at h
  | succ n ih =>
    intro l2 l3 M h
    rw [G_X0_settle_9] at h
    refine fl_iload3 (pc := 9) dX0_settle_9 ?_
    refine fm_if_lt (pc := 10) 36 (by decide) dX0_settle_10 (fun c10 => ?_) (fun c10 => ?_)
    · replace h := fm_itp c10 h
      refine fm_fgt [some (.ref 66), some (.int l1), some (.int l2), some (.int l3)] (by simp [fm_sub]) ?_
      cases h
      exact k1 _ _ rfl
    · replace h := fm_itn c10 h
      refine fl_aload0 (pc := 13) dX0_settle_13 ?_
      refine fm_getr (pc := 14) lk_0_18 sh_66 rfl dX0_settle_14 ?_
      refine fl_iload3 (pc := 17) dX0_settle_17 ?_
      refine fl_iload2 (pc := 18) dX0_settle_18 ?_
      refine fm_bipushv (pc := 19) 9 (by decide) dX0_settle_19 ?_
      refine fq_irem (pc := 21) (by decide) dX0_settle_21 ?_
      refine fm_iconstv (pc := 22) 4 (by decide) dX0_settle_22 ?_
      refine fm_isub (pc := 23) dX0_settle_23 ?_
      obtain ⟨g2, h⟩ := fm_gdp h
      refine fm_iast (pc := 24) sh_69 (fm_inb_ok g2) dX0_settle_24 ?_
      obtain ⟨M3, eM3, h⟩ := fm_ltp h
      refine fm_cgm eM3 ?_
      refine fl_iload2 (pc := 25) dX0_settle_25 ?_
      refine fm_bipushv (pc := 26) 9 (by decide) dX0_settle_26 ?_
      refine fm_idiv (pc := 28) (by decide) dX0_settle_28 ?_
      obtain ⟨x4, ex4, h⟩ := fm_ltp h
      refine fm_cgi ex4 ?_
      refine fl_istore2 (pc := 29) rfl (by decide) dX0_settle_29 ?_
      refine fl_iinc3 (pc := 30) rfl (-1) (by decide) (by decide) dX0_settle_30 ?_
      refine fm_goto (pc := 33) 9 (by decide) dX0_settle_33 ?_
      refine fm_fgt [some (.ref 66), some (.int l1), some (.int x4), some (.int (l3 + (-1)))] (by simp [fm_sub]) ?_
      exact ih _ _ _ h
theorem sp_X0_settle {d : Nat} {a1 : Int32} {M : fm_M} {x : Unit × fm_M} {Q : Option Value → fm_M → Prop} (h : F_X0_settle a1 M = some x) (hq : Q none x.2) : fm_ct d mX0_settle [.ref 66, .int a1] M Q := by
  rw [F_X0_settle] at h
  show fm_mw d mX0_settle Q 0 [some (.ref 66), some (.int a1), none, none] [] M
  refine fl_iload1 (pc := 0) dX0_settle_0 ?_
  refine fl_istore2 (pc := 1) rfl (by decide) dX0_settle_1 ?_
  refine fl_aload0 (pc := 2) dX0_settle_2 ?_
  refine fm_geti (pc := 3) lk_0_36 sh_66 rfl dX0_settle_3 ?_
  refine fm_iconstv (pc := 6) 1 (by decide) dX0_settle_6 ?_
  refine fm_isub (pc := 7) dX0_settle_7 ?_
  obtain ⟨x1, ex1, h⟩ := fm_ltp h
  refine fm_cgi ex1 ?_
  refine fl_istore3 (pc := 8) rfl (by decide) dX0_settle_8 ?_
  obtain ⟨w5, M6, ew5, h⟩ := fm_bdp h
  refine lp_X0_settle_9  ?_ _ _ _ _ ew5
  intro w59 M69 q9
  cases q9
  refine fm_vret (pc := 36) rfl ?_ dX0_settle_36
  cases h
  exact hq
/-! X0_seek -/
def G_X0_seek_38 : Nat → Nat → Nat → Int32 → Int32 → Int32 → fm_M → Option ((Int32 × Int32) × fm_M)
  | 0, _, _, _, _, _, _ => none
  | n + 1, a1, a2, l3, l4, l5, M =>
    if (M.1 66 3) ≤ l5 then (
      some ((l4, l5), M)
    ) else (
      fm_lt ((l4 * 9)) (fun x7 =>
      G_X0_seek_38 n a1 a2 l3 x7 (l5 + 1) M)
    )
def J_X0_seek_108 (rec : Int32 → Int32 → fm_M → Option ((Int32 × Int32) × fm_M)) (a1 : Nat) (a2 : Nat) (l3 : Int32) (l4 : Int32) (l5 : Int32) (l6 : Int32) (l7 : Int32) (M : fm_M) : Option ((Int32 × Int32) × fm_M) :=
    fm_bd (F_X0_carriedBy l6 a1 a2 l3 M) (fun v12 M13 =>
    if v12 = 0 then (
      rec l5 (l6 + 1) M13
    ) else (
      fm_lt (fm_up M13 66 5 l7) (fun M14 =>
      rec l6 (l6 + 1) M14)
    ))
def G_X0_seek_66 : Nat → Nat → Nat → Int32 → Int32 → Int32 → Int32 → fm_M → Option ((Int32 × Int32) × fm_M)
  | 0, _, _, _, _, _, _, _ => none
  | n + 1, a1, a2, l3, l4, l5, l6, M =>
    if l4 ≤ l6 then (
      some ((l5, l6), M)
    ) else (
      fm_bd (F_X0_costOf l6 (M.1 a1 15) M) (fun v10 M11 =>
      if v10 = (-1) then (
        G_X0_seek_66 n a1 a2 l3 l4 l5 (l6 + 1) M11
      ) else (
        if (M11.1 66 5) = (-1) then (
          J_X0_seek_108 (G_X0_seek_66 n a1 a2 l3 l4) a1 a2 l3 l4 l5 l6 v10 M11
        ) else (
          if (M11.1 66 5) ≤ v10 then (
            G_X0_seek_66 n a1 a2 l3 l4 l5 (l6 + 1) M11
          ) else (
            J_X0_seek_108 (G_X0_seek_66 n a1 a2 l3 l4) a1 a2 l3 l4 l5 l6 v10 M11
          )
        )
      ))
    )
def F_X0_seek (a1 : Nat) (a2 : Nat) (a3 : Int32) (M : fm_M) : Option (Unit × fm_M) :=
    fm_gd (fm_isTd a1) (
    fm_gd (fm_isSt a2) (
    fm_lt (fm_up M 66 3 (i_min 4 (M.1 a1 0))) (fun M1 =>
    fm_lt (fm_up M1 66 5 (-1)) (fun M2 =>
    fm_bd (F_J7_fill_53178 68 0 M2) (fun v3 M4 =>
    fm_bd (F_X0_listen a1 a2 a3 M4) (fun v5 M6 =>
    fm_bd (G_X0_seek_38 fm_fuel a1 a2 a3 1 0 M6) (fun w8 M9 =>
      fm_bd (G_X0_seek_66 fm_fuel a1 a2 a3 w8.1 0 0 M9) (fun w15 M16 =>
        fm_bd (F_X0_settle w15.1 M16) (fun v17 M18 =>
        some ((), M18))))))))))
theorem lp_X0_seek_38 {d : Nat} {Q : Option Value → fm_M → Prop} {l3 : Int32} {a1 : Nat} {a2 : Nat} (ga1 : fm_isTd a1 = true) (ga2 : fm_isSt a2 = true) {x : (Int32 × Int32) × fm_M} (k1 : ∀ (v : Int32 × Int32) (M2 : fm_M), x = (v, M2) → fm_mw (d + 5) mX0_seek Q 60 [some (.ref 66), some (.ref a1), some (.ref a2), some (.int l3), some (.int v.1), some (.int v.2), none, none] [] M2) : ∀ (n : Nat) (l4 : Int32) (l5 : Int32) (M : fm_M), G_X0_seek_38 n a1 a2 l3 l4 l5 M = some x → fm_mw (d + 5) mX0_seek Q 38 [some (.ref 66), some (.ref a1), some (.ref a2), some (.int l3), some (.int l4), some (.int l5), none, none] [] M := by
  intro n
  induction n with
  | zero => intro l4 l5 M h; simp [G_X0_seek_38] at h
  | succ n ih =>
    intro l4 l5 M h
    rw [G_X0_seek_38] at h
    refine fl_iload5 (pc := 38) dX0_seek_38 ?_
    refine fl_aload0 (pc := 40) dX0_seek_40 ?_
    refine fm_geti (pc := 41) lk_0_36 sh_66 rfl dX0_seek_41 ?_
    refine fm_icmp_ge (pc := 44) 60 (by decide) dX0_seek_44 (fun c44 => ?_) (fun c44 => ?_)
    · replace h := fm_itp c44 h
      refine fm_fgt [some (.ref 66), some (.ref a1), some (.ref a2), some (.int l3), some (.int l4), some (.int l5), none, none] (by simp [fm_sub]) ?_
      cases h
      exact k1 _ _ rfl
    · replace h := fm_itn c44 h
      refine fl_iload4 (pc := 47) dX0_seek_47 ?_
      refine fm_bipushv (pc := 49) 9 (by decide) dX0_seek_49 ?_
      refine fm_imul (pc := 51) dX0_seek_51 ?_
      obtain ⟨x7, ex7, h⟩ := fm_ltp h
      refine fm_cgi ex7 ?_
      refine fl_istore4 (pc := 52) rfl (by decide) dX0_seek_52 ?_
      refine fl_iinc5 (pc := 54) rfl 1 (by decide) (by decide) dX0_seek_54 ?_
      refine fm_goto (pc := 57) 38 (by decide) dX0_seek_57 ?_
      refine fm_fgt [some (.ref 66), some (.ref a1), some (.ref a2), some (.int l3), some (.int x7), some (.int (l5 + 1)), none, none] (by simp [fm_sub]) ?_
      exact ih _ _ _ h
theorem jn_X0_seek_108 {d : Nat} {Q : Option Value → fm_M → Prop} (rec : Int32 → Int32 → fm_M → Option ((Int32 × Int32) × fm_M))  (a1 : Nat) (a2 : Nat) (l3 : Int32) (l4 : Int32) (l5 : Int32) (l6 : Int32) (l7 : Int32) {x : (Int32 × Int32) × fm_M} (ga1 : fm_isTd a1 = true) (ga2 : fm_isSt a2 = true) (ih : ∀ (l5 : Int32) (l6 : Int32) (M : fm_M), rec l5 l6 M = some x → fm_mw (d + 5) mX0_seek Q 66 [some (.ref 66), some (.ref a1), some (.ref a2), some (.int l3), some (.int l4), some (.int l5), some (.int l6), none] [] M) (k1 : ∀ (v : Int32 × Int32) (M2 : fm_M), x = (v, M2) → fm_mw (d + 5) mX0_seek Q 136 [some (.ref 66), some (.ref a1), some (.ref a2), some (.int l3), some (.int l4), some (.int v.1), some (.int v.2), none] [] M2) (M : fm_M) (h : J_X0_seek_108 rec a1 a2 l3 l4 l5 l6 l7 M = some x) : fm_mw (d + 5) mX0_seek Q 108 [some (.ref 66), some (.ref a1), some (.ref a2), some (.int l3), some (.int l4), some (.int l5), some (.int l6), some (.int l7)] [] M := by
  rw [J_X0_seek_108] at h
  refine fl_aload0 (pc := 108) dX0_seek_108 ?_
  refine fl_iload6 (pc := 109) dX0_seek_109 ?_
  refine fl_aload1 (pc := 111) dX0_seek_111 ?_
  refine fl_aload2 (pc := 112) dX0_seek_112 ?_
  refine fl_iload3 (pc := 113) dX0_seek_113 ?_
  obtain ⟨v12, M13, ev12, h⟩ := fm_bdp h
  refine fm_callV (pc := 114) mX0_carriedBy [_, _, _, _] _ rfl cvX0_carriedBy ml_0_53 sh_66 rfl rfl (Nat.le_of_ble_eq_true rfl) (Nat.le_of_ble_eq_true rfl) dX0_seek_114 ?_
  refine sp_X0_carriedBy ev12 ?_
  refine fm_ret1 ?_
  refine fm_if_eq (pc := 117) 130 (by decide) dX0_seek_117 (fun c117 => ?_) (fun c117 => ?_)
  · replace h := fm_itp c117 h
    refine fl_iinc6 (pc := 130) rfl 1 (by decide) (by decide) dX0_seek_130 ?_
    refine fm_goto (pc := 133) 66 (by decide) dX0_seek_133 ?_
    refine fm_fgt [some (.ref 66), some (.ref a1), some (.ref a2), some (.int l3), some (.int l4), some (.int l5), some (.int (l6 + 1)), none] (by simp [fm_sub]) ?_
    exact ih _ _ _ h
  · replace h := fm_itn c117 h
    refine fl_aload0 (pc := 120) dX0_seek_120 ?_
    refine fl_iload7 (pc := 121) dX0_seek_121 ?_
    refine fm_puti (pc := 123) lp_0_21 sh_66 rfl dX0_seek_123 ?_
    obtain ⟨M14, eM14, h⟩ := fm_ltp h
    refine fm_cgm eM14 ?_
    refine fl_iload6 (pc := 126) dX0_seek_126 ?_
    refine fl_istore5 (pc := 128) rfl (by decide) dX0_seek_128 ?_
    refine fl_iinc6 (pc := 130) rfl 1 (by decide) (by decide) dX0_seek_130 ?_
    refine fm_goto (pc := 133) 66 (by decide) dX0_seek_133 ?_
    refine fm_fgt [some (.ref 66), some (.ref a1), some (.ref a2), some (.int l3), some (.int l4), some (.int l6), some (.int (l6 + 1)), none] (by simp [fm_sub]) ?_
    exact ih _ _ _ h
theorem lp_X0_seek_66 {d : Nat} {Q : Option Value → fm_M → Prop} {l3 : Int32} {l4 : Int32} {a1 : Nat} {a2 : Nat} (ga1 : fm_isTd a1 = true) (ga2 : fm_isSt a2 = true) {x : (Int32 × Int32) × fm_M} (k1 : ∀ (v : Int32 × Int32) (M2 : fm_M), x = (v, M2) → fm_mw (d + 5) mX0_seek Q 136 [some (.ref 66), some (.ref a1), some (.ref a2), some (.int l3), some (.int l4), some (.int v.1), some (.int v.2), none] [] M2) : ∀ (n : Nat) (l5 : Int32) (l6 : Int32) (M : fm_M), G_X0_seek_66 n a1 a2 l3 l4 l5 l6 M = some x → fm_mw (d + 5) mX0_seek Q 66 [some (.ref 66), some (.ref a1), some (.ref a2), some (.int l3), some (.int l4), some (.int l5), some (.int l6), none] [] M := by
  intro n
  induction n with
  | zero => intro l5 l6 M h; simp [G_X0_seek_66] at h
  | succ n ih =>
    intro l5 l6 M h
    rw [G_X0_seek_66] at h
    refine fl_iload6 (pc := 66) dX0_seek_66 ?_
    refine fl_iload4 (pc := 68) dX0_seek_68 ?_
    refine fm_icmp_ge (pc := 70) 136 (by decide) dX0_seek_70 (fun c70 => ?_) (fun c70 => ?_)
    · replace h := fm_itp c70 h
      refine fm_fgt [some (.ref 66), some (.ref a1), some (.ref a2), some (.int l3), some (.int l4), some (.int l5), some (.int l6), none] (by simp [fm_sub]) ?_
      cases h
      exact k1 _ _ rfl
    · replace h := fm_itn c70 h
      refine fl_aload0 (pc := 73) dX0_seek_73 ?_
      refine fl_iload6 (pc := 74) dX0_seek_74 ?_
      refine fl_aload1 (pc := 76) dX0_seek_76 ?_
      refine fm_geti (pc := 77) lk_0_47 (shTd0 ga1) rfl dX0_seek_77 ?_
      obtain ⟨v10, M11, ev10, h⟩ := fm_bdp h
      refine fm_callV (pc := 80) mX0_costOf [_, _] _ rfl cvX0_costOf ml_0_50 sh_66 rfl rfl (Nat.le_of_ble_eq_true rfl) (Nat.le_of_ble_eq_true rfl) dX0_seek_80 ?_
      refine sp_X0_costOf ev10 ?_
      refine fm_ret1 ?_
      refine fl_istore7 (pc := 83) rfl (by decide) dX0_seek_83 ?_
      refine fl_iload7 (pc := 85) dX0_seek_85 ?_
      refine fm_iconstv (pc := 87) (-1) (by decide) dX0_seek_87 ?_
      refine fm_icmp_eq (pc := 88) 130 (by decide) dX0_seek_88 (fun c88 => ?_) (fun c88 => ?_)
      · replace h := fm_itp c88 h
        refine fl_iinc6 (pc := 130) rfl 1 (by decide) (by decide) dX0_seek_130 ?_
        refine fm_goto (pc := 133) 66 (by decide) dX0_seek_133 ?_
        refine fm_fgt [some (.ref 66), some (.ref a1), some (.ref a2), some (.int l3), some (.int l4), some (.int l5), some (.int (l6 + 1)), none] (by simp [fm_sub]) ?_
        exact ih _ _ _ h
      · replace h := fm_itn c88 h
        refine fl_aload0 (pc := 91) dX0_seek_91 ?_
        refine fm_geti (pc := 92) lk_0_21 sh_66 rfl dX0_seek_92 ?_
        refine fm_iconstv (pc := 95) (-1) (by decide) dX0_seek_95 ?_
        refine fm_icmp_eq (pc := 96) 108 (by decide) dX0_seek_96 (fun c96 => ?_) (fun c96 => ?_)
        · replace h := fm_itp c96 h
          exact jn_X0_seek_108 _ _ _ _ _ _ _ _ ga1 ga2 ih k1 _ h
        · replace h := fm_itn c96 h
          refine fl_iload7 (pc := 99) dX0_seek_99 ?_
          refine fl_aload0 (pc := 101) dX0_seek_101 ?_
          refine fm_geti (pc := 102) lk_0_21 sh_66 rfl dX0_seek_102 ?_
          refine fm_icmp_ge (pc := 105) 130 (by decide) dX0_seek_105 (fun c105 => ?_) (fun c105 => ?_)
          · replace h := fm_itp c105 h
            refine fl_iinc6 (pc := 130) rfl 1 (by decide) (by decide) dX0_seek_130 ?_
            refine fm_goto (pc := 133) 66 (by decide) dX0_seek_133 ?_
            refine fm_fgt [some (.ref 66), some (.ref a1), some (.ref a2), some (.int l3), some (.int l4), some (.int l5), some (.int (l6 + 1)), none] (by simp [fm_sub]) ?_
            exact ih _ _ _ h
          · replace h := fm_itn c105 h
            exact jn_X0_seek_108 _ _ _ _ _ _ _ _ ga1 ga2 ih k1 _ h
theorem sp_X0_seek {d : Nat} {a1 : Nat} {a2 : Nat} {a3 : Int32} {M : fm_M} {x : Unit × fm_M} {Q : Option Value → fm_M → Prop} (h : F_X0_seek a1 a2 a3 M = some x) (hq : Q none x.2) : fm_ct (d + 5) mX0_seek [.ref 66, .ref a1, .ref a2, .int a3] M Q := by
  rw [F_X0_seek] at h
  show fm_mw (d + 5) mX0_seek Q 0 [some (.ref 66), some (.ref a1), some (.ref a2), some (.int a3), none, none, none, none] [] M
  obtain ⟨ga1, h⟩ := fm_gdp h
  obtain ⟨ga2, h⟩ := fm_gdp h
  refine fl_aload0 (pc := 0) dX0_seek_0 ?_
  refine fm_iconstv (pc := 1) 4 (by decide) dX0_seek_1 ?_
  refine fl_aload1 (pc := 2) dX0_seek_2 ?_
  refine fm_geti (pc := 3) lk_0_25 (shTd0 ga1) rfl dX0_seek_3 ?_
  refine fq_mmin (pc := 6) ml_0_30 (Nat.le_of_ble_eq_true rfl) dX0_seek_6 ?_
  refine fm_puti (pc := 9) lp_0_36 sh_66 rfl dX0_seek_9 ?_
  obtain ⟨M1, eM1, h⟩ := fm_ltp h
  refine fm_cgm eM1 ?_
  refine fl_aload0 (pc := 12) dX0_seek_12 ?_
  refine fm_iconstv (pc := 13) (-1) (by decide) dX0_seek_13 ?_
  refine fm_puti (pc := 14) lp_0_21 sh_66 rfl dX0_seek_14 ?_
  obtain ⟨M2, eM2, h⟩ := fm_ltp h
  refine fm_cgm eM2 ?_
  refine fl_aload0 (pc := 17) dX0_seek_17 ?_
  refine fm_getr (pc := 18) lk_0_15 sh_66 rfl dX0_seek_18 ?_
  refine fm_iconstv (pc := 21) 0 (by decide) dX0_seek_21 ?_
  obtain ⟨v3, M4, ev3, h⟩ := fm_bdp h
  refine fm_callS (pc := 22) mJ7_fill_53178 [_, _] _ rfl csJ7_fill_53178 ml_0_37 rfl (Nat.le_of_ble_eq_true rfl) (Nat.le_of_ble_eq_true rfl) dX0_seek_22 ?_
  refine sp_J7_fill_53178 ev3 ?_
  refine fm_ret0 ?_
  refine fl_aload0 (pc := 25) dX0_seek_25 ?_
  refine fl_aload1 (pc := 26) dX0_seek_26 ?_
  refine fl_aload2 (pc := 27) dX0_seek_27 ?_
  refine fl_iload3 (pc := 28) dX0_seek_28 ?_
  obtain ⟨v5, M6, ev5, h⟩ := fm_bdp h
  refine fm_callV (pc := 29) mX0_listen [_, _, _] _ rfl cvX0_listen ml_0_43 sh_66 rfl rfl (Nat.le_of_ble_eq_true rfl) (Nat.le_of_ble_eq_true rfl) dX0_seek_29 ?_
  refine sp_X0_listen ev5 ?_
  refine fm_ret0 ?_
  refine fm_iconstv (pc := 32) 1 (by decide) dX0_seek_32 ?_
  refine fl_istore4 (pc := 33) rfl (by decide) dX0_seek_33 ?_
  refine fm_iconstv (pc := 35) 0 (by decide) dX0_seek_35 ?_
  refine fl_istore5 (pc := 36) rfl (by decide) dX0_seek_36 ?_
  obtain ⟨w8, M9, ew8, h⟩ := fm_bdp h
  refine lp_X0_seek_38 ga1 ga2 ?_ _ _ _ _ ew8
  intro w89 M99 q9
  cases q9
  refine fm_iconstv (pc := 60) 0 (by decide) dX0_seek_60 ?_
  refine fl_istore5 (pc := 61) rfl (by decide) dX0_seek_61 ?_
  refine fm_iconstv (pc := 63) 0 (by decide) dX0_seek_63 ?_
  refine fl_istore6 (pc := 64) rfl (by decide) dX0_seek_64 ?_
  obtain ⟨w15, M16, ew15, h⟩ := fm_bdp h
  refine lp_X0_seek_66 ga1 ga2 ?_ _ _ _ _ ew15
  intro w159 M169 q9
  cases q9
  refine fl_aload0 (pc := 136) dX0_seek_136 ?_
  refine fl_iload5 (pc := 137) dX0_seek_137 ?_
  obtain ⟨v17, M18, ev17, h⟩ := fm_bdp h
  refine fm_callV (pc := 139) mX0_settle [_] _ rfl cvX0_settle ml_0_57 sh_66 rfl rfl (Nat.le_of_ble_eq_true rfl) (Nat.le_of_ble_eq_true rfl) dX0_seek_139 ?_
  refine sp_X0_settle ev17 ?_
  refine fm_ret0 ?_
  refine fm_vret (pc := 142) rfl ?_ dX0_seek_142
  cases h
  exact hq
/-! X0_filingOf -/
def F_X0_filingOf (a1 : Int32) (M : fm_M) : Option (Int32 × fm_M) :=
    if a1 < 0 then (
      some ((-1), M)
    ) else (
      if 4 ≤ a1 then (
        some ((-1), M)
      ) else (
        fm_gd (fm_inb a1 4) (
        some ((M.1 69 (Int32.toNatClampNeg a1)), M))
      )
    )
theorem sp_X0_filingOf {d : Nat} {a1 : Int32} {M : fm_M} {x : Int32 × fm_M} {Q : Option Value → fm_M → Prop} (h : F_X0_filingOf a1 M = some x) (hq : Q (some (.int x.1)) x.2) : fm_ct d mX0_filingOf [.ref 66, .int a1] M Q := by
  rw [F_X0_filingOf] at h
  show fm_mw d mX0_filingOf Q 0 [some (.ref 66), some (.int a1)] [] M
  refine fl_iload1 (pc := 0) dX0_filingOf_0 ?_
  refine fm_if_lt (pc := 1) 18 (by decide) dX0_filingOf_1 (fun c1 => ?_) (fun c1 => ?_)
  · replace h := fm_itp c1 h
    refine fm_iconstv (pc := 18) (-1) (by decide) dX0_filingOf_18 ?_
    refine fm_iret (pc := 19) rfl ?_ dX0_filingOf_19
    cases h
    exact hq
  · replace h := fm_itn c1 h
    refine fl_iload1 (pc := 4) dX0_filingOf_4 ?_
    refine fm_iconstv (pc := 5) 4 (by decide) dX0_filingOf_5 ?_
    refine fm_icmp_ge (pc := 6) 18 (by decide) dX0_filingOf_6 (fun c6 => ?_) (fun c6 => ?_)
    · replace h := fm_itp c6 h
      refine fm_iconstv (pc := 18) (-1) (by decide) dX0_filingOf_18 ?_
      refine fm_iret (pc := 19) rfl ?_ dX0_filingOf_19
      cases h
      exact hq
    · replace h := fm_itn c6 h
      refine fl_aload0 (pc := 9) dX0_filingOf_9 ?_
      refine fm_getr (pc := 10) lk_0_18 sh_66 rfl dX0_filingOf_10 ?_
      refine fl_iload1 (pc := 13) dX0_filingOf_13 ?_
      obtain ⟨g1, h⟩ := fm_gdp h
      refine fm_iald (pc := 14) sh_69 (fm_inb_ok g1) dX0_filingOf_14 ?_
      refine fm_goto (pc := 15) 19 (by decide) dX0_filingOf_15 ?_
      refine fm_iret (pc := 19) rfl ?_ dX0_filingOf_19
      cases h
      exact hq
/-! X1_dropOldest -/
def F_X1_dropOldest  (M : fm_M) : Option (Unit × fm_M) :=
    fm_lt (fm_up M 59 3 19) (fun M1 =>
    fm_gd (fm_cpb 1 0 (M1.1 59 3) 20 20) (
    fm_lt (fm_row M1 60 (va_cpy (M1.1 60) (M1.1 60) (Int32.toNatClampNeg 1) (Int32.toNatClampNeg 0) (Int32.toNatClampNeg (M1.1 59 3)))) (fun M3 =>
    fm_gd (fm_cpb 1 0 (M3.1 59 3) 20 20) (
    fm_lt (fm_row M3 61 (va_cpy (M3.1 61) (M3.1 61) (Int32.toNatClampNeg 1) (Int32.toNatClampNeg 0) (Int32.toNatClampNeg (M3.1 59 3)))) (fun M5 =>
    fm_gd (fm_cpb 1 0 (M5.1 59 3) 20 20) (
    fm_lt (fm_row M5 62 (va_cpy (M5.1 62) (M5.1 62) (Int32.toNatClampNeg 1) (Int32.toNatClampNeg 0) (Int32.toNatClampNeg (M5.1 59 3)))) (fun M7 =>
    some ((), M7))))))))
theorem sp_X1_dropOldest {d : Nat}  {M : fm_M} {x : Unit × fm_M} {Q : Option Value → fm_M → Prop} (h : F_X1_dropOldest  M = some x) (hq : Q none x.2) : fm_ct (d + 1) mX1_dropOldest [.ref 59] M Q := by
  rw [F_X1_dropOldest] at h
  show fm_mw (d + 1) mX1_dropOldest Q 0 [some (.ref 59)] [] M
  refine fl_aload0 (pc := 0) dX1_dropOldest_0 ?_
  refine fm_bipushv (pc := 1) 19 (by decide) dX1_dropOldest_1 ?_
  refine fm_puti (pc := 3) lp_1_21 sh_59 rfl dX1_dropOldest_3 ?_
  obtain ⟨M1, eM1, h⟩ := fm_ltp h
  refine fm_cgm eM1 ?_
  refine fl_aload0 (pc := 6) dX1_dropOldest_6 ?_
  refine fm_getr (pc := 7) lk_1_9 sh_59 rfl dX1_dropOldest_7 ?_
  refine fm_iconstv (pc := 10) 1 (by decide) dX1_dropOldest_10 ?_
  refine fl_aload0 (pc := 11) dX1_dropOldest_11 ?_
  refine fm_getr (pc := 12) lk_1_9 sh_59 rfl dX1_dropOldest_12 ?_
  refine fm_iconstv (pc := 15) 0 (by decide) dX1_dropOldest_15 ?_
  refine fl_aload0 (pc := 16) dX1_dropOldest_16 ?_
  refine fm_geti (pc := 17) lk_1_21 sh_59 rfl dX1_dropOldest_17 ?_
  obtain ⟨g2, h⟩ := fm_gdp h
  obtain ⟨q1, q2, q3, q4, q5⟩ := fm_cpb_ok g2
  refine fm_copyi (pc := 20) ml_1_28 nt_copy st_copy in_sys sh_60 sh_60 q1 q2 q3 q4 q5 (Nat.le_of_ble_eq_true rfl) dX1_dropOldest_20 ?_
  obtain ⟨M3, eM3, h⟩ := fm_ltp h
  refine fm_cgm eM3 ?_
  refine fl_aload0 (pc := 23) dX1_dropOldest_23 ?_
  refine fm_getr (pc := 24) lk_1_15 sh_59 rfl dX1_dropOldest_24 ?_
  refine fm_iconstv (pc := 27) 1 (by decide) dX1_dropOldest_27 ?_
  refine fl_aload0 (pc := 28) dX1_dropOldest_28 ?_
  refine fm_getr (pc := 29) lk_1_15 sh_59 rfl dX1_dropOldest_29 ?_
  refine fm_iconstv (pc := 32) 0 (by decide) dX1_dropOldest_32 ?_
  refine fl_aload0 (pc := 33) dX1_dropOldest_33 ?_
  refine fm_geti (pc := 34) lk_1_21 sh_59 rfl dX1_dropOldest_34 ?_
  obtain ⟨g4, h⟩ := fm_gdp h
  obtain ⟨q1, q2, q3, q4, q5⟩ := fm_cpb_ok g4
  refine fm_copyi (pc := 37) ml_1_28 nt_copy st_copy in_sys sh_61 sh_61 q1 q2 q3 q4 q5 (Nat.le_of_ble_eq_true rfl) dX1_dropOldest_37 ?_
  obtain ⟨M5, eM5, h⟩ := fm_ltp h
  refine fm_cgm eM5 ?_
  refine fl_aload0 (pc := 40) dX1_dropOldest_40 ?_
  refine fm_getr (pc := 41) lk_1_18 sh_59 rfl dX1_dropOldest_41 ?_
  refine fm_iconstv (pc := 44) 1 (by decide) dX1_dropOldest_44 ?_
  refine fl_aload0 (pc := 45) dX1_dropOldest_45 ?_
  refine fm_getr (pc := 46) lk_1_18 sh_59 rfl dX1_dropOldest_46 ?_
  refine fm_iconstv (pc := 49) 0 (by decide) dX1_dropOldest_49 ?_
  refine fl_aload0 (pc := 50) dX1_dropOldest_50 ?_
  refine fm_geti (pc := 51) lk_1_21 sh_59 rfl dX1_dropOldest_51 ?_
  obtain ⟨g6, h⟩ := fm_gdp h
  obtain ⟨q1, q2, q3, q4, q5⟩ := fm_cpb_ok g6
  refine fm_copyi (pc := 54) ml_1_28 nt_copy st_copy in_sys sh_62 sh_62 q1 q2 q3 q4 q5 (Nat.le_of_ble_eq_true rfl) dX1_dropOldest_54 ?_
  obtain ⟨M7, eM7, h⟩ := fm_ltp h
  refine fm_cgm eM7 ?_
  refine fm_vret (pc := 57) rfl ?_ dX1_dropOldest_57
  cases h
  exact hq
/-! X1_add -/
def J_X1_add_13 (l1 : Int32) (l2 : Int32) (l3 : Int32) (M : fm_M) : Option (Unit × fm_M) :=
    fm_gd (fm_inb (M.1 59 3) 20) (
    fm_lt (fm_up M 60 (Int32.toNatClampNeg (M.1 59 3)) l1) (fun M2 =>
    fm_gd (fm_inb (M2.1 59 3) 20) (
    fm_lt (fm_up M2 61 (Int32.toNatClampNeg (M2.1 59 3)) l2) (fun M4 =>
    fm_gd (fm_inb (M4.1 59 3) 20) (
    fm_lt (fm_up M4 62 (Int32.toNatClampNeg (M4.1 59 3)) l3) (fun M6 =>
    fm_lt (fm_up M6 59 3 ((M6.1 59 3) + 1)) (fun M7 =>
    some ((), M7))))))))
def F_X1_add (a1 : Int32) (a2 : Int32) (a3 : Int32) (M : fm_M) : Option (Unit × fm_M) :=
    if (M.1 59 3) < 20 then (
      J_X1_add_13 a1 a2 a3 M
    ) else (
      fm_bd (F_X1_dropOldest M) (fun v8 M9 =>
      J_X1_add_13 a1 a2 a3 M9)
    )
theorem jn_X1_add_13 {d : Nat} {Q : Option Value → fm_M → Prop}  (l1 : Int32) (l2 : Int32) (l3 : Int32) {x : Unit × fm_M}  (hq : Q none x.2) (M : fm_M) (h : J_X1_add_13 l1 l2 l3 M = some x) : fm_mw (d + 2) mX1_add Q 13 [some (.ref 59), some (.int l1), some (.int l2), some (.int l3)] [] M := by
  rw [J_X1_add_13] at h
  refine fl_aload0 (pc := 13) dX1_add_13 ?_
  refine fm_getr (pc := 14) lk_1_9 sh_59 rfl dX1_add_14 ?_
  refine fl_aload0 (pc := 17) dX1_add_17 ?_
  refine fm_geti (pc := 18) lk_1_21 sh_59 rfl dX1_add_18 ?_
  refine fl_iload1 (pc := 21) dX1_add_21 ?_
  obtain ⟨g1, h⟩ := fm_gdp h
  refine fm_iast (pc := 22) sh_60 (fm_inb_ok g1) dX1_add_22 ?_
  obtain ⟨M2, eM2, h⟩ := fm_ltp h
  refine fm_cgm eM2 ?_
  refine fl_aload0 (pc := 23) dX1_add_23 ?_
  refine fm_getr (pc := 24) lk_1_15 sh_59 rfl dX1_add_24 ?_
  refine fl_aload0 (pc := 27) dX1_add_27 ?_
  refine fm_geti (pc := 28) lk_1_21 sh_59 rfl dX1_add_28 ?_
  refine fl_iload2 (pc := 31) dX1_add_31 ?_
  obtain ⟨g3, h⟩ := fm_gdp h
  refine fm_iast (pc := 32) sh_61 (fm_inb_ok g3) dX1_add_32 ?_
  obtain ⟨M4, eM4, h⟩ := fm_ltp h
  refine fm_cgm eM4 ?_
  refine fl_aload0 (pc := 33) dX1_add_33 ?_
  refine fm_getr (pc := 34) lk_1_18 sh_59 rfl dX1_add_34 ?_
  refine fl_aload0 (pc := 37) dX1_add_37 ?_
  refine fm_geti (pc := 38) lk_1_21 sh_59 rfl dX1_add_38 ?_
  refine fl_iload3 (pc := 41) dX1_add_41 ?_
  obtain ⟨g5, h⟩ := fm_gdp h
  refine fm_iast (pc := 42) sh_62 (fm_inb_ok g5) dX1_add_42 ?_
  obtain ⟨M6, eM6, h⟩ := fm_ltp h
  refine fm_cgm eM6 ?_
  refine fl_aload0 (pc := 43) dX1_add_43 ?_
  refine fm_dup (pc := 44) rfl dX1_add_44 ?_
  refine fm_geti (pc := 45) lk_1_21 sh_59 rfl dX1_add_45 ?_
  refine fm_iconstv (pc := 48) 1 (by decide) dX1_add_48 ?_
  refine fm_iadd (pc := 49) dX1_add_49 ?_
  refine fm_puti (pc := 50) lp_1_21 sh_59 rfl dX1_add_50 ?_
  obtain ⟨M7, eM7, h⟩ := fm_ltp h
  refine fm_cgm eM7 ?_
  refine fm_vret (pc := 53) rfl ?_ dX1_add_53
  cases h
  exact hq
theorem sp_X1_add {d : Nat} {a1 : Int32} {a2 : Int32} {a3 : Int32} {M : fm_M} {x : Unit × fm_M} {Q : Option Value → fm_M → Prop} (h : F_X1_add a1 a2 a3 M = some x) (hq : Q none x.2) : fm_ct (d + 2) mX1_add [.ref 59, .int a1, .int a2, .int a3] M Q := by
  rw [F_X1_add] at h
  show fm_mw (d + 2) mX1_add Q 0 [some (.ref 59), some (.int a1), some (.int a2), some (.int a3)] [] M
  refine fl_aload0 (pc := 0) dX1_add_0 ?_
  refine fm_geti (pc := 1) lk_1_21 sh_59 rfl dX1_add_1 ?_
  refine fm_bipushv (pc := 4) 20 (by decide) dX1_add_4 ?_
  refine fm_icmp_lt (pc := 6) 13 (by decide) dX1_add_6 (fun c6 => ?_) (fun c6 => ?_)
  · replace h := fm_itp c6 h
    exact jn_X1_add_13 _ _ _  hq _ h
  · replace h := fm_itn c6 h
    refine fl_aload0 (pc := 9) dX1_add_9 ?_
    obtain ⟨v8, M9, ev8, h⟩ := fm_bdp h
    refine fm_callV (pc := 10) mX1_dropOldest [] _ rfl cvX1_dropOldest ml_1_25 sh_59 rfl rfl (Nat.le_of_ble_eq_true rfl) (Nat.le_of_ble_eq_true rfl) dX1_add_10 ?_
    refine sp_X1_dropOldest ev8 ?_
    refine fm_ret0 ?_
    exact jn_X1_add_13 _ _ _  hq _ h
/-! X2_firstHas -/
def J_X2_firstHas_19 (l1 : Int32) (l2 : Int32) (l3 : Int32) (s0 : Int32) (M : fm_M) : Option (Int32 × fm_M) :=
    some ((s0 - (l3 * (i_abs (l1 - 2)))), M)
def F_X2_firstHas (a1 : Int32) (a2 : Int32) (a3 : Int32) (M : fm_M) : Option (Int32 × fm_M) :=
    fm_gd (fm_inb ((a1 * 5) + a2) 25) (
    if (M.1 71 (Int32.toNatClampNeg ((a1 * 5) + a2))) = 0 then (
      J_X2_firstHas_19 a1 a2 a3 0 M
    ) else (
      J_X2_firstHas_19 a1 a2 a3 20 M
    ))
theorem jn_X2_firstHas_19 {d : Nat} {Q : Option Value → fm_M → Prop}  (l1 : Int32) (l2 : Int32) (l3 : Int32) (s0 : Int32) {x : Int32 × fm_M}  (hq : Q (some (.int x.1)) x.2) (M : fm_M) (h : J_X2_firstHas_19 l1 l2 l3 s0 M = some x) : fm_mw (d + 1) mX2_firstHas Q 19 [some (.ref 70), some (.int l1), some (.int l2), some (.int l3)] [(.int s0)] M := by
  rw [J_X2_firstHas_19] at h
  refine fl_iload3 (pc := 19) dX2_firstHas_19 ?_
  refine fl_iload1 (pc := 20) dX2_firstHas_20 ?_
  refine fm_iconstv (pc := 21) 2 (by decide) dX2_firstHas_21 ?_
  refine fm_isub (pc := 22) dX2_firstHas_22 ?_
  refine fq_mabs (pc := 23) ml_2_52 (Nat.le_of_ble_eq_true rfl) dX2_firstHas_23 ?_
  refine fm_imul (pc := 26) dX2_firstHas_26 ?_
  refine fm_isub (pc := 27) dX2_firstHas_27 ?_
  refine fm_iret (pc := 28) rfl ?_ dX2_firstHas_28
  cases h
  exact hq
theorem sp_X2_firstHas {d : Nat} {a1 : Int32} {a2 : Int32} {a3 : Int32} {M : fm_M} {x : Int32 × fm_M} {Q : Option Value → fm_M → Prop} (h : F_X2_firstHas a1 a2 a3 M = some x) (hq : Q (some (.int x.1)) x.2) : fm_ct (d + 1) mX2_firstHas [.ref 70, .int a1, .int a2, .int a3] M Q := by
  rw [F_X2_firstHas] at h
  show fm_mw (d + 1) mX2_firstHas Q 0 [some (.ref 70), some (.int a1), some (.int a2), some (.int a3)] [] M
  refine fl_aload0 (pc := 0) dX2_firstHas_0 ?_
  refine fm_getr (pc := 1) lk_2_11 sh_70 rfl dX2_firstHas_1 ?_
  refine fl_iload1 (pc := 4) dX2_firstHas_4 ?_
  refine fm_iconstv (pc := 5) 5 (by decide) dX2_firstHas_5 ?_
  refine fm_imul (pc := 6) dX2_firstHas_6 ?_
  refine fl_iload2 (pc := 7) dX2_firstHas_7 ?_
  refine fm_iadd (pc := 8) dX2_firstHas_8 ?_
  obtain ⟨g1, h⟩ := fm_gdp h
  refine fm_zald (pc := 9) sh_71 (fm_inb_ok g1) dX2_firstHas_9 ?_
  refine fm_if_eq (pc := 10) 18 (by decide) dX2_firstHas_10 (fun c10 => ?_) (fun c10 => ?_)
  · replace h := fm_itp c10 h
    refine fm_iconstv (pc := 18) 0 (by decide) dX2_firstHas_18 ?_
    exact jn_X2_firstHas_19 _ _ _ _  hq _ h
  · replace h := fm_itn c10 h
    refine fm_bipushv (pc := 13) 20 (by decide) dX2_firstHas_13 ?_
    refine fm_goto (pc := 15) 19 (by decide) dX2_firstHas_15 ?_
    exact jn_X2_firstHas_19 _ _ _ _  hq _ h
/-! X2_secondHas -/
def J_X2_secondHas_19 (l1 : Int32) (l2 : Int32) (l3 : Int32) (s0 : Int32) (M : fm_M) : Option (Int32 × fm_M) :=
    some ((s0 - (l3 * (i_abs (l2 - 2)))), M)
def F_X2_secondHas (a1 : Int32) (a2 : Int32) (a3 : Int32) (M : fm_M) : Option (Int32 × fm_M) :=
    fm_gd (fm_inb ((a1 * 5) + a2) 25) (
    if (M.1 71 (Int32.toNatClampNeg ((a1 * 5) + a2))) = 0 then (
      J_X2_secondHas_19 a1 a2 a3 20 M
    ) else (
      J_X2_secondHas_19 a1 a2 a3 0 M
    ))
theorem jn_X2_secondHas_19 {d : Nat} {Q : Option Value → fm_M → Prop}  (l1 : Int32) (l2 : Int32) (l3 : Int32) (s0 : Int32) {x : Int32 × fm_M}  (hq : Q (some (.int x.1)) x.2) (M : fm_M) (h : J_X2_secondHas_19 l1 l2 l3 s0 M = some x) : fm_mw (d + 1) mX2_secondHas Q 19 [some (.ref 70), some (.int l1), some (.int l2), some (.int l3)] [(.int s0)] M := by
  rw [J_X2_secondHas_19] at h
  refine fl_iload3 (pc := 19) dX2_secondHas_19 ?_
  refine fl_iload2 (pc := 20) dX2_secondHas_20 ?_
  refine fm_iconstv (pc := 21) 2 (by decide) dX2_secondHas_21 ?_
  refine fm_isub (pc := 22) dX2_secondHas_22 ?_
  refine fq_mabs (pc := 23) ml_2_52 (Nat.le_of_ble_eq_true rfl) dX2_secondHas_23 ?_
  refine fm_imul (pc := 26) dX2_secondHas_26 ?_
  refine fm_isub (pc := 27) dX2_secondHas_27 ?_
  refine fm_iret (pc := 28) rfl ?_ dX2_secondHas_28
  cases h
  exact hq
theorem sp_X2_secondHas {d : Nat} {a1 : Int32} {a2 : Int32} {a3 : Int32} {M : fm_M} {x : Int32 × fm_M} {Q : Option Value → fm_M → Prop} (h : F_X2_secondHas a1 a2 a3 M = some x) (hq : Q (some (.int x.1)) x.2) : fm_ct (d + 1) mX2_secondHas [.ref 70, .int a1, .int a2, .int a3] M Q := by
  rw [F_X2_secondHas] at h
  show fm_mw (d + 1) mX2_secondHas Q 0 [some (.ref 70), some (.int a1), some (.int a2), some (.int a3)] [] M
  refine fl_aload0 (pc := 0) dX2_secondHas_0 ?_
  refine fm_getr (pc := 1) lk_2_11 sh_70 rfl dX2_secondHas_1 ?_
  refine fl_iload1 (pc := 4) dX2_secondHas_4 ?_
  refine fm_iconstv (pc := 5) 5 (by decide) dX2_secondHas_5 ?_
  refine fm_imul (pc := 6) dX2_secondHas_6 ?_
  refine fl_iload2 (pc := 7) dX2_secondHas_7 ?_
  refine fm_iadd (pc := 8) dX2_secondHas_8 ?_
  obtain ⟨g1, h⟩ := fm_gdp h
  refine fm_zald (pc := 9) sh_71 (fm_inb_ok g1) dX2_secondHas_9 ?_
  refine fm_if_eq (pc := 10) 17 (by decide) dX2_secondHas_10 (fun c10 => ?_) (fun c10 => ?_)
  · replace h := fm_itp c10 h
    refine fm_bipushv (pc := 17) 20 (by decide) dX2_secondHas_17 ?_
    exact jn_X2_secondHas_19 _ _ _ _  hq _ h
  · replace h := fm_itn c10 h
    refine fm_iconstv (pc := 13) 0 (by decide) dX2_secondHas_13 ?_
    refine fm_goto (pc := 14) 19 (by decide) dX2_secondHas_14 ?_
    exact jn_X2_secondHas_19 _ _ _ _  hq _ h
/-! X2_isRest -/
def G_X2_isRest_21 : Nat → Int32 → Int32 → Int32 → Int32 → Int32 → Int32 → fm_M → Option (((Int32) ⊕ Int32) × fm_M)
  | 0, _, _, _, _, _, _, _ => none
  | n + 1, l1, l2, l3, l4, l5, l6, M =>
    if 5 ≤ l6 then (
      some (.inl l6, M)
    ) else (
      fm_bd (F_X2_firstHas l6 l2 l3 M) (fun v5 M6 =>
      if l4 < v5 then (
        some (.inr 0, M6)
      ) else (
        fm_bd (F_X2_secondHas l1 l6 l3 M6) (fun v7 M8 =>
        if v7 ≤ l5 then (
          G_X2_isRest_21 n l1 l2 l3 l4 l5 (l6 + 1) M8
        ) else (
          some (.inr 0, M8)
        ))
      ))
    )
def F_X2_isRest (a1 : Int32) (a2 : Int32) (a3 : Int32) (M : fm_M) : Option (Int32 × fm_M) :=
    fm_bd (F_X2_firstHas a1 a2 a3 M) (fun v1 M2 =>
    fm_bd (F_X2_secondHas a1 a2 a3 M2) (fun v3 M4 =>
    fm_bs (G_X2_isRest_21 fm_fuel a1 a2 a3 v1 v3 0 M4) (fun w9 M10 =>
      some (1, M10)) (fun r11 M => some (r11, M))))
theorem lp_X2_isRest_21 {d : Nat} {Q : Option Value → fm_M → Prop} {l1 : Int32} {l2 : Int32} {l3 : Int32} {l4 : Int32} {l5 : Int32}   {x : ((Int32) ⊕ Int32) × fm_M} (k1 : ∀ (v : Int32) (M2 : fm_M), x = (.inl v, M2) → fm_mw (d + 2) mX2_isRest Q 61 [some (.ref 70), some (.int l1), some (.int l2), some (.int l3), some (.int l4), some (.int l5), some (.int v)] [] M2) (k2 : ∀ (r : Int32) (M2 : fm_M), x = (.inr r, M2) → Q (some (.int r)) M2) : ∀ (n : Nat) (l6 : Int32) (M : fm_M), G_X2_isRest_21 n l1 l2 l3 l4 l5 l6 M = some x → fm_mw (d + 2) mX2_isRest Q 21 [some (.ref 70), some (.int l1), some (.int l2), some (.int l3), some (.int l4), some (.int l5), some (.int l6)] [] M := by
  intro n
  induction n with
  | zero => intro l6 M h; simp [G_X2_isRest_21] at h
  | succ n ih =>
    intro l6 M h
    rw [G_X2_isRest_21] at h
    refine fl_iload6 (pc := 21) dX2_isRest_21 ?_
    refine fm_iconstv (pc := 23) 5 (by decide) dX2_isRest_23 ?_
    refine fm_icmp_ge (pc := 24) 61 (by decide) dX2_isRest_24 (fun c24 => ?_) (fun c24 => ?_)
    · replace h := fm_itp c24 h
      refine fm_fgt [some (.ref 70), some (.int l1), some (.int l2), some (.int l3), some (.int l4), some (.int l5), some (.int l6)] (by simp [fm_sub]) ?_
      cases h
      exact k1 _ _ rfl
    · replace h := fm_itn c24 h
      refine fl_aload0 (pc := 27) dX2_isRest_27 ?_
      refine fl_iload6 (pc := 28) dX2_isRest_28 ?_
      refine fl_iload2 (pc := 30) dX2_isRest_30 ?_
      refine fl_iload3 (pc := 31) dX2_isRest_31 ?_
      obtain ⟨v5, M6, ev5, h⟩ := fm_bdp h
      refine fm_callV (pc := 32) mX2_firstHas [_, _, _] _ rfl cvX2_firstHas ml_2_45 sh_70 rfl rfl (Nat.le_of_ble_eq_true rfl) (Nat.le_of_ble_eq_true rfl) dX2_isRest_32 ?_
      refine sp_X2_firstHas ev5 ?_
      refine fm_ret1 ?_
      refine fl_iload4 (pc := 35) dX2_isRest_35 ?_
      refine fm_icmp_gt (pc := 37) 53 (by decide) dX2_isRest_37 (fun c37 => ?_) (fun c37 => ?_)
      · replace h := fm_itp c37 h
        refine fm_iconstv (pc := 53) 0 (by decide) dX2_isRest_53 ?_
        refine fm_zret (pc := 54) rfl (by decide) ?_ dX2_isRest_54
        cases h
        exact k2 _ _ rfl
      · replace h := fm_itn c37 h
        refine fl_aload0 (pc := 40) dX2_isRest_40 ?_
        refine fl_iload1 (pc := 41) dX2_isRest_41 ?_
        refine fl_iload6 (pc := 42) dX2_isRest_42 ?_
        refine fl_iload3 (pc := 44) dX2_isRest_44 ?_
        obtain ⟨v7, M8, ev7, h⟩ := fm_bdp h
        refine fm_callV (pc := 45) mX2_secondHas [_, _, _] _ rfl cvX2_secondHas ml_2_49 sh_70 rfl rfl (Nat.le_of_ble_eq_true rfl) (Nat.le_of_ble_eq_true rfl) dX2_isRest_45 ?_
        refine sp_X2_secondHas ev7 ?_
        refine fm_ret1 ?_
        refine fl_iload5 (pc := 48) dX2_isRest_48 ?_
        refine fm_icmp_le (pc := 50) 55 (by decide) dX2_isRest_50 (fun c50 => ?_) (fun c50 => ?_)
        · replace h := fm_itp c50 h
          refine fl_iinc6 (pc := 55) rfl 1 (by decide) (by decide) dX2_isRest_55 ?_
          refine fm_goto (pc := 58) 21 (by decide) dX2_isRest_58 ?_
          refine fm_fgt [some (.ref 70), some (.int l1), some (.int l2), some (.int l3), some (.int l4), some (.int l5), some (.int (l6 + 1))] (by simp [fm_sub]) ?_
          exact ih _ _ h
        · replace h := fm_itn c50 h
          refine fm_iconstv (pc := 53) 0 (by decide) dX2_isRest_53 ?_
          refine fm_zret (pc := 54) rfl (by decide) ?_ dX2_isRest_54
          cases h
          exact k2 _ _ rfl
theorem sp_X2_isRest {d : Nat} {a1 : Int32} {a2 : Int32} {a3 : Int32} {M : fm_M} {x : Int32 × fm_M} {Q : Option Value → fm_M → Prop} (h : F_X2_isRest a1 a2 a3 M = some x) (hq : Q (some (.int x.1)) x.2) : fm_ct (d + 2) mX2_isRest [.ref 70, .int a1, .int a2, .int a3] M Q := by
  rw [F_X2_isRest] at h
  show fm_mw (d + 2) mX2_isRest Q 0 [some (.ref 70), some (.int a1), some (.int a2), some (.int a3), none, none, none] [] M
  refine fl_aload0 (pc := 0) dX2_isRest_0 ?_
  refine fl_iload1 (pc := 1) dX2_isRest_1 ?_
  refine fl_iload2 (pc := 2) dX2_isRest_2 ?_
  refine fl_iload3 (pc := 3) dX2_isRest_3 ?_
  obtain ⟨v1, M2, ev1, h⟩ := fm_bdp h
  refine fm_callV (pc := 4) mX2_firstHas [_, _, _] _ rfl cvX2_firstHas ml_2_45 sh_70 rfl rfl (Nat.le_of_ble_eq_true rfl) (Nat.le_of_ble_eq_true rfl) dX2_isRest_4 ?_
  refine sp_X2_firstHas ev1 ?_
  refine fm_ret1 ?_
  refine fl_istore4 (pc := 7) rfl (by decide) dX2_isRest_7 ?_
  refine fl_aload0 (pc := 9) dX2_isRest_9 ?_
  refine fl_iload1 (pc := 10) dX2_isRest_10 ?_
  refine fl_iload2 (pc := 11) dX2_isRest_11 ?_
  refine fl_iload3 (pc := 12) dX2_isRest_12 ?_
  obtain ⟨v3, M4, ev3, h⟩ := fm_bdp h
  refine fm_callV (pc := 13) mX2_secondHas [_, _, _] _ rfl cvX2_secondHas ml_2_49 sh_70 rfl rfl (Nat.le_of_ble_eq_true rfl) (Nat.le_of_ble_eq_true rfl) dX2_isRest_13 ?_
  refine sp_X2_secondHas ev3 ?_
  refine fm_ret1 ?_
  refine fl_istore5 (pc := 16) rfl (by decide) dX2_isRest_16 ?_
  refine fm_iconstv (pc := 18) 0 (by decide) dX2_isRest_18 ?_
  refine fl_istore6 (pc := 19) rfl (by decide) dX2_isRest_19 ?_
  obtain ⟨w9, M10, ew9, hl9, hr9⟩ := fm_bsp h
  refine lp_X2_isRest_21  ?_ ?_ _ _ _ ew9
  · intro w9 M9 q9
    cases q9
    replace h := hl9 _ rfl
    refine fm_iconstv (pc := 61) 1 (by decide) dX2_isRest_61 ?_
    refine fm_zret (pc := 62) rfl (by decide) ?_ dX2_isRest_62
    cases h
    exact hq
  · intro r9 M9 q9
    cases q9
    replace h := hr9 _ rfl
    cases h
    exact hq
/-! X7_humOfAll -/
def G_X7_humOfAll_5 : Nat → Nat → Nat → Int32 → Int32 → Int32 → fm_M → Option ((Int32 × Int32) × fm_M)
  | 0, _, _, _, _, _, _ => none
  | n + 1, a0, a1, l2, l3, l4, M =>
    if (M.1 a1 0) ≤ l4 then (
      some ((l3, l4), M)
    ) else (
      fm_bd (F_X7_humOf a0 a1 l4 l2 M) (fun v1 M2 =>
      fm_lt ((l3 + v1)) (fun x3 =>
      G_X7_humOfAll_5 n a0 a1 l2 x3 (l4 + 1) M2))
    )
def F_X7_humOfAll (a0 : Nat) (a1 : Nat) (a2 : Int32) (M : fm_M) : Option (Int32 × fm_M) :=
    fm_gd (fm_isSt a0) (
    fm_gd (fm_isTd a1) (
    fm_bd (G_X7_humOfAll_5 fm_fuel a0 a1 a2 0 0 M) (fun w4 M5 =>
      some (w4.1, M5))))
theorem lp_X7_humOfAll_5 {d : Nat} {Q : Option Value → fm_M → Prop} {l2 : Int32} {a0 : Nat} {a1 : Nat} (ga0 : fm_isSt a0 = true) (ga1 : fm_isTd a1 = true) {x : (Int32 × Int32) × fm_M} (k1 : ∀ (v : Int32 × Int32) (M2 : fm_M), x = (v, M2) → fm_mw (d + 4) mX7_humOfAll Q 31 [some (.ref a0), some (.ref a1), some (.int l2), some (.int v.1), some (.int v.2)] [] M2) : ∀ (n : Nat) (l3 : Int32) (l4 : Int32) (M : fm_M), G_X7_humOfAll_5 n a0 a1 l2 l3 l4 M = some x → fm_mw (d + 4) mX7_humOfAll Q 5 [some (.ref a0), some (.ref a1), some (.int l2), some (.int l3), some (.int l4)] [] M := by
  intro n
  induction n with
  | zero => intro l3 l4 M h; simp [G_X7_humOfAll_5] at h
  | succ n ih =>
    intro l3 l4 M h
    rw [G_X7_humOfAll_5] at h
    refine fl_iload4 (pc := 5) dX7_humOfAll_5 ?_
    refine fl_aload1 (pc := 7) dX7_humOfAll_7 ?_
    refine fm_geti (pc := 8) lk_7_138 (shTd0 ga1) rfl dX7_humOfAll_8 ?_
    refine fm_icmp_ge (pc := 11) 31 (by decide) dX7_humOfAll_11 (fun c11 => ?_) (fun c11 => ?_)
    · replace h := fm_itp c11 h
      refine fm_fgt [some (.ref a0), some (.ref a1), some (.int l2), some (.int l3), some (.int l4)] (by simp [fm_sub]) ?_
      cases h
      exact k1 _ _ rfl
    · replace h := fm_itn c11 h
      refine fl_iload3 (pc := 14) dX7_humOfAll_14 ?_
      refine fl_aload0 (pc := 15) dX7_humOfAll_15 ?_
      refine fl_aload1 (pc := 16) dX7_humOfAll_16 ?_
      refine fl_iload4 (pc := 17) dX7_humOfAll_17 ?_
      refine fl_iload2 (pc := 19) dX7_humOfAll_19 ?_
      obtain ⟨v1, M2, ev1, h⟩ := fm_bdp h
      refine fm_callV (pc := 20) mX7_humOf [_, _, _] _ rfl cvX7_humOf ml_7_141 (shSt0 ga0) rfl rfl (Nat.le_of_ble_eq_true rfl) (Nat.le_of_ble_eq_true rfl) dX7_humOfAll_20 ?_
      refine sp_X7_humOf ev1 ?_
      refine fm_ret1 ?_
      refine fm_iadd (pc := 23) dX7_humOfAll_23 ?_
      obtain ⟨x3, ex3, h⟩ := fm_ltp h
      refine fm_cgi ex3 ?_
      refine fl_istore3 (pc := 24) rfl (by decide) dX7_humOfAll_24 ?_
      refine fl_iinc4 (pc := 25) rfl 1 (by decide) (by decide) dX7_humOfAll_25 ?_
      refine fm_goto (pc := 28) 5 (by decide) dX7_humOfAll_28 ?_
      refine fm_fgt [some (.ref a0), some (.ref a1), some (.int l2), some (.int x3), some (.int (l4 + 1))] (by simp [fm_sub]) ?_
      exact ih _ _ _ h
theorem sp_X7_humOfAll {d : Nat} {a0 : Nat} {a1 : Nat} {a2 : Int32} {M : fm_M} {x : Int32 × fm_M} {Q : Option Value → fm_M → Prop} (h : F_X7_humOfAll a0 a1 a2 M = some x) (hq : Q (some (.int x.1)) x.2) : fm_ct (d + 4) mX7_humOfAll [.ref a0, .ref a1, .int a2] M Q := by
  rw [F_X7_humOfAll] at h
  show fm_mw (d + 4) mX7_humOfAll Q 0 [some (.ref a0), some (.ref a1), some (.int a2), none, none] [] M
  obtain ⟨ga0, h⟩ := fm_gdp h
  obtain ⟨ga1, h⟩ := fm_gdp h
  refine fm_iconstv (pc := 0) 0 (by decide) dX7_humOfAll_0 ?_
  refine fl_istore3 (pc := 1) rfl (by decide) dX7_humOfAll_1 ?_
  refine fm_iconstv (pc := 2) 0 (by decide) dX7_humOfAll_2 ?_
  refine fl_istore4 (pc := 3) rfl (by decide) dX7_humOfAll_3 ?_
  obtain ⟨w4, M5, ew4, h⟩ := fm_bdp h
  refine lp_X7_humOfAll_5 ga0 ga1 ?_ _ _ _ _ ew4
  intro w49 M59 q9
  cases q9
  refine fl_iload3 (pc := 31) dX7_humOfAll_31 ?_
  refine fm_iret (pc := 32) rfl ?_ dX7_humOfAll_32
  cases h
  exact hq
/-! X7_carries -/
def F_X7_carries (a0 : Nat) (a1 : Nat) (a2 : Int32) (M : fm_M) : Option (Int32 × fm_M) :=
    fm_gd (fm_isSt a0) (
    fm_gd (fm_isTd a1) (
    fm_bd (F_X7_humOfAll a0 a1 a2 M) (fun v1 M2 =>
    fm_bd (F_X7_passes a0 a1 a2 v1 M2) (fun v3 M4 =>
    fm_gd (fm_z01 v3) (
    some (v3, M4))))))
theorem sp_X7_carries {d : Nat} {a0 : Nat} {a1 : Nat} {a2 : Int32} {M : fm_M} {x : Int32 × fm_M} {Q : Option Value → fm_M → Prop} (h : F_X7_carries a0 a1 a2 M = some x) (hq : Q (some (.int x.1)) x.2) : fm_ct (d + 5) mX7_carries [.ref a0, .ref a1, .int a2] M Q := by
  rw [F_X7_carries] at h
  show fm_mw (d + 5) mX7_carries Q 0 [some (.ref a0), some (.ref a1), some (.int a2)] [] M
  obtain ⟨ga0, h⟩ := fm_gdp h
  obtain ⟨ga1, h⟩ := fm_gdp h
  refine fl_aload0 (pc := 0) dX7_carries_0 ?_
  refine fl_aload1 (pc := 1) dX7_carries_1 ?_
  refine fl_iload2 (pc := 2) dX7_carries_2 ?_
  refine fl_aload0 (pc := 3) dX7_carries_3 ?_
  refine fl_aload1 (pc := 4) dX7_carries_4 ?_
  refine fl_iload2 (pc := 5) dX7_carries_5 ?_
  obtain ⟨v1, M2, ev1, h⟩ := fm_bdp h
  refine fm_callV (pc := 6) mX7_humOfAll [_, _] _ rfl cvX7_humOfAll ml_7_151 (shSt0 ga0) rfl rfl (Nat.le_of_ble_eq_true rfl) (Nat.le_of_ble_eq_true rfl) dX7_carries_6 ?_
  refine sp_X7_humOfAll ev1 ?_
  refine fm_ret1 ?_
  obtain ⟨v3, M4, ev3, h⟩ := fm_bdp h
  refine fm_callV (pc := 9) mX7_passes [_, _, _] _ rfl cvX7_passes ml_7_155 (shSt0 ga0) rfl rfl (Nat.le_of_ble_eq_true rfl) (Nat.le_of_ble_eq_true rfl) dX7_carries_9 ?_
  refine sp_X7_passes ev3 ?_
  refine fm_ret1 ?_
  obtain ⟨g5, h⟩ := fm_gdp h
  refine fm_zret (pc := 12) rfl (fm_z01_ok g5) ?_ dX7_carries_12
  cases h
  exact hq
/-! X2_settle -/
def G_X2_settle_51 : Nat → Nat → Nat → Int32 → Int32 → Int32 → Int32 → Int32 → Int32 → Int32 → fm_M → Option ((Int32) × fm_M)
  | 0, _, _, _, _, _, _, _, _, _, _ => none
  | n + 1, a1, a2, l3, l4, l5, l6, l7, l8, l9, M =>
    if 5 ≤ l9 then (
      some (l9, M)
    ) else (
      fm_bd (F_X9_within (Int32.toInt64 ((l7 + l9) - 2)) 100 999 M) (fun v9 M10 =>
      fm_gd (fm_inb l4 8) (
      fm_lt (fm_up M10 (a2 + 1) (Int32.toNatClampNeg l4) v9) (fun M12 =>
      fm_bd (F_X7_carries a2 a1 l5 M12) (fun v13 M14 =>
      fm_gd (fm_inb ((l8 * 5) + l9) 25) (
      fm_lt (fm_up M14 71 (Int32.toNatClampNeg ((l8 * 5) + l9)) (vp_nar .boolean v13)) (fun M16 =>
      G_X2_settle_51 n a1 a2 l3 l4 l5 l6 l7 l8 (l9 + 1) M16))))))
    )
def G_X2_settle_20 : Nat → Nat → Nat → Int32 → Int32 → Int32 → Int32 → Int32 → Int32 → fm_M → Option ((Int32) × fm_M)
  | 0, _, _, _, _, _, _, _, _, _ => none
  | n + 1, a1, a2, l3, l4, l5, l6, l7, l8, M =>
    if 5 ≤ l8 then (
      some (l8, M)
    ) else (
      fm_bd (F_X9_within (Int32.toInt64 ((l6 + l8) - 2)) 100 999 M) (fun v5 M6 =>
      fm_gd (fm_inb l3 8) (
      fm_lt (fm_up M6 (a2 + 1) (Int32.toNatClampNeg l3) v5) (fun M8 =>
      fm_bd (G_X2_settle_51 fm_fuel a1 a2 l3 l4 l5 l6 l7 l8 0 M8) (fun w17 M18 =>
        G_X2_settle_20 n a1 a2 l3 l4 l5 l6 l7 (l8 + 1) M18))))
    )
def G_X2_settle_128 : Nat → Nat → Nat → Int32 → Int32 → Int32 → Int32 → Int32 → Int32 → Int32 → fm_M → Option ((Int32) × fm_M)
  | 0, _, _, _, _, _, _, _, _, _, _ => none
  | n + 1, a1, a2, l3, l4, l5, l6, l7, l8, l9, M =>
    if 5 ≤ l9 then (
      some (l9, M)
    ) else (
      fm_bd (F_X2_isRest l8 l9 (M.1 a1 15) M) (fun v22 M23 =>
      if v22 = 0 then (
        G_X2_settle_128 n a1 a2 l3 l4 l5 l6 l7 l8 (l9 + 1) M23
      ) else (
        fm_gd (fm_inb (M23.1 70 2) 25) (
        fm_lt (fm_up M23 72 (Int32.toNatClampNeg (M23.1 70 2)) ((10 * l8) + l9)) (fun M25 =>
        fm_lt (fm_up M25 70 2 ((M25.1 70 2) + 1)) (fun M26 =>
        G_X2_settle_128 n a1 a2 l3 l4 l5 l6 l7 l8 (l9 + 1) M26)))
      ))
    )
def G_X2_settle_119 : Nat → Nat → Nat → Int32 → Int32 → Int32 → Int32 → Int32 → Int32 → fm_M → Option ((Int32) × fm_M)
  | 0, _, _, _, _, _, _, _, _, _ => none
  | n + 1, a1, a2, l3, l4, l5, l6, l7, l8, M =>
    if 5 ≤ l8 then (
      some (l8, M)
    ) else (
      fm_bd (G_X2_settle_128 fm_fuel a1 a2 l3 l4 l5 l6 l7 l8 0 M) (fun w27 M28 =>
        G_X2_settle_119 n a1 a2 l3 l4 l5 l6 l7 (l8 + 1) M28)
    )
def F_X2_settle (a1 : Nat) (a2 : Nat) (a3 : Int32) (a4 : Int32) (a5 : Int32) (M : fm_M) : Option (Unit × fm_M) :=
    fm_gd (fm_isTd a1) (
    fm_gd (fm_isSt a2) (
    fm_gd (fm_inb a3 8) (
    fm_lt ((M.1 (a2 + 1) (Int32.toNatClampNeg a3))) (fun x2 =>
    fm_gd (fm_inb a4 8) (
    fm_lt ((M.1 (a2 + 1) (Int32.toNatClampNeg a4))) (fun x4 =>
    fm_bd (G_X2_settle_20 fm_fuel a1 a2 a3 a4 a5 x2 x4 0 M) (fun w19 M20 =>
      fm_lt (fm_up M20 70 2 0) (fun M21 =>
      fm_bd (G_X2_settle_119 fm_fuel a1 a2 a3 a4 a5 x2 x4 0 M21) (fun w29 M30 =>
        some ((), M30))))))))))
theorem lp_X2_settle_51 {d : Nat} {Q : Option Value → fm_M → Prop} {l3 : Int32} {l4 : Int32} {l5 : Int32} {l6 : Int32} {l7 : Int32} {l8 : Int32} {a1 : Nat} {a2 : Nat} (ga1 : fm_isTd a1 = true) (ga2 : fm_isSt a2 = true) {x : (Int32) × fm_M} (k1 : ∀ (v : Int32) (M2 : fm_M), x = (v, M2) → fm_mw (d + 6) mX2_settle Q 105 [some (.ref 70), some (.ref a1), some (.ref a2), some (.int l3), some (.int l4), some (.int l5), some (.int l6), some (.int l7), some (.int l8), some (.int v)] [] M2) : ∀ (n : Nat) (l9 : Int32) (M : fm_M), G_X2_settle_51 n a1 a2 l3 l4 l5 l6 l7 l8 l9 M = some x → fm_mw (d + 6) mX2_settle Q 51 [some (.ref 70), some (.ref a1), some (.ref a2), some (.int l3), some (.int l4), some (.int l5), some (.int l6), some (.int l7), some (.int l8), some (.int l9)] [] M := by
  intro n
  induction n with
  | zero => intro l9 M h; simp [G_X2_settle_51] at h
  | succ n ih =>
    intro l9 M h
    rw [G_X2_settle_51] at h
    refine fl_iload9 (pc := 51) dX2_settle_51 ?_
    refine fm_iconstv (pc := 53) 5 (by decide) dX2_settle_53 ?_
    refine fm_icmp_ge (pc := 54) 105 (by decide) dX2_settle_54 (fun c54 => ?_) (fun c54 => ?_)
    · replace h := fm_itp c54 h
      refine fm_fgt [some (.ref 70), some (.ref a1), some (.ref a2), some (.int l3), some (.int l4), some (.int l5), some (.int l6), some (.int l7), some (.int l8), some (.int l9)] (by simp [fm_sub]) ?_
      cases h
      exact k1 _ _ rfl
    · replace h := fm_itn c54 h
      refine fl_aload2 (pc := 57) dX2_settle_57 ?_
      refine fm_getr (pc := 58) lk_2_19 (shSt0 ga2) rfl dX2_settle_58 ?_
      refine fl_iload4 (pc := 61) dX2_settle_61 ?_
      refine fl_iload7 (pc := 63) dX2_settle_63 ?_
      refine fl_iload9 (pc := 65) dX2_settle_65 ?_
      refine fm_iadd (pc := 67) dX2_settle_67 ?_
      refine fm_iconstv (pc := 68) 2 (by decide) dX2_settle_68 ?_
      refine fm_isub (pc := 69) dX2_settle_69 ?_
      refine fm_i2l (pc := 70) dX2_settle_70 ?_
      refine fm_bipushv (pc := 71) 100 (by decide) dX2_settle_71 ?_
      refine fm_sipushv (pc := 73) 999 (by decide) dX2_settle_73 ?_
      obtain ⟨v9, M10, ev9, h⟩ := fm_bdp h
      refine fm_callS (pc := 76) mX9_within [_, _, _] _ rfl csX9_within ml_2_24 rfl (Nat.le_of_ble_eq_true rfl) (Nat.le_of_ble_eq_true rfl) dX2_settle_76 ?_
      refine sp_X9_within ev9 ?_
      refine fm_ret1 ?_
      obtain ⟨g11, h⟩ := fm_gdp h
      refine fm_iast (pc := 79) (shSt1 ga2) (fm_inb_ok g11) dX2_settle_79 ?_
      obtain ⟨M12, eM12, h⟩ := fm_ltp h
      refine fm_cgm eM12 ?_
      refine fl_aload0 (pc := 80) dX2_settle_80 ?_
      refine fm_getr (pc := 81) lk_2_11 sh_70 rfl dX2_settle_81 ?_
      refine fl_iload8 (pc := 84) dX2_settle_84 ?_
      refine fm_iconstv (pc := 86) 5 (by decide) dX2_settle_86 ?_
      refine fm_imul (pc := 87) dX2_settle_87 ?_
      refine fl_iload9 (pc := 88) dX2_settle_88 ?_
      refine fm_iadd (pc := 90) dX2_settle_90 ?_
      refine fl_aload2 (pc := 91) dX2_settle_91 ?_
      refine fl_aload1 (pc := 92) dX2_settle_92 ?_
      refine fl_iload5 (pc := 93) dX2_settle_93 ?_
      obtain ⟨v13, M14, ev13, h⟩ := fm_bdp h
      refine fm_callV (pc := 95) mX7_carries [_, _] _ rfl cvX7_carries ml_2_28 (shSt0 ga2) rfl rfl (Nat.le_of_ble_eq_true rfl) (Nat.le_of_ble_eq_true rfl) dX2_settle_95 ?_
      refine sp_X7_carries ev13 ?_
      refine fm_ret1 ?_
      obtain ⟨g15, h⟩ := fm_gdp h
      refine fm_zast (pc := 98) sh_71 (fm_inb_ok g15) dX2_settle_98 ?_
      obtain ⟨M16, eM16, h⟩ := fm_ltp h
      refine fm_cgm eM16 ?_
      refine fl_iinc9 (pc := 99) rfl 1 (by decide) (by decide) dX2_settle_99 ?_
      refine fm_goto (pc := 102) 51 (by decide) dX2_settle_102 ?_
      refine fm_fgt [some (.ref 70), some (.ref a1), some (.ref a2), some (.int l3), some (.int l4), some (.int l5), some (.int l6), some (.int l7), some (.int l8), some (.int (l9 + 1))] (by simp [fm_sub]) ?_
      exact ih _ _ h
theorem lp_X2_settle_20 {d : Nat} {Q : Option Value → fm_M → Prop} {l3 : Int32} {l4 : Int32} {l5 : Int32} {l6 : Int32} {l7 : Int32} {a1 : Nat} {a2 : Nat} (ga1 : fm_isTd a1 = true) (ga2 : fm_isSt a2 = true) {x : (Int32) × fm_M} (k1 : ∀ (v : Int32) (M2 : fm_M), x = (v, M2) → fm_mw (d + 6) mX2_settle Q 111 [some (.ref 70), some (.ref a1), some (.ref a2), some (.int l3), some (.int l4), some (.int l5), some (.int l6), some (.int l7), some (.int v), none] [] M2) : ∀ (n : Nat) (l8 : Int32) (M : fm_M), G_X2_settle_20 n a1 a2 l3 l4 l5 l6 l7 l8 M = some x → fm_mw (d + 6) mX2_settle Q 20 [some (.ref 70), some (.ref a1), some (.ref a2), some (.int l3), some (.int l4), some (.int l5), some (.int l6), some (.int l7), some (.int l8), none] [] M := by
  intro n
  induction n with
  | zero => intro l8 M h; simp [G_X2_settle_20] at h
  | succ n ih =>
    intro l8 M h
    rw [G_X2_settle_20] at h
    refine fl_iload8 (pc := 20) dX2_settle_20 ?_
    refine fm_iconstv (pc := 22) 5 (by decide) dX2_settle_22 ?_
    refine fm_icmp_ge (pc := 23) 111 (by decide) dX2_settle_23 (fun c23 => ?_) (fun c23 => ?_)
    · replace h := fm_itp c23 h
      refine fm_fgt [some (.ref 70), some (.ref a1), some (.ref a2), some (.int l3), some (.int l4), some (.int l5), some (.int l6), some (.int l7), some (.int l8), none] (by simp [fm_sub]) ?_
      cases h
      exact k1 _ _ rfl
    · replace h := fm_itn c23 h
      refine fl_aload2 (pc := 26) dX2_settle_26 ?_
      refine fm_getr (pc := 27) lk_2_19 (shSt0 ga2) rfl dX2_settle_27 ?_
      refine fl_iload3 (pc := 30) dX2_settle_30 ?_
      refine fl_iload6 (pc := 31) dX2_settle_31 ?_
      refine fl_iload8 (pc := 33) dX2_settle_33 ?_
      refine fm_iadd (pc := 35) dX2_settle_35 ?_
      refine fm_iconstv (pc := 36) 2 (by decide) dX2_settle_36 ?_
      refine fm_isub (pc := 37) dX2_settle_37 ?_
      refine fm_i2l (pc := 38) dX2_settle_38 ?_
      refine fm_bipushv (pc := 39) 100 (by decide) dX2_settle_39 ?_
      refine fm_sipushv (pc := 41) 999 (by decide) dX2_settle_41 ?_
      obtain ⟨v5, M6, ev5, h⟩ := fm_bdp h
      refine fm_callS (pc := 44) mX9_within [_, _, _] _ rfl csX9_within ml_2_24 rfl (Nat.le_of_ble_eq_true rfl) (Nat.le_of_ble_eq_true rfl) dX2_settle_44 ?_
      refine sp_X9_within ev5 ?_
      refine fm_ret1 ?_
      obtain ⟨g7, h⟩ := fm_gdp h
      refine fm_iast (pc := 47) (shSt1 ga2) (fm_inb_ok g7) dX2_settle_47 ?_
      obtain ⟨M8, eM8, h⟩ := fm_ltp h
      refine fm_cgm eM8 ?_
      refine fm_iconstv (pc := 48) 0 (by decide) dX2_settle_48 ?_
      refine fl_istore9 (pc := 49) rfl (by decide) dX2_settle_49 ?_
      obtain ⟨w17, M18, ew17, h⟩ := fm_bdp h
      refine lp_X2_settle_51 ga1 ga2 ?_ _ _ _ ew17
      intro w179 M189 q9
      cases q9
      refine fl_iinc8 (pc := 105) rfl 1 (by decide) (by decide) dX2_settle_105 ?_
      refine fm_goto (pc := 108) 20 (by decide) dX2_settle_108 ?_
      refine fm_fgt [some (.ref 70), some (.ref a1), some (.ref a2), some (.int l3), some (.int l4), some (.int l5), some (.int l6), some (.int l7), some (.int (l8 + 1)), none] (by simp [fm_sub]) ?_
      exact ih _ _ h
theorem lp_X2_settle_128 {d : Nat} {Q : Option Value → fm_M → Prop} {l3 : Int32} {l4 : Int32} {l5 : Int32} {l6 : Int32} {l7 : Int32} {l8 : Int32} {a1 : Nat} {a2 : Nat} (ga1 : fm_isTd a1 = true) (ga2 : fm_isSt a2 = true) {x : (Int32) × fm_M} (k1 : ∀ (v : Int32) (M2 : fm_M), x = (v, M2) → fm_mw (d + 6) mX2_settle Q 182 [some (.ref 70), some (.ref a1), some (.ref a2), some (.int l3), some (.int l4), some (.int l5), some (.int l6), some (.int l7), some (.int l8), some (.int v)] [] M2) : ∀ (n : Nat) (l9 : Int32) (M : fm_M), G_X2_settle_128 n a1 a2 l3 l4 l5 l6 l7 l8 l9 M = some x → fm_mw (d + 6) mX2_settle Q 128 [some (.ref 70), some (.ref a1), some (.ref a2), some (.int l3), some (.int l4), some (.int l5), some (.int l6), some (.int l7), some (.int l8), some (.int l9)] [] M := by
  intro n
  induction n with
  | zero => intro l9 M h; simp [G_X2_settle_128] at h
  | succ n ih =>
    intro l9 M h
    rw [G_X2_settle_128] at h
    refine fl_iload9 (pc := 128) dX2_settle_128 ?_
    refine fm_iconstv (pc := 130) 5 (by decide) dX2_settle_130 ?_
    refine fm_icmp_ge (pc := 131) 182 (by decide) dX2_settle_131 (fun c131 => ?_) (fun c131 => ?_)
    · replace h := fm_itp c131 h
      refine fm_fgt [some (.ref 70), some (.ref a1), some (.ref a2), some (.int l3), some (.int l4), some (.int l5), some (.int l6), some (.int l7), some (.int l8), some (.int l9)] (by simp [fm_sub]) ?_
      cases h
      exact k1 _ _ rfl
    · replace h := fm_itn c131 h
      refine fl_aload0 (pc := 134) dX2_settle_134 ?_
      refine fl_iload8 (pc := 135) dX2_settle_135 ?_
      refine fl_iload9 (pc := 137) dX2_settle_137 ?_
      refine fl_aload1 (pc := 139) dX2_settle_139 ?_
      refine fm_geti (pc := 140) lk_2_36 (shTd0 ga1) rfl dX2_settle_140 ?_
      obtain ⟨v22, M23, ev22, h⟩ := fm_bdp h
      refine fm_callV (pc := 143) mX2_isRest [_, _, _] _ rfl cvX2_isRest ml_2_41 sh_70 rfl rfl (Nat.le_of_ble_eq_true rfl) (Nat.le_of_ble_eq_true rfl) dX2_settle_143 ?_
      refine sp_X2_isRest ev22 ?_
      refine fm_ret1 ?_
      refine fm_if_eq (pc := 146) 176 (by decide) dX2_settle_146 (fun c146 => ?_) (fun c146 => ?_)
      · replace h := fm_itp c146 h
        refine fl_iinc9 (pc := 176) rfl 1 (by decide) (by decide) dX2_settle_176 ?_
        refine fm_goto (pc := 179) 128 (by decide) dX2_settle_179 ?_
        refine fm_fgt [some (.ref 70), some (.ref a1), some (.ref a2), some (.int l3), some (.int l4), some (.int l5), some (.int l6), some (.int l7), some (.int l8), some (.int (l9 + 1))] (by simp [fm_sub]) ?_
        exact ih _ _ h
      · replace h := fm_itn c146 h
        refine fl_aload0 (pc := 149) dX2_settle_149 ?_
        refine fm_getr (pc := 150) lk_2_15 sh_70 rfl dX2_settle_150 ?_
        refine fl_aload0 (pc := 153) dX2_settle_153 ?_
        refine fm_geti (pc := 154) lk_2_32 sh_70 rfl dX2_settle_154 ?_
        refine fm_bipushv (pc := 157) 10 (by decide) dX2_settle_157 ?_
        refine fl_iload8 (pc := 159) dX2_settle_159 ?_
        refine fm_imul (pc := 161) dX2_settle_161 ?_
        refine fl_iload9 (pc := 162) dX2_settle_162 ?_
        refine fm_iadd (pc := 164) dX2_settle_164 ?_
        obtain ⟨g24, h⟩ := fm_gdp h
        refine fm_iast (pc := 165) sh_72 (fm_inb_ok g24) dX2_settle_165 ?_
        obtain ⟨M25, eM25, h⟩ := fm_ltp h
        refine fm_cgm eM25 ?_
        refine fl_aload0 (pc := 166) dX2_settle_166 ?_
        refine fm_dup (pc := 167) rfl dX2_settle_167 ?_
        refine fm_geti (pc := 168) lk_2_32 sh_70 rfl dX2_settle_168 ?_
        refine fm_iconstv (pc := 171) 1 (by decide) dX2_settle_171 ?_
        refine fm_iadd (pc := 172) dX2_settle_172 ?_
        refine fm_puti (pc := 173) lp_2_32 sh_70 rfl dX2_settle_173 ?_
        obtain ⟨M26, eM26, h⟩ := fm_ltp h
        refine fm_cgm eM26 ?_
        refine fl_iinc9 (pc := 176) rfl 1 (by decide) (by decide) dX2_settle_176 ?_
        refine fm_goto (pc := 179) 128 (by decide) dX2_settle_179 ?_
        refine fm_fgt [some (.ref 70), some (.ref a1), some (.ref a2), some (.int l3), some (.int l4), some (.int l5), some (.int l6), some (.int l7), some (.int l8), some (.int (l9 + 1))] (by simp [fm_sub]) ?_
        exact ih _ _ h
theorem lp_X2_settle_119 {d : Nat} {Q : Option Value → fm_M → Prop} {l3 : Int32} {l4 : Int32} {l5 : Int32} {l6 : Int32} {l7 : Int32} {a1 : Nat} {a2 : Nat} (ga1 : fm_isTd a1 = true) (ga2 : fm_isSt a2 = true) {x : (Int32) × fm_M} (k1 : ∀ (v : Int32) (M2 : fm_M), x = (v, M2) → fm_mw (d + 6) mX2_settle Q 188 [some (.ref 70), some (.ref a1), some (.ref a2), some (.int l3), some (.int l4), some (.int l5), some (.int l6), some (.int l7), some (.int v), none] [] M2) : ∀ (n : Nat) (l8 : Int32) (M : fm_M), G_X2_settle_119 n a1 a2 l3 l4 l5 l6 l7 l8 M = some x → fm_mw (d + 6) mX2_settle Q 119 [some (.ref 70), some (.ref a1), some (.ref a2), some (.int l3), some (.int l4), some (.int l5), some (.int l6), some (.int l7), some (.int l8), none] [] M := by
  intro n
  induction n with
  | zero => intro l8 M h; simp [G_X2_settle_119] at h
  | succ n ih =>
    intro l8 M h
    rw [G_X2_settle_119] at h
    refine fl_iload8 (pc := 119) dX2_settle_119 ?_
    refine fm_iconstv (pc := 121) 5 (by decide) dX2_settle_121 ?_
    refine fm_icmp_ge (pc := 122) 188 (by decide) dX2_settle_122 (fun c122 => ?_) (fun c122 => ?_)
    · replace h := fm_itp c122 h
      refine fm_fgt [some (.ref 70), some (.ref a1), some (.ref a2), some (.int l3), some (.int l4), some (.int l5), some (.int l6), some (.int l7), some (.int l8), none] (by simp [fm_sub]) ?_
      cases h
      exact k1 _ _ rfl
    · replace h := fm_itn c122 h
      refine fm_iconstv (pc := 125) 0 (by decide) dX2_settle_125 ?_
      refine fl_istore9 (pc := 126) rfl (by decide) dX2_settle_126 ?_
      obtain ⟨w27, M28, ew27, h⟩ := fm_bdp h
      refine lp_X2_settle_128 ga1 ga2 ?_ _ _ _ ew27
      intro w279 M289 q9
      cases q9
      refine fl_iinc8 (pc := 182) rfl 1 (by decide) (by decide) dX2_settle_182 ?_
      refine fm_goto (pc := 185) 119 (by decide) dX2_settle_185 ?_
      refine fm_fgt [some (.ref 70), some (.ref a1), some (.ref a2), some (.int l3), some (.int l4), some (.int l5), some (.int l6), some (.int l7), some (.int (l8 + 1)), none] (by simp [fm_sub]) ?_
      exact ih _ _ h
theorem sp_X2_settle {d : Nat} {a1 : Nat} {a2 : Nat} {a3 : Int32} {a4 : Int32} {a5 : Int32} {M : fm_M} {x : Unit × fm_M} {Q : Option Value → fm_M → Prop} (h : F_X2_settle a1 a2 a3 a4 a5 M = some x) (hq : Q none x.2) : fm_ct (d + 6) mX2_settle [.ref 70, .ref a1, .ref a2, .int a3, .int a4, .int a5] M Q := by
  rw [F_X2_settle] at h
  show fm_mw (d + 6) mX2_settle Q 0 [some (.ref 70), some (.ref a1), some (.ref a2), some (.int a3), some (.int a4), some (.int a5), none, none, none, none] [] M
  obtain ⟨ga1, h⟩ := fm_gdp h
  obtain ⟨ga2, h⟩ := fm_gdp h
  refine fl_aload2 (pc := 0) dX2_settle_0 ?_
  refine fm_getr (pc := 1) lk_2_19 (shSt0 ga2) rfl dX2_settle_1 ?_
  refine fl_iload3 (pc := 4) dX2_settle_4 ?_
  obtain ⟨g1, h⟩ := fm_gdp h
  refine fm_iald (pc := 5) (shSt1 ga2) (fm_inb_ok g1) dX2_settle_5 ?_
  obtain ⟨x2, ex2, h⟩ := fm_ltp h
  refine fm_cgi ex2 ?_
  refine fl_istore6 (pc := 6) rfl (by decide) dX2_settle_6 ?_
  refine fl_aload2 (pc := 8) dX2_settle_8 ?_
  refine fm_getr (pc := 9) lk_2_19 (shSt0 ga2) rfl dX2_settle_9 ?_
  refine fl_iload4 (pc := 12) dX2_settle_12 ?_
  obtain ⟨g3, h⟩ := fm_gdp h
  refine fm_iald (pc := 14) (shSt1 ga2) (fm_inb_ok g3) dX2_settle_14 ?_
  obtain ⟨x4, ex4, h⟩ := fm_ltp h
  refine fm_cgi ex4 ?_
  refine fl_istore7 (pc := 15) rfl (by decide) dX2_settle_15 ?_
  refine fm_iconstv (pc := 17) 0 (by decide) dX2_settle_17 ?_
  refine fl_istore8 (pc := 18) rfl (by decide) dX2_settle_18 ?_
  obtain ⟨w19, M20, ew19, h⟩ := fm_bdp h
  refine lp_X2_settle_20 ga1 ga2 ?_ _ _ _ ew19
  intro w199 M209 q9
  cases q9
  refine fl_aload0 (pc := 111) dX2_settle_111 ?_
  refine fm_iconstv (pc := 112) 0 (by decide) dX2_settle_112 ?_
  refine fm_puti (pc := 113) lp_2_32 sh_70 rfl dX2_settle_113 ?_
  obtain ⟨M21, eM21, h⟩ := fm_ltp h
  refine fm_cgm eM21 ?_
  refine fm_iconstv (pc := 116) 0 (by decide) dX2_settle_116 ?_
  refine fl_istore8 (pc := 117) rfl (by decide) dX2_settle_117 ?_
  obtain ⟨w29, M30, ew29, h⟩ := fm_bdp h
  refine lp_X2_settle_119 ga1 ga2 ?_ _ _ _ ew29
  intro w299 M309 q9
  cases q9
  refine fm_vret (pc := 188) rfl ?_ dX2_settle_188
  cases h
  exact hq
/-! X3_clear -/
def F_X3_clear (a0 : Nat) (M : fm_M) : Option (Unit × fm_M) :=
    fm_gd (fm_isLw a0) (
    fm_bd (F_J7_fill_53178 (a0 + 1) 0 M) (fun v1 M2 =>
    fm_bd (F_J7_fill_53178 (a0 + 2) 0 M2) (fun v3 M4 =>
    fm_lt (fm_up M4 a0 4 0) (fun M5 =>
    fm_lt (fm_up M5 a0 5 0) (fun M6 =>
    some ((), M6))))))
theorem sp_X3_clear {d : Nat} {a0 : Nat} {M : fm_M} {x : Unit × fm_M} {Q : Option Value → fm_M → Prop} (h : F_X3_clear a0 M = some x) (hq : Q none x.2) : fm_ct (d + 1) mX3_clear [.ref a0] M Q := by
  rw [F_X3_clear] at h
  show fm_mw (d + 1) mX3_clear Q 0 [some (.ref a0)] [] M
  obtain ⟨ga0, h⟩ := fm_gdp h
  refine fl_aload0 (pc := 0) dX3_clear_0 ?_
  refine fm_getr (pc := 1) lk_3_9 (shLw0 ga0) rfl dX3_clear_1 ?_
  refine fm_iconstv (pc := 4) 0 (by decide) dX3_clear_4 ?_
  obtain ⟨v1, M2, ev1, h⟩ := fm_bdp h
  refine fm_callS (pc := 5) mJ7_fill_53178 [_, _] _ rfl csJ7_fill_53178 ml_3_31 rfl (Nat.le_of_ble_eq_true rfl) (Nat.le_of_ble_eq_true rfl) dX3_clear_5 ?_
  refine sp_J7_fill_53178 ev1 ?_
  refine fm_ret0 ?_
  refine fl_aload0 (pc := 8) dX3_clear_8 ?_
  refine fm_getr (pc := 9) lk_3_15 (shLw0 ga0) rfl dX3_clear_9 ?_
  refine fm_iconstv (pc := 12) 0 (by decide) dX3_clear_12 ?_
  obtain ⟨v3, M4, ev3, h⟩ := fm_bdp h
  refine fm_callS (pc := 13) mJ7_fill_53178 [_, _] _ rfl csJ7_fill_53178 ml_3_31 rfl (Nat.le_of_ble_eq_true rfl) (Nat.le_of_ble_eq_true rfl) dX3_clear_13 ?_
  refine sp_J7_fill_53178 ev3 ?_
  refine fm_ret0 ?_
  refine fl_aload0 (pc := 16) dX3_clear_16 ?_
  refine fm_iconstv (pc := 17) 0 (by decide) dX3_clear_17 ?_
  refine fm_puti (pc := 18) lp_3_37 (shLw0 ga0) rfl dX3_clear_18 ?_
  obtain ⟨M5, eM5, h⟩ := fm_ltp h
  refine fm_cgm eM5 ?_
  refine fl_aload0 (pc := 21) dX3_clear_21 ?_
  refine fm_iconstv (pc := 22) 0 (by decide) dX3_clear_22 ?_
  refine fm_puti (pc := 23) lp_3_41 (shLw0 ga0) rfl dX3_clear_23 ?_
  obtain ⟨M6, eM6, h⟩ := fm_ltp h
  refine fm_cgm eM6 ?_
  refine fm_vret (pc := 26) rfl ?_ dX3_clear_26
  cases h
  exact hq
/-! X3_begin -/
def F_X3_begin (a0 : Nat) (a1 : Int32) (M : fm_M) : Option (Unit × fm_M) :=
    fm_gd (fm_isLw a0) (
    if a1 < 0 then (
      some ((), M)
    ) else (
      if 3 ≤ a1 then (
        some ((), M)
      ) else (
        fm_gd (fm_inb a1 3) (
        fm_lt (fm_up M (a0 + 1) (Int32.toNatClampNeg a1) (M.1 a0 4)) (fun M2 =>
        some ((), M2)))
      )
    ))
theorem sp_X3_begin {d : Nat} {a0 : Nat} {a1 : Int32} {M : fm_M} {x : Unit × fm_M} {Q : Option Value → fm_M → Prop} (h : F_X3_begin a0 a1 M = some x) (hq : Q none x.2) : fm_ct d mX3_begin [.ref a0, .int a1] M Q := by
  rw [F_X3_begin] at h
  show fm_mw d mX3_begin Q 0 [some (.ref a0), some (.int a1)] [] M
  obtain ⟨ga0, h⟩ := fm_gdp h
  refine fl_iload1 (pc := 0) dX3_begin_0 ?_
  refine fm_if_lt (pc := 1) 19 (by decide) dX3_begin_1 (fun c1 => ?_) (fun c1 => ?_)
  · replace h := fm_itp c1 h
    refine fm_vret (pc := 19) rfl ?_ dX3_begin_19
    cases h
    exact hq
  · replace h := fm_itn c1 h
    refine fl_iload1 (pc := 4) dX3_begin_4 ?_
    refine fm_iconstv (pc := 5) 3 (by decide) dX3_begin_5 ?_
    refine fm_icmp_ge (pc := 6) 19 (by decide) dX3_begin_6 (fun c6 => ?_) (fun c6 => ?_)
    · replace h := fm_itp c6 h
      refine fm_vret (pc := 19) rfl ?_ dX3_begin_19
      cases h
      exact hq
    · replace h := fm_itn c6 h
      refine fl_aload0 (pc := 9) dX3_begin_9 ?_
      refine fm_getr (pc := 10) lk_3_9 (shLw0 ga0) rfl dX3_begin_10 ?_
      refine fl_iload1 (pc := 13) dX3_begin_13 ?_
      refine fl_aload0 (pc := 14) dX3_begin_14 ?_
      refine fm_geti (pc := 15) lk_3_37 (shLw0 ga0) rfl dX3_begin_15 ?_
      obtain ⟨g1, h⟩ := fm_gdp h
      refine fm_iast (pc := 18) (shLw1 ga0) (fm_inb_ok g1) dX3_begin_18 ?_
      obtain ⟨M2, eM2, h⟩ := fm_ltp h
      refine fm_cgm eM2 ?_
      refine fm_vret (pc := 19) rfl ?_ dX3_begin_19
      cases h
      exact hq
/-! X3_finish -/
def F_X3_finish (a0 : Nat) (a1 : Int32) (M : fm_M) : Option (Unit × fm_M) :=
    fm_gd (fm_isLw a0) (
    if a1 < 0 then (
      some ((), M)
    ) else (
      if 3 ≤ a1 then (
        some ((), M)
      ) else (
        fm_gd (fm_inb a1 3) (
        fm_lt (fm_up M (a0 + 2) (Int32.toNatClampNeg a1) (M.1 a0 4)) (fun M2 =>
        some ((), M2)))
      )
    ))
theorem sp_X3_finish {d : Nat} {a0 : Nat} {a1 : Int32} {M : fm_M} {x : Unit × fm_M} {Q : Option Value → fm_M → Prop} (h : F_X3_finish a0 a1 M = some x) (hq : Q none x.2) : fm_ct d mX3_finish [.ref a0, .int a1] M Q := by
  rw [F_X3_finish] at h
  show fm_mw d mX3_finish Q 0 [some (.ref a0), some (.int a1)] [] M
  obtain ⟨ga0, h⟩ := fm_gdp h
  refine fl_iload1 (pc := 0) dX3_finish_0 ?_
  refine fm_if_lt (pc := 1) 19 (by decide) dX3_finish_1 (fun c1 => ?_) (fun c1 => ?_)
  · replace h := fm_itp c1 h
    refine fm_vret (pc := 19) rfl ?_ dX3_finish_19
    cases h
    exact hq
  · replace h := fm_itn c1 h
    refine fl_iload1 (pc := 4) dX3_finish_4 ?_
    refine fm_iconstv (pc := 5) 3 (by decide) dX3_finish_5 ?_
    refine fm_icmp_ge (pc := 6) 19 (by decide) dX3_finish_6 (fun c6 => ?_) (fun c6 => ?_)
    · replace h := fm_itp c6 h
      refine fm_vret (pc := 19) rfl ?_ dX3_finish_19
      cases h
      exact hq
    · replace h := fm_itn c6 h
      refine fl_aload0 (pc := 9) dX3_finish_9 ?_
      refine fm_getr (pc := 10) lk_3_15 (shLw0 ga0) rfl dX3_finish_10 ?_
      refine fl_iload1 (pc := 13) dX3_finish_13 ?_
      refine fl_aload0 (pc := 14) dX3_finish_14 ?_
      refine fm_geti (pc := 15) lk_3_37 (shLw0 ga0) rfl dX3_finish_15 ?_
      obtain ⟨g1, h⟩ := fm_gdp h
      refine fm_iast (pc := 18) (shLw2 ga0) (fm_inb_ok g1) dX3_finish_18 ?_
      obtain ⟨M2, eM2, h⟩ := fm_ltp h
      refine fm_cgm eM2 ?_
      refine fm_vret (pc := 19) rfl ?_ dX3_finish_19
      cases h
      exact hq
/-! X3_add -/
def F_X3_add (a0 : Nat) (a1 : Int32) (a2 : Int32) (M : fm_M) : Option (Unit × fm_M) :=
    fm_gd (fm_isLw a0) (
    if 64 ≤ (M.1 a0 4) then (
      some ((), M)
    ) else (
      fm_gd (fm_inb (M.1 a0 4) 64) (
      fm_lt (fm_up M (a0 + 3) (Int32.toNatClampNeg (M.1 a0 4)) a1) (fun M2 =>
      fm_gd (fm_inb (M2.1 a0 4) 64) (
      fm_lt (fm_up M2 (a0 + 4) (Int32.toNatClampNeg (M2.1 a0 4)) a2) (fun M4 =>
      fm_lt (fm_up M4 a0 4 ((M4.1 a0 4) + 1)) (fun M5 =>
      some ((), M5))))))
    ))
theorem sp_X3_add {d : Nat} {a0 : Nat} {a1 : Int32} {a2 : Int32} {M : fm_M} {x : Unit × fm_M} {Q : Option Value → fm_M → Prop} (h : F_X3_add a0 a1 a2 M = some x) (hq : Q none x.2) : fm_ct d mX3_add [.ref a0, .int a1, .int a2] M Q := by
  rw [F_X3_add] at h
  show fm_mw d mX3_add Q 0 [some (.ref a0), some (.int a1), some (.int a2)] [] M
  obtain ⟨ga0, h⟩ := fm_gdp h
  refine fl_aload0 (pc := 0) dX3_add_0 ?_
  refine fm_geti (pc := 1) lk_3_37 (shLw0 ga0) rfl dX3_add_1 ?_
  refine fm_bipushv (pc := 4) 64 (by decide) dX3_add_4 ?_
  refine fm_icmp_ge (pc := 6) 39 (by decide) dX3_add_6 (fun c6 => ?_) (fun c6 => ?_)
  · replace h := fm_itp c6 h
    refine fm_vret (pc := 39) rfl ?_ dX3_add_39
    cases h
    exact hq
  · replace h := fm_itn c6 h
    refine fl_aload0 (pc := 9) dX3_add_9 ?_
    refine fm_getr (pc := 10) lk_3_18 (shLw0 ga0) rfl dX3_add_10 ?_
    refine fl_aload0 (pc := 13) dX3_add_13 ?_
    refine fm_geti (pc := 14) lk_3_37 (shLw0 ga0) rfl dX3_add_14 ?_
    refine fl_iload1 (pc := 17) dX3_add_17 ?_
    obtain ⟨g1, h⟩ := fm_gdp h
    refine fm_iast (pc := 18) (shLw3 ga0) (fm_inb_ok g1) dX3_add_18 ?_
    obtain ⟨M2, eM2, h⟩ := fm_ltp h
    refine fm_cgm eM2 ?_
    refine fl_aload0 (pc := 19) dX3_add_19 ?_
    refine fm_getr (pc := 20) lk_3_21 (shLw0 ga0) rfl dX3_add_20 ?_
    refine fl_aload0 (pc := 23) dX3_add_23 ?_
    refine fm_geti (pc := 24) lk_3_37 (shLw0 ga0) rfl dX3_add_24 ?_
    refine fl_iload2 (pc := 27) dX3_add_27 ?_
    obtain ⟨g3, h⟩ := fm_gdp h
    refine fm_iast (pc := 28) (shLw4 ga0) (fm_inb_ok g3) dX3_add_28 ?_
    obtain ⟨M4, eM4, h⟩ := fm_ltp h
    refine fm_cgm eM4 ?_
    refine fl_aload0 (pc := 29) dX3_add_29 ?_
    refine fm_dup (pc := 30) rfl dX3_add_30 ?_
    refine fm_geti (pc := 31) lk_3_37 (shLw0 ga0) rfl dX3_add_31 ?_
    refine fm_iconstv (pc := 34) 1 (by decide) dX3_add_34 ?_
    refine fm_iadd (pc := 35) dX3_add_35 ?_
    refine fm_puti (pc := 36) lp_3_37 (shLw0 ga0) rfl dX3_add_36 ?_
    obtain ⟨M5, eM5, h⟩ := fm_ltp h
    refine fm_cgm eM5 ?_
    refine fm_vret (pc := 39) rfl ?_ dX3_add_39
    cases h
    exact hq
/-! X4_forget -/
def F_X4_forget  (M : fm_M) : Option (Unit × fm_M) :=
    fm_lt (fm_up M 63 2 0) (fun M1 =>
    fm_lt (fm_up M1 63 3 (-1)) (fun M2 =>
    some ((), M2)))
theorem sp_X4_forget {d : Nat}  {M : fm_M} {x : Unit × fm_M} {Q : Option Value → fm_M → Prop} (h : F_X4_forget  M = some x) (hq : Q none x.2) : fm_ct d mX4_forget [.ref 63] M Q := by
  rw [F_X4_forget] at h
  show fm_mw d mX4_forget Q 0 [some (.ref 63)] [] M
  refine fl_aload0 (pc := 0) dX4_forget_0 ?_
  refine fm_iconstv (pc := 1) 0 (by decide) dX4_forget_1 ?_
  refine fm_puti (pc := 2) lp_4_22 sh_63 rfl dX4_forget_2 ?_
  obtain ⟨M1, eM1, h⟩ := fm_ltp h
  refine fm_cgm eM1 ?_
  refine fl_aload0 (pc := 5) dX4_forget_5 ?_
  refine fm_iconstv (pc := 6) (-1) (by decide) dX4_forget_6 ?_
  refine fm_puti (pc := 7) lp_4_18 sh_63 rfl dX4_forget_7 ?_
  obtain ⟨M2, eM2, h⟩ := fm_ltp h
  refine fm_cgm eM2 ?_
  refine fm_vret (pc := 10) rfl ?_ dX4_forget_10
  cases h
  exact hq
/-! X4_add -/
def F_X4_add (a1 : Int32) (a2 : Int32) (M : fm_M) : Option (Int32 × fm_M) :=
    if (M.1 63 2) < 24 then (
      fm_gd (fm_inb (M.1 63 2) 24) (
      fm_lt (fm_up M 64 (Int32.toNatClampNeg (M.1 63 2)) a1) (fun M2 =>
      fm_gd (fm_inb (M2.1 63 2) 24) (
      fm_lt (fm_up M2 65 (Int32.toNatClampNeg (M2.1 63 2)) a2) (fun M4 =>
      fm_lt (fm_up M4 63 2 ((M4.1 63 2) + 1)) (fun M5 =>
      some (((M5.1 63 2) - 1), M5))))))
    ) else (
      some ((-1), M)
    )
theorem sp_X4_add {d : Nat} {a1 : Int32} {a2 : Int32} {M : fm_M} {x : Int32 × fm_M} {Q : Option Value → fm_M → Prop} (h : F_X4_add a1 a2 M = some x) (hq : Q (some (.int x.1)) x.2) : fm_ct d mX4_add [.ref 63, .int a1, .int a2] M Q := by
  rw [F_X4_add] at h
  show fm_mw d mX4_add Q 0 [some (.ref 63), some (.int a1), some (.int a2)] [] M
  refine fl_aload0 (pc := 0) dX4_add_0 ?_
  refine fm_geti (pc := 1) lk_4_22 sh_63 rfl dX4_add_1 ?_
  refine fm_bipushv (pc := 4) 24 (by decide) dX4_add_4 ?_
  refine fm_icmp_lt (pc := 6) 11 (by decide) dX4_add_6 (fun c6 => ?_) (fun c6 => ?_)
  · replace h := fm_itp c6 h
    refine fl_aload0 (pc := 11) dX4_add_11 ?_
    refine fm_getr (pc := 12) lk_4_9 sh_63 rfl dX4_add_12 ?_
    refine fl_aload0 (pc := 15) dX4_add_15 ?_
    refine fm_geti (pc := 16) lk_4_22 sh_63 rfl dX4_add_16 ?_
    refine fl_iload1 (pc := 19) dX4_add_19 ?_
    obtain ⟨g1, h⟩ := fm_gdp h
    refine fm_iast (pc := 20) sh_64 (fm_inb_ok g1) dX4_add_20 ?_
    obtain ⟨M2, eM2, h⟩ := fm_ltp h
    refine fm_cgm eM2 ?_
    refine fl_aload0 (pc := 21) dX4_add_21 ?_
    refine fm_getr (pc := 22) lk_4_15 sh_63 rfl dX4_add_22 ?_
    refine fl_aload0 (pc := 25) dX4_add_25 ?_
    refine fm_geti (pc := 26) lk_4_22 sh_63 rfl dX4_add_26 ?_
    refine fl_iload2 (pc := 29) dX4_add_29 ?_
    obtain ⟨g3, h⟩ := fm_gdp h
    refine fm_iast (pc := 30) sh_65 (fm_inb_ok g3) dX4_add_30 ?_
    obtain ⟨M4, eM4, h⟩ := fm_ltp h
    refine fm_cgm eM4 ?_
    refine fl_aload0 (pc := 31) dX4_add_31 ?_
    refine fm_dup (pc := 32) rfl dX4_add_32 ?_
    refine fm_geti (pc := 33) lk_4_22 sh_63 rfl dX4_add_33 ?_
    refine fm_iconstv (pc := 36) 1 (by decide) dX4_add_36 ?_
    refine fm_iadd (pc := 37) dX4_add_37 ?_
    refine fm_puti (pc := 38) lp_4_22 sh_63 rfl dX4_add_38 ?_
    obtain ⟨M5, eM5, h⟩ := fm_ltp h
    refine fm_cgm eM5 ?_
    refine fl_aload0 (pc := 41) dX4_add_41 ?_
    refine fm_geti (pc := 42) lk_4_22 sh_63 rfl dX4_add_42 ?_
    refine fm_iconstv (pc := 45) 1 (by decide) dX4_add_45 ?_
    refine fm_isub (pc := 46) dX4_add_46 ?_
    refine fm_iret (pc := 47) rfl ?_ dX4_add_47
    cases h
    exact hq
  · replace h := fm_itn c6 h
    refine fm_iconstv (pc := 9) (-1) (by decide) dX4_add_9 ?_
    refine fm_iret (pc := 10) rfl ?_ dX4_add_10
    cases h
    exact hq
/-! X4_reach -/
def F_X4_reach  (M : fm_M) : Option (Int32 × fm_M) :=
    if (M.1 63 3) = (-1) then (
      some ((M.1 63 2), M)
    ) else (
      some ((M.1 63 3), M)
    )
theorem sp_X4_reach {d : Nat}  {M : fm_M} {x : Int32 × fm_M} {Q : Option Value → fm_M → Prop} (h : F_X4_reach  M = some x) (hq : Q (some (.int x.1)) x.2) : fm_ct d mX4_reach [.ref 63] M Q := by
  rw [F_X4_reach] at h
  show fm_mw d mX4_reach Q 0 [some (.ref 63)] [] M
  refine fl_aload0 (pc := 0) dX4_reach_0 ?_
  refine fm_geti (pc := 1) lk_4_18 sh_63 rfl dX4_reach_1 ?_
  refine fm_iconstv (pc := 4) (-1) (by decide) dX4_reach_4 ?_
  refine fm_icmp_ne (pc := 5) 15 (by decide) dX4_reach_5 (fun c5 => ?_) (fun c5 => ?_)
  · replace h := fm_itn c5 h
    refine fl_aload0 (pc := 15) dX4_reach_15 ?_
    refine fm_geti (pc := 16) lk_4_18 sh_63 rfl dX4_reach_16 ?_
    refine fm_iret (pc := 19) rfl ?_ dX4_reach_19
    cases h
    exact hq
  · replace h := fm_itp c5 h
    refine fl_aload0 (pc := 8) dX4_reach_8 ?_
    refine fm_geti (pc := 9) lk_4_22 sh_63 rfl dX4_reach_9 ?_
    refine fm_goto (pc := 12) 19 (by decide) dX4_reach_12 ?_
    refine fm_iret (pc := 19) rfl ?_ dX4_reach_19
    cases h
    exact hq
/-! X4_sift -/
def G_X4_sift_12 : Nat → Int32 → fm_M → Option ((Int32) × fm_M)
  | 0, _, _ => none
  | n + 1, l1, M =>
    if l1 < 0 then (
      some (l1, M)
    ) else (
      fm_gd (fm_inb l1 24) (
      if (M.1 64 (Int32.toNatClampNeg l1)) = 2 then (
        fm_bd (F_X9_bitOf (M.1 63 4) l1 M) (fun v6 M7 =>
        if v6 = 0 then (
          fm_gd (fm_inb l1 24) (
          fm_lt (fm_up M7 63 4 ((M7.1 63 4) ||| (1 <<< ((M7.1 65 (Int32.toNatClampNeg l1)) &&& 31)))) (fun M9 =>
          G_X4_sift_12 n (l1 + (-1)) M9))
        ) else (
          G_X4_sift_12 n (l1 + (-1)) M7
        ))
      ) else (
        G_X4_sift_12 n (l1 + (-1)) M
      ))
    )
def F_X4_sift  (M : fm_M) : Option (Unit × fm_M) :=
    fm_lt (fm_up M 63 4 0) (fun M1 =>
    fm_bd (F_X4_reach M1) (fun v2 M3 =>
    fm_lt ((v2 - 1)) (fun x4 =>
    fm_bd (G_X4_sift_12 fm_fuel x4 M3) (fun w10 M11 =>
      some ((), M11)))))
theorem lp_X4_sift_12 {d : Nat} {Q : Option Value → fm_M → Prop}    {x : (Int32) × fm_M} (k1 : ∀ (v : Int32) (M2 : fm_M), x = (v, M2) → fm_mw (d + 1) mX4_sift Q 60 [some (.ref 63), some (.int v)] [] M2) : ∀ (n : Nat) (l1 : Int32) (M : fm_M), G_X4_sift_12 n l1 M = some x → fm_mw (d + 1) mX4_sift Q 12 [some (.ref 63), some (.int l1)] [] M := by
  intro n
  induction n with
  | zero => intro l1 M h; simp [G_X4_sift_12] at h
  | succ n ih =>
    intro l1 M h
    rw [G_X4_sift_12] at h
    refine fl_iload1 (pc := 12) dX4_sift_12 ?_
    refine fm_if_lt (pc := 13) 60 (by decide) dX4_sift_13 (fun c13 => ?_) (fun c13 => ?_)
    · replace h := fm_itp c13 h
      refine fm_fgt [some (.ref 63), some (.int l1)] (by simp [fm_sub]) ?_
      cases h
      exact k1 _ _ rfl
    · replace h := fm_itn c13 h
      refine fl_aload0 (pc := 16) dX4_sift_16 ?_
      refine fm_getr (pc := 17) lk_4_9 sh_63 rfl dX4_sift_17 ?_
      refine fl_iload1 (pc := 20) dX4_sift_20 ?_
      obtain ⟨g5, h⟩ := fm_gdp h
      refine fm_iald (pc := 21) sh_64 (fm_inb_ok g5) dX4_sift_21 ?_
      refine fm_iconstv (pc := 22) 2 (by decide) dX4_sift_22 ?_
      refine fm_icmp_ne (pc := 23) 54 (by decide) dX4_sift_23 (fun c23 => ?_) (fun c23 => ?_)
      · replace h := fm_itn c23 h
        refine fl_iinc1 (pc := 54) rfl (-1) (by decide) (by decide) dX4_sift_54 ?_
        refine fm_goto (pc := 57) 12 (by decide) dX4_sift_57 ?_
        refine fm_fgt [some (.ref 63), some (.int (l1 + (-1)))] (by simp [fm_sub]) ?_
        exact ih _ _ h
      · replace h := fm_itp c23 h
        refine fl_aload0 (pc := 26) dX4_sift_26 ?_
        refine fm_geti (pc := 27) lk_4_25 sh_63 rfl dX4_sift_27 ?_
        refine fl_iload1 (pc := 30) dX4_sift_30 ?_
        obtain ⟨v6, M7, ev6, h⟩ := fm_bdp h
        refine fm_callS (pc := 31) mX9_bitOf [_, _] _ rfl csX9_bitOf ml_4_32 rfl (Nat.le_of_ble_eq_true rfl) (Nat.le_of_ble_eq_true rfl) dX4_sift_31 ?_
        refine sp_X9_bitOf ev6 ?_
        refine fm_ret1 ?_
        refine fm_if_ne (pc := 34) 54 (by decide) dX4_sift_34 (fun c34 => ?_) (fun c34 => ?_)
        · replace h := fm_itn c34 h
          refine fl_iinc1 (pc := 54) rfl (-1) (by decide) (by decide) dX4_sift_54 ?_
          refine fm_goto (pc := 57) 12 (by decide) dX4_sift_57 ?_
          refine fm_fgt [some (.ref 63), some (.int (l1 + (-1)))] (by simp [fm_sub]) ?_
          exact ih _ _ h
        · replace h := fm_itp c34 h
          refine fl_aload0 (pc := 37) dX4_sift_37 ?_
          refine fm_dup (pc := 38) rfl dX4_sift_38 ?_
          refine fm_geti (pc := 39) lk_4_25 sh_63 rfl dX4_sift_39 ?_
          refine fm_iconstv (pc := 42) 1 (by decide) dX4_sift_42 ?_
          refine fl_aload0 (pc := 43) dX4_sift_43 ?_
          refine fm_getr (pc := 44) lk_4_15 sh_63 rfl dX4_sift_44 ?_
          refine fl_iload1 (pc := 47) dX4_sift_47 ?_
          obtain ⟨g8, h⟩ := fm_gdp h
          refine fm_iald (pc := 48) sh_65 (fm_inb_ok g8) dX4_sift_48 ?_
          refine fm_ishl (pc := 49) dX4_sift_49 ?_
          refine fm_ior (pc := 50) dX4_sift_50 ?_
          refine fm_puti (pc := 51) lp_4_25 sh_63 rfl dX4_sift_51 ?_
          obtain ⟨M9, eM9, h⟩ := fm_ltp h
          refine fm_cgm eM9 ?_
          refine fl_iinc1 (pc := 54) rfl (-1) (by decide) (by decide) dX4_sift_54 ?_
          refine fm_goto (pc := 57) 12 (by decide) dX4_sift_57 ?_
          refine fm_fgt [some (.ref 63), some (.int (l1 + (-1)))] (by simp [fm_sub]) ?_
          exact ih _ _ h
theorem sp_X4_sift {d : Nat}  {M : fm_M} {x : Unit × fm_M} {Q : Option Value → fm_M → Prop} (h : F_X4_sift  M = some x) (hq : Q none x.2) : fm_ct (d + 1) mX4_sift [.ref 63] M Q := by
  rw [F_X4_sift] at h
  show fm_mw (d + 1) mX4_sift Q 0 [some (.ref 63), none] [] M
  refine fl_aload0 (pc := 0) dX4_sift_0 ?_
  refine fm_iconstv (pc := 1) 0 (by decide) dX4_sift_1 ?_
  refine fm_puti (pc := 2) lp_4_25 sh_63 rfl dX4_sift_2 ?_
  obtain ⟨M1, eM1, h⟩ := fm_ltp h
  refine fm_cgm eM1 ?_
  refine fl_aload0 (pc := 5) dX4_sift_5 ?_
  obtain ⟨v2, M3, ev2, h⟩ := fm_bdp h
  refine fm_callV (pc := 6) mX4_reach [] _ rfl cvX4_reach ml_4_28 sh_63 rfl rfl (Nat.le_of_ble_eq_true rfl) (Nat.le_of_ble_eq_true rfl) dX4_sift_6 ?_
  refine sp_X4_reach ev2 ?_
  refine fm_ret1 ?_
  refine fm_iconstv (pc := 9) 1 (by decide) dX4_sift_9 ?_
  refine fm_isub (pc := 10) dX4_sift_10 ?_
  obtain ⟨x4, ex4, h⟩ := fm_ltp h
  refine fm_cgi ex4 ?_
  refine fl_istore1 (pc := 11) rfl (by decide) dX4_sift_11 ?_
  obtain ⟨w10, M11, ew10, h⟩ := fm_bdp h
  refine lp_X4_sift_12  ?_ _ _ _ ew10
  intro w109 M119 q9
  cases q9
  refine fm_vret (pc := 60) rfl ?_ dX4_sift_60
  cases h
  exact hq
/-! X4_tells -/
def F_X4_tells (a1 : Int32) (M : fm_M) : Option (Int32 × fm_M) :=
    fm_gd (fm_inb a1 24) (
    if (M.1 64 (Int32.toNatClampNeg a1)) = 2 then (
      some (0, M)
    ) else (
      fm_bd (F_X9_bitOf (M.1 63 4) a1 M) (fun v2 M3 =>
      if v2 = 0 then (
        some (1, M3)
      ) else (
        some (0, M3)
      ))
    ))
theorem sp_X4_tells {d : Nat} {a1 : Int32} {M : fm_M} {x : Int32 × fm_M} {Q : Option Value → fm_M → Prop} (h : F_X4_tells a1 M = some x) (hq : Q (some (.int x.1)) x.2) : fm_ct (d + 1) mX4_tells [.ref 63, .int a1] M Q := by
  rw [F_X4_tells] at h
  show fm_mw (d + 1) mX4_tells Q 0 [some (.ref 63), some (.int a1)] [] M
  refine fl_aload0 (pc := 0) dX4_tells_0 ?_
  refine fm_getr (pc := 1) lk_4_9 sh_63 rfl dX4_tells_1 ?_
  refine fl_iload1 (pc := 4) dX4_tells_4 ?_
  obtain ⟨g1, h⟩ := fm_gdp h
  refine fm_iald (pc := 5) sh_64 (fm_inb_ok g1) dX4_tells_5 ?_
  refine fm_iconstv (pc := 6) 2 (by decide) dX4_tells_6 ?_
  refine fm_icmp_eq (pc := 7) 25 (by decide) dX4_tells_7 (fun c7 => ?_) (fun c7 => ?_)
  · replace h := fm_itp c7 h
    refine fm_iconstv (pc := 25) 0 (by decide) dX4_tells_25 ?_
    refine fm_zret (pc := 26) rfl (by decide) ?_ dX4_tells_26
    cases h
    exact hq
  · replace h := fm_itn c7 h
    refine fl_aload0 (pc := 10) dX4_tells_10 ?_
    refine fm_geti (pc := 11) lk_4_25 sh_63 rfl dX4_tells_11 ?_
    refine fl_iload1 (pc := 14) dX4_tells_14 ?_
    obtain ⟨v2, M3, ev2, h⟩ := fm_bdp h
    refine fm_callS (pc := 15) mX9_bitOf [_, _] _ rfl csX9_bitOf ml_4_32 rfl (Nat.le_of_ble_eq_true rfl) (Nat.le_of_ble_eq_true rfl) dX4_tells_15 ?_
    refine sp_X9_bitOf ev2 ?_
    refine fm_ret1 ?_
    refine fm_if_ne (pc := 18) 25 (by decide) dX4_tells_18 (fun c18 => ?_) (fun c18 => ?_)
    · replace h := fm_itn c18 h
      refine fm_iconstv (pc := 25) 0 (by decide) dX4_tells_25 ?_
      refine fm_zret (pc := 26) rfl (by decide) ?_ dX4_tells_26
      cases h
      exact hq
    · replace h := fm_itp c18 h
      refine fm_iconstv (pc := 21) 1 (by decide) dX4_tells_21 ?_
      refine fm_goto (pc := 22) 26 (by decide) dX4_tells_22 ?_
      refine fm_zret (pc := 26) rfl (by decide) ?_ dX4_tells_26
      cases h
      exact hq
/-! X4_daysToHear -/
def G_X4_daysToHear_4 : Nat → Nat → Int32 → Int32 → fm_M → Option ((Int32 × Int32) × fm_M)
  | 0, _, _, _, _ => none
  | n + 1, a1, l2, l3, M =>
    fm_bd (F_X4_reach M) (fun v1 M2 =>
    if v1 ≤ l3 then (
      some ((l2, l3), M2)
    ) else (
      fm_bd (F_X4_tells l3 M2) (fun v3 M4 =>
      if v3 = 0 then (
        G_X4_daysToHear_4 n a1 l2 (l3 + 1) M4
      ) else (
        fm_gd (fm_inb l3 24) (
        fm_gd (fm_inb (M4.1 65 (Int32.toNatClampNeg l3)) 10) (
        fm_lt ((i_max l2 ((M4.1 (a1 + 8) (Int32.toNatClampNeg (M4.1 65 (Int32.toNatClampNeg l3)))) + 1))) (fun x7 =>
        G_X4_daysToHear_4 n a1 x7 (l3 + 1) M4)))
      ))
    ))
def F_X4_daysToHear (a1 : Nat) (M : fm_M) : Option (Int32 × fm_M) :=
    fm_gd (fm_isTd a1) (
    fm_bd (G_X4_daysToHear_4 fm_fuel a1 0 0 M) (fun w8 M9 =>
      some (w8.1, M9)))
theorem lp_X4_daysToHear_4 {d : Nat} {Q : Option Value → fm_M → Prop}  {a1 : Nat} (ga1 : fm_isTd a1 = true) {x : (Int32 × Int32) × fm_M} (k1 : ∀ (v : Int32 × Int32) (M2 : fm_M), x = (v, M2) → fm_mw (d + 2) mX4_daysToHear Q 44 [some (.ref 63), some (.ref a1), some (.int v.1), some (.int v.2)] [] M2) : ∀ (n : Nat) (l2 : Int32) (l3 : Int32) (M : fm_M), G_X4_daysToHear_4 n a1 l2 l3 M = some x → fm_mw (d + 2) mX4_daysToHear Q 4 [some (.ref 63), some (.ref a1), some (.int l2), some (.int l3)] [] M := by
  intro n
  induction n with
  | zero => intro l2 l3 M h; simp [G_X4_daysToHear_4] at h
  | succ n ih =>
    intro l2 l3 M h
    rw [G_X4_daysToHear_4] at h
    refine fl_iload3 (pc := 4) dX4_daysToHear_4 ?_
    refine fl_aload0 (pc := 5) dX4_daysToHear_5 ?_
    obtain ⟨v1, M2, ev1, h⟩ := fm_bdp h
    refine fm_callV (pc := 6) mX4_reach [] _ rfl cvX4_reach ml_4_28 sh_63 rfl rfl (Nat.le_of_ble_eq_true rfl) (Nat.le_of_ble_eq_true rfl) dX4_daysToHear_6 ?_
    refine sp_X4_reach ev1 ?_
    refine fm_ret1 ?_
    refine fm_icmp_ge (pc := 9) 44 (by decide) dX4_daysToHear_9 (fun c9 => ?_) (fun c9 => ?_)
    · replace h := fm_itp c9 h
      refine fm_fgt [some (.ref 63), some (.ref a1), some (.int l2), some (.int l3)] (by simp [fm_sub]) ?_
      cases h
      exact k1 _ _ rfl
    · replace h := fm_itn c9 h
      refine fl_aload0 (pc := 12) dX4_daysToHear_12 ?_
      refine fl_iload3 (pc := 13) dX4_daysToHear_13 ?_
      obtain ⟨v3, M4, ev3, h⟩ := fm_bdp h
      refine fm_callV (pc := 14) mX4_tells [_] _ rfl cvX4_tells ml_4_36 sh_63 rfl rfl (Nat.le_of_ble_eq_true rfl) (Nat.le_of_ble_eq_true rfl) dX4_daysToHear_14 ?_
      refine sp_X4_tells ev3 ?_
      refine fm_ret1 ?_
      refine fm_if_eq (pc := 17) 38 (by decide) dX4_daysToHear_17 (fun c17 => ?_) (fun c17 => ?_)
      · replace h := fm_itp c17 h
        refine fl_iinc3 (pc := 38) rfl 1 (by decide) (by decide) dX4_daysToHear_38 ?_
        refine fm_goto (pc := 41) 4 (by decide) dX4_daysToHear_41 ?_
        refine fm_fgt [some (.ref 63), some (.ref a1), some (.int l2), some (.int (l3 + 1))] (by simp [fm_sub]) ?_
        exact ih _ _ _ h
      · replace h := fm_itn c17 h
        refine fl_iload2 (pc := 20) dX4_daysToHear_20 ?_
        refine fl_aload1 (pc := 21) dX4_daysToHear_21 ?_
        refine fm_getr (pc := 22) lk_4_40 (shTd0 ga1) rfl dX4_daysToHear_22 ?_
        refine fl_aload0 (pc := 25) dX4_daysToHear_25 ?_
        refine fm_getr (pc := 26) lk_4_15 sh_63 rfl dX4_daysToHear_26 ?_
        refine fl_iload3 (pc := 29) dX4_daysToHear_29 ?_
        obtain ⟨g5, h⟩ := fm_gdp h
        refine fm_iald (pc := 30) sh_65 (fm_inb_ok g5) dX4_daysToHear_30 ?_
        obtain ⟨g6, h⟩ := fm_gdp h
        refine fm_iald (pc := 31) (shTd8 ga1) (fm_inb_ok g6) dX4_daysToHear_31 ?_
        refine fm_iconstv (pc := 32) 1 (by decide) dX4_daysToHear_32 ?_
        refine fm_iadd (pc := 33) dX4_daysToHear_33 ?_
        refine fq_mmax (pc := 34) ml_4_45 (Nat.le_of_ble_eq_true rfl) dX4_daysToHear_34 ?_
        obtain ⟨x7, ex7, h⟩ := fm_ltp h
        refine fm_cgi ex7 ?_
        refine fl_istore2 (pc := 37) rfl (by decide) dX4_daysToHear_37 ?_
        refine fl_iinc3 (pc := 38) rfl 1 (by decide) (by decide) dX4_daysToHear_38 ?_
        refine fm_goto (pc := 41) 4 (by decide) dX4_daysToHear_41 ?_
        refine fm_fgt [some (.ref 63), some (.ref a1), some (.int x7), some (.int (l3 + 1))] (by simp [fm_sub]) ?_
        exact ih _ _ _ h
theorem sp_X4_daysToHear {d : Nat} {a1 : Nat} {M : fm_M} {x : Int32 × fm_M} {Q : Option Value → fm_M → Prop} (h : F_X4_daysToHear a1 M = some x) (hq : Q (some (.int x.1)) x.2) : fm_ct (d + 2) mX4_daysToHear [.ref 63, .ref a1] M Q := by
  rw [F_X4_daysToHear] at h
  show fm_mw (d + 2) mX4_daysToHear Q 0 [some (.ref 63), some (.ref a1), none, none] [] M
  obtain ⟨ga1, h⟩ := fm_gdp h
  refine fm_iconstv (pc := 0) 0 (by decide) dX4_daysToHear_0 ?_
  refine fl_istore2 (pc := 1) rfl (by decide) dX4_daysToHear_1 ?_
  refine fm_iconstv (pc := 2) 0 (by decide) dX4_daysToHear_2 ?_
  refine fl_istore3 (pc := 3) rfl (by decide) dX4_daysToHear_3 ?_
  obtain ⟨w8, M9, ew8, h⟩ := fm_bdp h
  refine lp_X4_daysToHear_4 ga1 ?_ _ _ _ _ ew8
  intro w89 M99 q9
  cases q9
  refine fl_iload2 (pc := 44) dX4_daysToHear_44 ?_
  refine fm_iret (pc := 45) rfl ?_ dX4_daysToHear_45
  cases h
  exact hq
/-! X4_agreeWith -/
def G_X4_agreeWith_2 : Nat → Nat → Int32 → fm_M → Option (((Int32) ⊕ Int32) × fm_M)
  | 0, _, _, _ => none
  | n + 1, a1, l2, M =>
    fm_bd (F_X4_reach M) (fun v1 M2 =>
    if v1 ≤ l2 then (
      some (.inl l2, M2)
    ) else (
      fm_bd (F_X4_tells l2 M2) (fun v3 M4 =>
      if v3 = 0 then (
        G_X4_agreeWith_2 n a1 (l2 + 1) M4
      ) else (
        fm_gd (fm_inb l2 24) (
        fm_gd (fm_inb (M4.1 65 (Int32.toNatClampNeg l2)) 10) (
        fm_gd (fm_inb l2 24) (
        if (M4.1 (a1 + 4) (Int32.toNatClampNeg (M4.1 65 (Int32.toNatClampNeg l2)))) = (M4.1 64 (Int32.toNatClampNeg l2)) then (
          G_X4_agreeWith_2 n a1 (l2 + 1) M4
        ) else (
          some (.inr 0, M4)
        ))))
      ))
    ))
def F_X4_agreeWith (a1 : Nat) (M : fm_M) : Option (Int32 × fm_M) :=
    fm_gd (fm_isSt a1) (
    fm_bs (G_X4_agreeWith_2 fm_fuel a1 0 M) (fun w8 M9 =>
      some (1, M9)) (fun r10 M => some (r10, M)))
theorem lp_X4_agreeWith_2 {d : Nat} {Q : Option Value → fm_M → Prop}  {a1 : Nat} (ga1 : fm_isSt a1 = true) {x : ((Int32) ⊕ Int32) × fm_M} (k1 : ∀ (v : Int32) (M2 : fm_M), x = (.inl v, M2) → fm_mw (d + 2) mX4_agreeWith Q 46 [some (.ref 63), some (.ref a1), some (.int v)] [] M2) (k2 : ∀ (r : Int32) (M2 : fm_M), x = (.inr r, M2) → Q (some (.int r)) M2) : ∀ (n : Nat) (l2 : Int32) (M : fm_M), G_X4_agreeWith_2 n a1 l2 M = some x → fm_mw (d + 2) mX4_agreeWith Q 2 [some (.ref 63), some (.ref a1), some (.int l2)] [] M := by
  intro n
  induction n with
  | zero => intro l2 M h; simp [G_X4_agreeWith_2] at h
  | succ n ih =>
    intro l2 M h
    rw [G_X4_agreeWith_2] at h
    refine fl_iload2 (pc := 2) dX4_agreeWith_2 ?_
    refine fl_aload0 (pc := 3) dX4_agreeWith_3 ?_
    obtain ⟨v1, M2, ev1, h⟩ := fm_bdp h
    refine fm_callV (pc := 4) mX4_reach [] _ rfl cvX4_reach ml_4_28 sh_63 rfl rfl (Nat.le_of_ble_eq_true rfl) (Nat.le_of_ble_eq_true rfl) dX4_agreeWith_4 ?_
    refine sp_X4_reach ev1 ?_
    refine fm_ret1 ?_
    refine fm_icmp_ge (pc := 7) 46 (by decide) dX4_agreeWith_7 (fun c7 => ?_) (fun c7 => ?_)
    · replace h := fm_itp c7 h
      refine fm_fgt [some (.ref 63), some (.ref a1), some (.int l2)] (by simp [fm_sub]) ?_
      cases h
      exact k1 _ _ rfl
    · replace h := fm_itn c7 h
      refine fl_aload0 (pc := 10) dX4_agreeWith_10 ?_
      refine fl_iload2 (pc := 11) dX4_agreeWith_11 ?_
      obtain ⟨v3, M4, ev3, h⟩ := fm_bdp h
      refine fm_callV (pc := 12) mX4_tells [_] _ rfl cvX4_tells ml_4_36 sh_63 rfl rfl (Nat.le_of_ble_eq_true rfl) (Nat.le_of_ble_eq_true rfl) dX4_agreeWith_12 ?_
      refine sp_X4_tells ev3 ?_
      refine fm_ret1 ?_
      refine fm_if_eq (pc := 15) 40 (by decide) dX4_agreeWith_15 (fun c15 => ?_) (fun c15 => ?_)
      · replace h := fm_itp c15 h
        refine fl_iinc2 (pc := 40) rfl 1 (by decide) (by decide) dX4_agreeWith_40 ?_
        refine fm_goto (pc := 43) 2 (by decide) dX4_agreeWith_43 ?_
        refine fm_fgt [some (.ref 63), some (.ref a1), some (.int (l2 + 1))] (by simp [fm_sub]) ?_
        exact ih _ _ h
      · replace h := fm_itn c15 h
        refine fl_aload1 (pc := 18) dX4_agreeWith_18 ?_
        refine fm_getr (pc := 19) lk_4_50 (shSt0 ga1) rfl dX4_agreeWith_19 ?_
        refine fl_aload0 (pc := 22) dX4_agreeWith_22 ?_
        refine fm_getr (pc := 23) lk_4_15 sh_63 rfl dX4_agreeWith_23 ?_
        refine fl_iload2 (pc := 26) dX4_agreeWith_26 ?_
        obtain ⟨g5, h⟩ := fm_gdp h
        refine fm_iald (pc := 27) sh_65 (fm_inb_ok g5) dX4_agreeWith_27 ?_
        obtain ⟨g6, h⟩ := fm_gdp h
        refine fm_iald (pc := 28) (shSt4 ga1) (fm_inb_ok g6) dX4_agreeWith_28 ?_
        refine fl_aload0 (pc := 29) dX4_agreeWith_29 ?_
        refine fm_getr (pc := 30) lk_4_9 sh_63 rfl dX4_agreeWith_30 ?_
        refine fl_iload2 (pc := 33) dX4_agreeWith_33 ?_
        obtain ⟨g7, h⟩ := fm_gdp h
        refine fm_iald (pc := 34) sh_64 (fm_inb_ok g7) dX4_agreeWith_34 ?_
        refine fm_icmp_eq (pc := 35) 40 (by decide) dX4_agreeWith_35 (fun c35 => ?_) (fun c35 => ?_)
        · replace h := fm_itp c35 h
          refine fl_iinc2 (pc := 40) rfl 1 (by decide) (by decide) dX4_agreeWith_40 ?_
          refine fm_goto (pc := 43) 2 (by decide) dX4_agreeWith_43 ?_
          refine fm_fgt [some (.ref 63), some (.ref a1), some (.int (l2 + 1))] (by simp [fm_sub]) ?_
          exact ih _ _ h
        · replace h := fm_itn c35 h
          refine fm_iconstv (pc := 38) 0 (by decide) dX4_agreeWith_38 ?_
          refine fm_zret (pc := 39) rfl (by decide) ?_ dX4_agreeWith_39
          cases h
          exact k2 _ _ rfl
theorem sp_X4_agreeWith {d : Nat} {a1 : Nat} {M : fm_M} {x : Int32 × fm_M} {Q : Option Value → fm_M → Prop} (h : F_X4_agreeWith a1 M = some x) (hq : Q (some (.int x.1)) x.2) : fm_ct (d + 2) mX4_agreeWith [.ref 63, .ref a1] M Q := by
  rw [F_X4_agreeWith] at h
  show fm_mw (d + 2) mX4_agreeWith Q 0 [some (.ref 63), some (.ref a1), none] [] M
  obtain ⟨ga1, h⟩ := fm_gdp h
  refine fm_iconstv (pc := 0) 0 (by decide) dX4_agreeWith_0 ?_
  refine fl_istore2 (pc := 1) rfl (by decide) dX4_agreeWith_1 ?_
  obtain ⟨w9, M9, ew8, hl9, hr9⟩ := fm_bsp h
  refine lp_X4_agreeWith_2 ga1 ?_ ?_ _ _ _ ew8
  · intro w8 M9 q9
    cases q9
    replace h := hl9 _ rfl
    refine fm_iconstv (pc := 46) 1 (by decide) dX4_agreeWith_46 ?_
    refine fm_zret (pc := 47) rfl (by decide) ?_ dX4_agreeWith_47
    cases h
    exact hq
  · intro r9 M9 q9
    cases q9
    replace h := hr9 _ rfl
    cases h
    exact hq
/-! X7_rustLaw -/
def F_X7_rustLaw (a0 : Nat) (a1 : Nat) (a2 : Int32) (M : fm_M) : Option (Int64 × fm_M) :=
    fm_gd (fm_isSt a0) (
    fm_gd (fm_isTd a1) (
    fm_bd (F_X3_has (a1 + 10) 1 M) (fun v1 M2 =>
    if v1 = 0 then (
      some ((-9223372036854775808), M2)
    ) else (
      fm_bd (F_X7_soundOf a0 a2 M2) (fun v3 M4 =>
      fm_gd (fm_inb a2 8) (
      fm_gd (fm_inb a2 8) (
      fm_bd (F_X3_name (a1 + 10) v3 0 (M4.1 (a0 + 2) (Int32.toNatClampNeg a2)) (M4.1 (a1 + 4) (Int32.toNatClampNeg a2)) 0 (M4.1 a0 1) (M4.1 a0 0) M4) (fun v7 M8 =>
      fm_bd (F_X3_valueOf (a1 + 10) 1 M8) (fun v9 M10 =>
      some (v9, M10))))))
    ))))
theorem sp_X7_rustLaw {d : Nat} {a0 : Nat} {a1 : Nat} {a2 : Int32} {M : fm_M} {x : Int64 × fm_M} {Q : Option Value → fm_M → Prop} (h : F_X7_rustLaw a0 a1 a2 M = some x) (hq : Q (some (.long x.1)) x.2) : fm_ct (d + 2) mX7_rustLaw [.ref a0, .ref a1, .int a2] M Q := by
  rw [F_X7_rustLaw] at h
  show fm_mw (d + 2) mX7_rustLaw Q 0 [some (.ref a0), some (.ref a1), some (.int a2)] [] M
  obtain ⟨ga0, h⟩ := fm_gdp h
  obtain ⟨ga1, h⟩ := fm_gdp h
  refine fl_aload1 (pc := 0) dX7_rustLaw_0 ?_
  refine fm_getr (pc := 1) lk_7_102 (shTd0 ga1) rfl dX7_rustLaw_1 ?_
  refine fm_iconstv (pc := 4) 1 (by decide) dX7_rustLaw_4 ?_
  obtain ⟨v1, M2, ev1, h⟩ := fm_bdp h
  refine fm_callV (pc := 5) mX3_has [_] _ rfl cvX3_has ml_7_106 (shTd10 ga1) rfl rfl (Nat.le_of_ble_eq_true rfl) (Nat.le_of_ble_eq_true rfl) dX7_rustLaw_5 ?_
  refine sp_X3_has ev1 ?_
  refine fm_ret1 ?_
  refine fm_if_ne (pc := 8) 15 (by decide) dX7_rustLaw_8 (fun c8 => ?_) (fun c8 => ?_)
  · replace h := fm_itn c8 h
    refine fl_aload1 (pc := 15) dX7_rustLaw_15 ?_
    refine fm_getr (pc := 16) lk_7_102 (shTd0 ga1) rfl dX7_rustLaw_16 ?_
    refine fl_aload0 (pc := 19) dX7_rustLaw_19 ?_
    refine fl_iload2 (pc := 20) dX7_rustLaw_20 ?_
    obtain ⟨v3, M4, ev3, h⟩ := fm_bdp h
    refine fm_callV (pc := 21) mX7_soundOf [_] _ rfl cvX7_soundOf ml_7_92 (shSt0 ga0) rfl rfl (Nat.le_of_ble_eq_true rfl) (Nat.le_of_ble_eq_true rfl) dX7_rustLaw_21 ?_
    refine sp_X7_soundOf ev3 ?_
    refine fm_ret1 ?_
    refine fm_iconstv (pc := 24) 0 (by decide) dX7_rustLaw_24 ?_
    refine fl_aload0 (pc := 25) dX7_rustLaw_25 ?_
    refine fm_getr (pc := 26) lk_7_26 (shSt0 ga0) rfl dX7_rustLaw_26 ?_
    refine fl_iload2 (pc := 29) dX7_rustLaw_29 ?_
    obtain ⟨g5, h⟩ := fm_gdp h
    refine fm_iald (pc := 30) (shSt2 ga0) (fm_inb_ok g5) dX7_rustLaw_30 ?_
    refine fl_aload1 (pc := 31) dX7_rustLaw_31 ?_
    refine fm_getr (pc := 32) lk_7_113 (shTd0 ga1) rfl dX7_rustLaw_32 ?_
    refine fl_iload2 (pc := 35) dX7_rustLaw_35 ?_
    obtain ⟨g6, h⟩ := fm_gdp h
    refine fm_iald (pc := 36) (shTd4 ga1) (fm_inb_ok g6) dX7_rustLaw_36 ?_
    refine fm_iconstv (pc := 37) 0 (by decide) dX7_rustLaw_37 ?_
    refine fl_aload0 (pc := 38) dX7_rustLaw_38 ?_
    refine fm_geti (pc := 39) lk_7_50 (shSt0 ga0) rfl dX7_rustLaw_39 ?_
    refine fl_aload0 (pc := 42) dX7_rustLaw_42 ?_
    refine fm_geti (pc := 43) lk_7_41 (shSt0 ga0) rfl dX7_rustLaw_43 ?_
    obtain ⟨v7, M8, ev7, h⟩ := fm_bdp h
    refine fm_callV (pc := 46) mX3_name [_, _, _, _, _, _, _] _ rfl cvX3_name ml_7_116 (shTd10 ga1) rfl rfl (Nat.le_of_ble_eq_true rfl) (Nat.le_of_ble_eq_true rfl) dX7_rustLaw_46 ?_
    refine sp_X3_name ev7 ?_
    refine fm_ret0 ?_
    refine fl_aload1 (pc := 49) dX7_rustLaw_49 ?_
    refine fm_getr (pc := 50) lk_7_102 (shTd0 ga1) rfl dX7_rustLaw_50 ?_
    refine fm_iconstv (pc := 53) 1 (by decide) dX7_rustLaw_53 ?_
    obtain ⟨v9, M10, ev9, h⟩ := fm_bdp h
    refine fm_callV (pc := 54) mX3_valueOf [_] _ rfl cvX3_valueOf ml_7_120 (shTd10 ga1) rfl rfl (Nat.le_of_ble_eq_true rfl) (Nat.le_of_ble_eq_true rfl) dX7_rustLaw_54 ?_
    refine sp_X3_valueOf ev9 ?_
    refine fm_ret1 ?_
    refine fm_lret (pc := 57) rfl ?_ dX7_rustLaw_57
    cases h
    exact hq
  · replace h := fm_itp c8 h
    refine fm_ldc2 (pc := 11) kc_7_111 dX7_rustLaw_11 ?_
    refine fm_lret (pc := 14) rfl ?_ dX7_rustLaw_14
    cases h
    exact hq
/-! X7_rustOf -/
def F_X7_rustOf (a0 : Nat) (a1 : Nat) (a2 : Int32) (M : fm_M) : Option (Int32 × fm_M) :=
    fm_gd (fm_isSt a0) (
    fm_gd (fm_isTd a1) (
    fm_bd (F_X7_rustLaw a0 a1 a2 M) (fun v1 M2 =>
    if (lg_cmp v1 (-9223372036854775808)) = 0 then (
      some ((M2.1 a1 16), M2)
    ) else (
      fm_bd (F_X9_within v1 0 9 M2) (fun v3 M4 =>
      some (v3, M4))
    ))))
theorem sp_X7_rustOf {d : Nat} {a0 : Nat} {a1 : Nat} {a2 : Int32} {M : fm_M} {x : Int32 × fm_M} {Q : Option Value → fm_M → Prop} (h : F_X7_rustOf a0 a1 a2 M = some x) (hq : Q (some (.int x.1)) x.2) : fm_ct (d + 3) mX7_rustOf [.ref a0, .ref a1, .int a2] M Q := by
  rw [F_X7_rustOf] at h
  show fm_mw (d + 3) mX7_rustOf Q 0 [some (.ref a0), some (.ref a1), some (.int a2), none, none] [] M
  obtain ⟨ga0, h⟩ := fm_gdp h
  obtain ⟨ga1, h⟩ := fm_gdp h
  refine fl_aload0 (pc := 0) dX7_rustOf_0 ?_
  refine fl_aload1 (pc := 1) dX7_rustOf_1 ?_
  refine fl_iload2 (pc := 2) dX7_rustOf_2 ?_
  obtain ⟨v1, M2, ev1, h⟩ := fm_bdp h
  refine fm_callV (pc := 3) mX7_rustLaw [_, _] _ rfl cvX7_rustLaw ml_7_177 (shSt0 ga0) rfl rfl (Nat.le_of_ble_eq_true rfl) (Nat.le_of_ble_eq_true rfl) dX7_rustOf_3 ?_
  refine sp_X7_rustLaw ev1 ?_
  refine fm_ret1 ?_
  refine fl_lstore3 (pc := 6) rfl (by decide) dX7_rustOf_6 ?_
  refine fl_lload3 (pc := 7) dX7_rustOf_7 ?_
  refine fm_ldc2 (pc := 8) kc_7_111 dX7_rustOf_8 ?_
  refine fm_lcmp (pc := 11) dX7_rustOf_11 ?_
  refine fm_if_ne (pc := 12) 22 (by decide) dX7_rustOf_12 (fun c12 => ?_) (fun c12 => ?_)
  · replace h := fm_itn c12 h
    refine fl_lload3 (pc := 22) dX7_rustOf_22 ?_
    refine fm_iconstv (pc := 23) 0 (by decide) dX7_rustOf_23 ?_
    refine fm_bipushv (pc := 24) 9 (by decide) dX7_rustOf_24 ?_
    obtain ⟨v3, M4, ev3, h⟩ := fm_bdp h
    refine fm_callS (pc := 26) mX9_within [_, _, _] _ rfl csX9_within ml_7_131 rfl (Nat.le_of_ble_eq_true rfl) (Nat.le_of_ble_eq_true rfl) dX7_rustOf_26 ?_
    refine sp_X9_within ev3 ?_
    refine fm_ret1 ?_
    refine fm_iret (pc := 29) rfl ?_ dX7_rustOf_29
    cases h
    exact hq
  · replace h := fm_itp c12 h
    refine fl_aload1 (pc := 15) dX7_rustOf_15 ?_
    refine fm_geti (pc := 16) lk_7_181 (shTd0 ga1) rfl dX7_rustOf_16 ?_
    refine fm_goto (pc := 19) 29 (by decide) dX7_rustOf_19 ?_
    refine fm_iret (pc := 29) rfl ?_ dX7_rustOf_29
    cases h
    exact hq
/-! X7_passDay -/
def G_X7_passDay_2 : Nat → Nat → Nat → Int32 → fm_M → Option ((Int32) × fm_M)
  | 0, _, _, _, _ => none
  | n + 1, a0, a1, l2, M =>
    if (M.1 a1 7) ≤ l2 then (
      some (l2, M)
    ) else (
      fm_gd (fm_inb l2 10) (
      if (M.1 (a0 + 3) (Int32.toNatClampNeg l2)) = (M.1 a0 0) then (
        fm_gd (fm_inb l2 10) (
        if (M.1 (a0 + 4) (Int32.toNatClampNeg l2)) = (-1) then (
          fm_gd (fm_inb l2 10) (
          fm_bd (F_X7_humOfAll a0 a1 (M.1 (a1 + 7) (Int32.toNatClampNeg l2)) M) (fun v4 M5 =>
          fm_gd (fm_inb l2 10) (
          fm_lt (fm_up M5 (a0 + 5) (Int32.toNatClampNeg l2) v4) (fun M7 =>
          fm_gd (fm_inb l2 10) (
          fm_gd (fm_inb l2 10) (
          fm_bd (F_X7_passes a0 a1 (M7.1 (a1 + 7) (Int32.toNatClampNeg l2)) (M7.1 (a0 + 5) (Int32.toNatClampNeg l2)) M7) (fun v10 M11 =>
          if v10 = 0 then (
            fm_gd (fm_inb l2 10) (
            fm_lt (fm_up M11 (a0 + 4) (Int32.toNatClampNeg l2) 0) (fun M13 =>
            G_X7_passDay_2 n a0 a1 (l2 + 1) M13))
          ) else (
            fm_gd (fm_inb l2 10) (
            fm_lt (fm_up M11 (a0 + 4) (Int32.toNatClampNeg l2) 1) (fun M15 =>
            G_X7_passDay_2 n a0 a1 (l2 + 1) M15))
          ))))))))
        ) else (
          G_X7_passDay_2 n a0 a1 (l2 + 1) M
        ))
      ) else (
        G_X7_passDay_2 n a0 a1 (l2 + 1) M
      ))
    )
def G_X7_passDay_89 : Nat → Nat → Nat → Int32 → fm_M → Option ((Int32) × fm_M)
  | 0, _, _, _, _ => none
  | n + 1, a0, a1, l2, M =>
    if (M.1 a1 0) ≤ l2 then (
      some (l2, M)
    ) else (
      if (M.1 a0 7) = 0 then (
        some (l2, M)
      ) else (
        fm_gd (fm_inb l2 8) (
        fm_bd (F_X7_rustOf a0 a1 l2 M) (fun v19 M20 =>
        fm_gd (fm_inb l2 8) (
        fm_lt (fm_up M20 (a0 + 1) (Int32.toNatClampNeg l2) (i_max 100 ((M.1 (a0 + 1) (Int32.toNatClampNeg l2)) - v19))) (fun M22 =>
        G_X7_passDay_89 n a0 a1 (l2 + 1) M22))))
      )
    )
def F_X7_passDay (a0 : Nat) (a1 : Nat) (M : fm_M) : Option (Unit × fm_M) :=
    fm_gd (fm_isSt a0) (
    fm_gd (fm_isTd a1) (
    fm_bd (G_X7_passDay_2 fm_fuel a0 a1 0 M) (fun w16 M17 =>
      fm_bd (G_X7_passDay_89 fm_fuel a0 a1 0 M17) (fun w23 M24 =>
        fm_lt (fm_up M24 a0 4 0) (fun M25 =>
        fm_lt (fm_up M25 a0 0 ((M25.1 a0 0) + 1)) (fun M26 =>
        some ((), M26)))))))
theorem lp_X7_passDay_2 {d : Nat} {Q : Option Value → fm_M → Prop}  {a0 : Nat} {a1 : Nat} (ga0 : fm_isSt a0 = true) (ga1 : fm_isTd a1 = true) {x : (Int32) × fm_M} (k1 : ∀ (v : Int32) (M2 : fm_M), x = (v, M2) → fm_mw (d + 5) mX7_passDay Q 87 [some (.ref a0), some (.ref a1), some (.int v)] [] M2) : ∀ (n : Nat) (l2 : Int32) (M : fm_M), G_X7_passDay_2 n a0 a1 l2 M = some x → fm_mw (d + 5) mX7_passDay Q 2 [some (.ref a0), some (.ref a1), some (.int l2)] [] M := by
  intro n
  induction n with
  | zero => intro l2 M h; simp [G_X7_passDay_2] at h
  | succ n ih =>
    intro l2 M h
    rw [G_X7_passDay_2] at h
    refine fl_iload2 (pc := 2) dX7_passDay_2 ?_
    refine fl_aload1 (pc := 3) dX7_passDay_3 ?_
    refine fm_geti (pc := 4) lk_7_168 (shTd0 ga1) rfl dX7_passDay_4 ?_
    refine fm_icmp_ge (pc := 7) 87 (by decide) dX7_passDay_7 (fun c7 => ?_) (fun c7 => ?_)
    · replace h := fm_itp c7 h
      refine fm_fgt [some (.ref a0), some (.ref a1), some (.int l2)] (by simp [fm_sub]) ?_
      cases h
      exact k1 _ _ rfl
    · replace h := fm_itn c7 h
      refine fl_aload0 (pc := 10) dX7_passDay_10 ?_
      refine fm_getr (pc := 11) lk_7_29 (shSt0 ga0) rfl dX7_passDay_11 ?_
      refine fl_iload2 (pc := 14) dX7_passDay_14 ?_
      obtain ⟨g1, h⟩ := fm_gdp h
      refine fm_iald (pc := 15) (shSt3 ga0) (fm_inb_ok g1) dX7_passDay_15 ?_
      refine fl_aload0 (pc := 16) dX7_passDay_16 ?_
      refine fm_geti (pc := 17) lk_7_41 (shSt0 ga0) rfl dX7_passDay_17 ?_
      refine fm_icmp_ne (pc := 20) 81 (by decide) dX7_passDay_20 (fun c20 => ?_) (fun c20 => ?_)
      · replace h := fm_itn c20 h
        refine fl_iinc2 (pc := 81) rfl 1 (by decide) (by decide) dX7_passDay_81 ?_
        refine fm_goto (pc := 84) 2 (by decide) dX7_passDay_84 ?_
        refine fm_fgt [some (.ref a0), some (.ref a1), some (.int (l2 + 1))] (by simp [fm_sub]) ?_
        exact ih _ _ h
      · replace h := fm_itp c20 h
        refine fl_aload0 (pc := 23) dX7_passDay_23 ?_
        refine fm_getr (pc := 24) lk_7_32 (shSt0 ga0) rfl dX7_passDay_24 ?_
        refine fl_iload2 (pc := 27) dX7_passDay_27 ?_
        obtain ⟨g2, h⟩ := fm_gdp h
        refine fm_iald (pc := 28) (shSt4 ga0) (fm_inb_ok g2) dX7_passDay_28 ?_
        refine fm_iconstv (pc := 29) (-1) (by decide) dX7_passDay_29 ?_
        refine fm_icmp_ne (pc := 30) 81 (by decide) dX7_passDay_30 (fun c30 => ?_) (fun c30 => ?_)
        · replace h := fm_itn c30 h
          refine fl_iinc2 (pc := 81) rfl 1 (by decide) (by decide) dX7_passDay_81 ?_
          refine fm_goto (pc := 84) 2 (by decide) dX7_passDay_84 ?_
          refine fm_fgt [some (.ref a0), some (.ref a1), some (.int (l2 + 1))] (by simp [fm_sub]) ?_
          exact ih _ _ h
        · replace h := fm_itp c30 h
          refine fl_aload0 (pc := 33) dX7_passDay_33 ?_
          refine fm_getr (pc := 34) lk_7_35 (shSt0 ga0) rfl dX7_passDay_34 ?_
          refine fl_iload2 (pc := 37) dX7_passDay_37 ?_
          refine fl_aload0 (pc := 38) dX7_passDay_38 ?_
          refine fl_aload1 (pc := 39) dX7_passDay_39 ?_
          refine fl_aload1 (pc := 40) dX7_passDay_40 ?_
          refine fm_getr (pc := 41) lk_7_171 (shTd0 ga1) rfl dX7_passDay_41 ?_
          refine fl_iload2 (pc := 44) dX7_passDay_44 ?_
          obtain ⟨g3, h⟩ := fm_gdp h
          refine fm_iald (pc := 45) (shTd7 ga1) (fm_inb_ok g3) dX7_passDay_45 ?_
          obtain ⟨v4, M5, ev4, h⟩ := fm_bdp h
          refine fm_callV (pc := 46) mX7_humOfAll [_, _] _ rfl cvX7_humOfAll ml_7_151 (shSt0 ga0) rfl rfl (Nat.le_of_ble_eq_true rfl) (Nat.le_of_ble_eq_true rfl) dX7_passDay_46 ?_
          refine sp_X7_humOfAll ev4 ?_
          refine fm_ret1 ?_
          obtain ⟨g6, h⟩ := fm_gdp h
          refine fm_iast (pc := 49) (shSt5 ga0) (fm_inb_ok g6) dX7_passDay_49 ?_
          obtain ⟨M7, eM7, h⟩ := fm_ltp h
          refine fm_cgm eM7 ?_
          refine fl_aload0 (pc := 50) dX7_passDay_50 ?_
          refine fm_getr (pc := 51) lk_7_32 (shSt0 ga0) rfl dX7_passDay_51 ?_
          refine fl_iload2 (pc := 54) dX7_passDay_54 ?_
          refine fl_aload0 (pc := 55) dX7_passDay_55 ?_
          refine fl_aload1 (pc := 56) dX7_passDay_56 ?_
          refine fl_aload1 (pc := 57) dX7_passDay_57 ?_
          refine fm_getr (pc := 58) lk_7_171 (shTd0 ga1) rfl dX7_passDay_58 ?_
          refine fl_iload2 (pc := 61) dX7_passDay_61 ?_
          obtain ⟨g8, h⟩ := fm_gdp h
          refine fm_iald (pc := 62) (shTd7 ga1) (fm_inb_ok g8) dX7_passDay_62 ?_
          refine fl_aload0 (pc := 63) dX7_passDay_63 ?_
          refine fm_getr (pc := 64) lk_7_35 (shSt0 ga0) rfl dX7_passDay_64 ?_
          refine fl_iload2 (pc := 67) dX7_passDay_67 ?_
          obtain ⟨g9, h⟩ := fm_gdp h
          refine fm_iald (pc := 68) (shSt5 ga0) (fm_inb_ok g9) dX7_passDay_68 ?_
          obtain ⟨v10, M11, ev10, h⟩ := fm_bdp h
          refine fm_callV (pc := 69) mX7_passes [_, _, _] _ rfl cvX7_passes ml_7_155 (shSt0 ga0) rfl rfl (Nat.le_of_ble_eq_true rfl) (Nat.le_of_ble_eq_true rfl) dX7_passDay_69 ?_
          refine sp_X7_passes ev10 ?_
          refine fm_ret1 ?_
          refine fm_if_eq (pc := 72) 79 (by decide) dX7_passDay_72 (fun c72 => ?_) (fun c72 => ?_)
          · replace h := fm_itp c72 h
            refine fm_iconstv (pc := 79) 0 (by decide) dX7_passDay_79 ?_
            obtain ⟨g12, h⟩ := fm_gdp h
            refine fm_iast (pc := 80) (shSt4 ga0) (fm_inb_ok g12) dX7_passDay_80 ?_
            obtain ⟨M13, eM13, h⟩ := fm_ltp h
            refine fm_cgm eM13 ?_
            refine fl_iinc2 (pc := 81) rfl 1 (by decide) (by decide) dX7_passDay_81 ?_
            refine fm_goto (pc := 84) 2 (by decide) dX7_passDay_84 ?_
            refine fm_fgt [some (.ref a0), some (.ref a1), some (.int (l2 + 1))] (by simp [fm_sub]) ?_
            exact ih _ _ h
          · replace h := fm_itn c72 h
            refine fm_iconstv (pc := 75) 1 (by decide) dX7_passDay_75 ?_
            refine fm_goto (pc := 76) 80 (by decide) dX7_passDay_76 ?_
            obtain ⟨g14, h⟩ := fm_gdp h
            refine fm_iast (pc := 80) (shSt4 ga0) (fm_inb_ok g14) dX7_passDay_80 ?_
            obtain ⟨M15, eM15, h⟩ := fm_ltp h
            refine fm_cgm eM15 ?_
            refine fl_iinc2 (pc := 81) rfl 1 (by decide) (by decide) dX7_passDay_81 ?_
            refine fm_goto (pc := 84) 2 (by decide) dX7_passDay_84 ?_
            refine fm_fgt [some (.ref a0), some (.ref a1), some (.int (l2 + 1))] (by simp [fm_sub]) ?_
            exact ih _ _ h
theorem lp_X7_passDay_89 {d : Nat} {Q : Option Value → fm_M → Prop}  {a0 : Nat} {a1 : Nat} (ga0 : fm_isSt a0 = true) (ga1 : fm_isTd a1 = true) {x : (Int32) × fm_M} (k1 : ∀ (v : Int32) (M2 : fm_M), x = (v, M2) → fm_mw (d + 5) mX7_passDay Q 134 [some (.ref a0), some (.ref a1), some (.int v)] [] M2) : ∀ (n : Nat) (l2 : Int32) (M : fm_M), G_X7_passDay_89 n a0 a1 l2 M = some x → fm_mw (d + 5) mX7_passDay Q 89 [some (.ref a0), some (.ref a1), some (.int l2)] [] M := by
  intro n
  induction n with
  | zero => intro l2 M h; simp [G_X7_passDay_89] at h
  | succ n ih =>
    intro l2 M h
    rw [G_X7_passDay_89] at h
    refine fl_iload2 (pc := 89) dX7_passDay_89 ?_
    refine fl_aload1 (pc := 90) dX7_passDay_90 ?_
    refine fm_geti (pc := 91) lk_7_138 (shTd0 ga1) rfl dX7_passDay_91 ?_
    refine fm_icmp_ge (pc := 94) 134 (by decide) dX7_passDay_94 (fun c94 => ?_) (fun c94 => ?_)
    · replace h := fm_itp c94 h
      refine fm_fgt [some (.ref a0), some (.ref a1), some (.int l2)] (by simp [fm_sub]) ?_
      cases h
      exact k1 _ _ rfl
    · replace h := fm_itn c94 h
      refine fl_aload0 (pc := 97) dX7_passDay_97 ?_
      refine fm_geti (pc := 98) lk_7_18 (shSt0 ga0) rfl dX7_passDay_98 ?_
      refine fm_if_eq (pc := 101) 134 (by decide) dX7_passDay_101 (fun c101 => ?_) (fun c101 => ?_)
      · replace h := fm_itp c101 h
        refine fm_fgt [some (.ref a0), some (.ref a1), some (.int l2)] (by simp [fm_sub]) ?_
        cases h
        exact k1 _ _ rfl
      · replace h := fm_itn c101 h
        refine fl_aload0 (pc := 104) dX7_passDay_104 ?_
        refine fm_getr (pc := 105) lk_7_22 (shSt0 ga0) rfl dX7_passDay_105 ?_
        refine fl_iload2 (pc := 108) dX7_passDay_108 ?_
        refine fm_bipushv (pc := 109) 100 (by decide) dX7_passDay_109 ?_
        refine fl_aload0 (pc := 111) dX7_passDay_111 ?_
        refine fm_getr (pc := 112) lk_7_22 (shSt0 ga0) rfl dX7_passDay_112 ?_
        refine fl_iload2 (pc := 115) dX7_passDay_115 ?_
        obtain ⟨g18, h⟩ := fm_gdp h
        refine fm_iald (pc := 116) (shSt1 ga0) (fm_inb_ok g18) dX7_passDay_116 ?_
        refine fl_aload0 (pc := 117) dX7_passDay_117 ?_
        refine fl_aload1 (pc := 118) dX7_passDay_118 ?_
        refine fl_iload2 (pc := 119) dX7_passDay_119 ?_
        obtain ⟨v19, M20, ev19, h⟩ := fm_bdp h
        refine fm_callV (pc := 120) mX7_rustOf [_, _] _ rfl cvX7_rustOf ml_7_174 (shSt0 ga0) rfl rfl (Nat.le_of_ble_eq_true rfl) (Nat.le_of_ble_eq_true rfl) dX7_passDay_120 ?_
        refine sp_X7_rustOf ev19 ?_
        refine fm_ret1 ?_
        refine fm_isub (pc := 123) dX7_passDay_123 ?_
        refine fq_mmax (pc := 124) ml_7_89 (Nat.le_of_ble_eq_true rfl) dX7_passDay_124 ?_
        obtain ⟨g21, h⟩ := fm_gdp h
        refine fm_iast (pc := 127) (shSt1 ga0) (fm_inb_ok g21) dX7_passDay_127 ?_
        obtain ⟨M22, eM22, h⟩ := fm_ltp h
        refine fm_cgm eM22 ?_
        refine fl_iinc2 (pc := 128) rfl 1 (by decide) (by decide) dX7_passDay_128 ?_
        refine fm_goto (pc := 131) 89 (by decide) dX7_passDay_131 ?_
        refine fm_fgt [some (.ref a0), some (.ref a1), some (.int (l2 + 1))] (by simp [fm_sub]) ?_
        exact ih _ _ h
theorem sp_X7_passDay {d : Nat} {a0 : Nat} {a1 : Nat} {M : fm_M} {x : Unit × fm_M} {Q : Option Value → fm_M → Prop} (h : F_X7_passDay a0 a1 M = some x) (hq : Q none x.2) : fm_ct (d + 5) mX7_passDay [.ref a0, .ref a1] M Q := by
  rw [F_X7_passDay] at h
  show fm_mw (d + 5) mX7_passDay Q 0 [some (.ref a0), some (.ref a1), none] [] M
  obtain ⟨ga0, h⟩ := fm_gdp h
  obtain ⟨ga1, h⟩ := fm_gdp h
  refine fm_iconstv (pc := 0) 0 (by decide) dX7_passDay_0 ?_
  refine fl_istore2 (pc := 1) rfl (by decide) dX7_passDay_1 ?_
  obtain ⟨w16, M17, ew16, h⟩ := fm_bdp h
  refine lp_X7_passDay_2 ga0 ga1 ?_ _ _ _ ew16
  intro w169 M179 q9
  cases q9
  refine fm_iconstv (pc := 87) 0 (by decide) dX7_passDay_87 ?_
  refine fl_istore2 (pc := 88) rfl (by decide) dX7_passDay_88 ?_
  obtain ⟨w23, M24, ew23, h⟩ := fm_bdp h
  refine lp_X7_passDay_89 ga0 ga1 ?_ _ _ _ ew23
  intro w239 M249 q9
  cases q9
  refine fl_aload0 (pc := 134) dX7_passDay_134 ?_
  refine fm_iconstv (pc := 135) 0 (by decide) dX7_passDay_135 ?_
  refine fm_puti (pc := 136) lp_7_57 (shSt0 ga0) rfl dX7_passDay_136 ?_
  obtain ⟨M25, eM25, h⟩ := fm_ltp h
  refine fm_cgm eM25 ?_
  refine fl_aload0 (pc := 139) dX7_passDay_139 ?_
  refine fm_dup (pc := 140) rfl dX7_passDay_140 ?_
  refine fm_geti (pc := 141) lk_7_41 (shSt0 ga0) rfl dX7_passDay_141 ?_
  refine fm_iconstv (pc := 144) 1 (by decide) dX7_passDay_144 ?_
  refine fm_iadd (pc := 145) dX7_passDay_145 ?_
  refine fm_puti (pc := 146) lp_7_41 (shSt0 ga0) rfl dX7_passDay_146 ?_
  obtain ⟨M26, eM26, h⟩ := fm_ltp h
  refine fm_cgm eM26 ?_
  refine fm_vret (pc := 149) rfl ?_ dX7_passDay_149
  cases h
  exact hq
