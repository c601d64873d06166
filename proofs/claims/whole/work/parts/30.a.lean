/-! X9_isNote -/
def F_X9_isNote (a0 : Int32) (M : fm_M) : Option (Int32 × fm_M) :=
    if a0 < 100 then (
      some (0, M)
    ) else (
      if 999 < a0 then (
        some (0, M)
      ) else (
        some (1, M)
      )
    )
theorem sp_X9_isNote {d : Nat} {a0 : Int32} {M : fm_M} {x : Int32 × fm_M} {Q : Option Value → fm_M → Prop} (h : F_X9_isNote a0 M = some x) (hq : Q (some (.int x.1)) x.2) : fm_ct d mX9_isNote [.int a0] M Q := by
  rw [F_X9_isNote] at h
  show fm_mw d mX9_isNote Q 0 [some (.int a0)] [] M
  refine fl_iload0 (pc := 0) dX9_isNote_0 ?_
  refine fm_bipushv (pc := 1) 100 (by decide) dX9_isNote_1 ?_
  refine fm_icmp_lt (pc := 3) 17 (by decide) dX9_isNote_3 (fun c3 => ?_) (fun c3 => ?_)
  · replace h := fm_itp c3 h
    refine fm_iconstv (pc := 17) 0 (by decide) dX9_isNote_17 ?_
    refine fm_zret (pc := 18) rfl (by decide) ?_ dX9_isNote_18
    cases h
    exact hq
  · replace h := fm_itn c3 h
    refine fl_iload0 (pc := 6) dX9_isNote_6 ?_
    refine fm_sipushv (pc := 7) 999 (by decide) dX9_isNote_7 ?_
    refine fm_icmp_gt (pc := 10) 17 (by decide) dX9_isNote_10 (fun c10 => ?_) (fun c10 => ?_)
    · replace h := fm_itp c10 h
      refine fm_iconstv (pc := 17) 0 (by decide) dX9_isNote_17 ?_
      refine fm_zret (pc := 18) rfl (by decide) ?_ dX9_isNote_18
      cases h
      exact hq
    · replace h := fm_itn c10 h
      refine fm_iconstv (pc := 13) 1 (by decide) dX9_isNote_13 ?_
      refine fm_goto (pc := 14) 18 (by decide) dX9_isNote_14 ?_
      refine fm_zret (pc := 18) rfl (by decide) ?_ dX9_isNote_18
      cases h
      exact hq
/-! X9_bitOf -/
def F_X9_bitOf (a0 : Int32) (a1 : Int32) (M : fm_M) : Option (Int32 × fm_M) :=
    some (((a0 >>> (a1 &&& 31)) &&& 1), M)
theorem sp_X9_bitOf {d : Nat} {a0 : Int32} {a1 : Int32} {M : fm_M} {x : Int32 × fm_M} {Q : Option Value → fm_M → Prop} (h : F_X9_bitOf a0 a1 M = some x) (hq : Q (some (.int x.1)) x.2) : fm_ct d mX9_bitOf [.int a0, .int a1] M Q := by
  rw [F_X9_bitOf] at h
  show fm_mw d mX9_bitOf Q 0 [some (.int a0), some (.int a1)] [] M
  refine fl_iload0 (pc := 0) dX9_bitOf_0 ?_
  refine fl_iload1 (pc := 1) dX9_bitOf_1 ?_
  refine fm_ishr (pc := 2) dX9_bitOf_2 ?_
  refine fm_iconstv (pc := 3) 1 (by decide) dX9_bitOf_3 ?_
  refine fm_iand (pc := 4) dX9_bitOf_4 ?_
  refine fm_iret (pc := 5) rfl ?_ dX9_bitOf_5
  cases h
  exact hq
/-! X9_within -/
def F_X9_within (a0 : Int64) (a2 : Int32) (a3 : Int32) (M : fm_M) : Option (Int32 × fm_M) :=
    some ((Int64.toInt32 (l_max (Int32.toInt64 a2) (l_min (Int32.toInt64 a3) a0))), M)
theorem sp_X9_within {d : Nat} {a0 : Int64} {a2 : Int32} {a3 : Int32} {M : fm_M} {x : Int32 × fm_M} {Q : Option Value → fm_M → Prop} (h : F_X9_within a0 a2 a3 M = some x) (hq : Q (some (.int x.1)) x.2) : fm_ct (d + 1) mX9_within [.long a0, .int a2, .int a3] M Q := by
  rw [F_X9_within] at h
  show fm_mw (d + 1) mX9_within Q 0 [some (.long a0), none, some (.int a2), some (.int a3)] [] M
  refine fl_iload2 (pc := 0) dX9_within_0 ?_
  refine fm_i2l (pc := 1) dX9_within_1 ?_
  refine fl_iload3 (pc := 2) dX9_within_2 ?_
  refine fm_i2l (pc := 3) dX9_within_3 ?_
  refine fl_lload0 (pc := 4) dX9_within_4 ?_
  refine fq_mminl (pc := 5) ml_9_371 (Nat.le_of_ble_eq_true rfl) dX9_within_5 ?_
  refine fq_mmaxl (pc := 8) ml_9_375 (Nat.le_of_ble_eq_true rfl) dX9_within_8 ?_
  refine fm_l2i (pc := 11) dX9_within_11 ?_
  refine fm_iret (pc := 12) rfl ?_ dX9_within_12
  cases h
  exact hq
/-! X7_beatsOf -/
def F_X7_beatsOf (a0 : Int32) (a1 : Int32) (M : fm_M) : Option (Int32 × fm_M) :=
    fm_lt ((i_min (i_abs (a0 - a1)) (i_abs ((2 * a0) - a1)))) (fun x1 =>
    some ((i_min x1 (i_abs (a0 - (2 * a1)))), M))
theorem sp_X7_beatsOf {d : Nat} {a0 : Int32} {a1 : Int32} {M : fm_M} {x : Int32 × fm_M} {Q : Option Value → fm_M → Prop} (h : F_X7_beatsOf a0 a1 M = some x) (hq : Q (some (.int x.1)) x.2) : fm_ct (d + 1) mX7_beatsOf [.int a0, .int a1] M Q := by
  rw [F_X7_beatsOf] at h
  show fm_mw (d + 1) mX7_beatsOf Q 0 [some (.int a0), some (.int a1), none] [] M
  refine fl_iload0 (pc := 0) dX7_beatsOf_0 ?_
  refine fl_iload1 (pc := 1) dX7_beatsOf_1 ?_
  refine fm_isub (pc := 2) dX7_beatsOf_2 ?_
  refine fq_mabs (pc := 3) ml_7_80 (Nat.le_of_ble_eq_true rfl) dX7_beatsOf_3 ?_
  refine fm_iconstv (pc := 6) 2 (by decide) dX7_beatsOf_6 ?_
  refine fl_iload0 (pc := 7) dX7_beatsOf_7 ?_
  refine fm_imul (pc := 8) dX7_beatsOf_8 ?_
  refine fl_iload1 (pc := 9) dX7_beatsOf_9 ?_
  refine fm_isub (pc := 10) dX7_beatsOf_10 ?_
  refine fq_mabs (pc := 11) ml_7_80 (Nat.le_of_ble_eq_true rfl) dX7_beatsOf_11 ?_
  refine fq_mmin (pc := 14) ml_7_85 (Nat.le_of_ble_eq_true rfl) dX7_beatsOf_14 ?_
  obtain ⟨x1, ex1, h⟩ := fm_ltp h
  refine fm_cgi ex1 ?_
  refine fl_istore2 (pc := 17) rfl (by decide) dX7_beatsOf_17 ?_
  refine fl_iload2 (pc := 18) dX7_beatsOf_18 ?_
  refine fl_iload0 (pc := 19) dX7_beatsOf_19 ?_
  refine fm_iconstv (pc := 20) 2 (by decide) dX7_beatsOf_20 ?_
  refine fl_iload1 (pc := 21) dX7_beatsOf_21 ?_
  refine fm_imul (pc := 22) dX7_beatsOf_22 ?_
  refine fm_isub (pc := 23) dX7_beatsOf_23 ?_
  refine fq_mabs (pc := 24) ml_7_80 (Nat.le_of_ble_eq_true rfl) dX7_beatsOf_24 ?_
  refine fq_mmin (pc := 27) ml_7_85 (Nat.le_of_ble_eq_true rfl) dX7_beatsOf_27 ?_
  refine fm_iret (pc := 30) rfl ?_ dX7_beatsOf_30
  cases h
  exact hq
/-! X7_soundOf -/
def F_X7_soundOf (a0 : Nat) (a1 : Int32) (M : fm_M) : Option (Int32 × fm_M) :=
    fm_gd (fm_isSt a0) (
    fm_gd (fm_inb a1 8) (
    some ((i_max 1 ((M.1 (a0 + 1) (Int32.toNatClampNeg a1)) - (M.1 a0 1))), M)))
theorem sp_X7_soundOf {d : Nat} {a0 : Nat} {a1 : Int32} {M : fm_M} {x : Int32 × fm_M} {Q : Option Value → fm_M → Prop} (h : F_X7_soundOf a0 a1 M = some x) (hq : Q (some (.int x.1)) x.2) : fm_ct (d + 1) mX7_soundOf [.ref a0, .int a1] M Q := by
  rw [F_X7_soundOf] at h
  show fm_mw (d + 1) mX7_soundOf Q 0 [some (.ref a0), some (.int a1)] [] M
  obtain ⟨ga0, h⟩ := fm_gdp h
  refine fm_iconstv (pc := 0) 1 (by decide) dX7_soundOf_0 ?_
  refine fl_aload0 (pc := 1) dX7_soundOf_1 ?_
  refine fm_getr (pc := 2) lk_7_22 (shSt0 ga0) rfl dX7_soundOf_2 ?_
  refine fl_iload1 (pc := 5) dX7_soundOf_5 ?_
  obtain ⟨g1, h⟩ := fm_gdp h
  refine fm_iald (pc := 6) (shSt1 ga0) (fm_inb_ok g1) dX7_soundOf_6 ?_
  refine fl_aload0 (pc := 7) dX7_soundOf_7 ?_
  refine fm_geti (pc := 8) lk_7_50 (shSt0 ga0) rfl dX7_soundOf_8 ?_
  refine fm_isub (pc := 11) dX7_soundOf_11 ?_
  refine fq_mmax (pc := 12) ml_7_89 (Nat.le_of_ble_eq_true rfl) dX7_soundOf_12 ?_
  refine fm_iret (pc := 15) rfl ?_ dX7_soundOf_15
  cases h
  exact hq
/-! X7_beating -/
def F_X7_beating (a0 : Nat) (a1 : Int32) (a2 : Int32) (M : fm_M) : Option (Int32 × fm_M) :=
    fm_gd (fm_isSt a0) (
    fm_bd (F_X7_soundOf a0 a1 M) (fun v1 M2 =>
    fm_bd (F_X7_beatsOf v1 a2 M2) (fun v3 M4 =>
    some (v3, M4))))
theorem sp_X7_beating {d : Nat} {a0 : Nat} {a1 : Int32} {a2 : Int32} {M : fm_M} {x : Int32 × fm_M} {Q : Option Value → fm_M → Prop} (h : F_X7_beating a0 a1 a2 M = some x) (hq : Q (some (.int x.1)) x.2) : fm_ct (d + 2) mX7_beating [.ref a0, .int a1, .int a2] M Q := by
  rw [F_X7_beating] at h
  show fm_mw (d + 2) mX7_beating Q 0 [some (.ref a0), some (.int a1), some (.int a2)] [] M
  obtain ⟨ga0, h⟩ := fm_gdp h
  refine fl_aload0 (pc := 0) dX7_beating_0 ?_
  refine fl_iload1 (pc := 1) dX7_beating_1 ?_
  obtain ⟨v1, M2, ev1, h⟩ := fm_bdp h
  refine fm_callV (pc := 2) mX7_soundOf [_] _ rfl cvX7_soundOf ml_7_92 (shSt0 ga0) rfl rfl (Nat.le_of_ble_eq_true rfl) (Nat.le_of_ble_eq_true rfl) dX7_beating_2 ?_
  refine sp_X7_soundOf ev1 ?_
  refine fm_ret1 ?_
  refine fl_iload2 (pc := 5) dX7_beating_5 ?_
  obtain ⟨v3, M4, ev3, h⟩ := fm_bdp h
  refine fm_callS (pc := 6) mX7_beatsOf [_, _] _ rfl csX7_beatsOf ml_7_95 rfl (Nat.le_of_ble_eq_true rfl) (Nat.le_of_ble_eq_true rfl) dX7_beating_6 ?_
  refine sp_X7_beatsOf ev3 ?_
  refine fm_ret1 ?_
  refine fm_iret (pc := 9) rfl ?_ dX7_beating_9
  cases h
  exact hq
/-! X8_placeOf -/
def G_X8_placeOf_2 : Nat → Nat → Nat → Int32 → Int32 → Int32 → fm_M → Option (((Int32) ⊕ Int32) × fm_M)
  | 0, _, _, _, _, _, _ => none
  | n + 1, a1, n1, l0, l2, l3, M =>
    if l2 ≤ l3 then (
      some (.inl l3, M)
    ) else (
      if (nI n1) ≤ l3 then (
        some (.inl l3, M)
      ) else (
        fm_gd (fm_inb l3 n1) (
        if (M.1 a1 (Int32.toNatClampNeg l3)) = l0 then (
          some (.inr l3, M)
        ) else (
          G_X8_placeOf_2 n a1 n1 l0 l2 (l3 + 1) M
        ))
      )
    )
def F_X8_placeOf (a0 : Int32) (a1 : Nat) (a2 : Int32) (M : fm_M) : Option (Int32 × fm_M) :=
    fm_bn (fm_arI a1) (fun n1 =>
    fm_bs (G_X8_placeOf_2 fm_fuel a1 n1 a0 a2 0 M) (fun w2 M3 =>
      some ((-1), M3)) (fun r4 M => some (r4, M)))
theorem lp_X8_placeOf_2 {d : Nat} {Q : Option Value → fm_M → Prop} {l0 : Int32} {l2 : Int32} {a1 : Nat} {n1 : Nat} (en1 : fm_arI a1 = some n1) {x : ((Int32) ⊕ Int32) × fm_M} (k1 : ∀ (v : Int32) (M2 : fm_M), x = (.inl v, M2) → fm_mw d mX8_placeOf Q 28 [some (.int l0), some (.ref a1), some (.int l2), some (.int v)] [] M2) (k2 : ∀ (r : Int32) (M2 : fm_M), x = (.inr r, M2) → Q (some (.int r)) M2) : ∀ (n : Nat) (l3 : Int32) (M : fm_M), G_X8_placeOf_2 n a1 n1 l0 l2 l3 M = some x → fm_mw d mX8_placeOf Q 2 [some (.int l0), some (.ref a1), some (.int l2), some (.int l3)] [] M := by
  intro n
  induction n with
  | zero => intro l3 M h; simp [G_X8_placeOf_2] at h
  | succ n ih =>
    intro l3 M h
    rw [G_X8_placeOf_2] at h
    refine fl_iload3 (pc := 2) dX8_placeOf_2 ?_
    refine fl_iload2 (pc := 3) dX8_placeOf_3 ?_
    refine fm_icmp_ge (pc := 4) 28 (by decide) dX8_placeOf_4 (fun c4 => ?_) (fun c4 => ?_)
    · replace h := fm_itp c4 h
      refine fm_fgt [some (.int l0), some (.ref a1), some (.int l2), some (.int l3)] (by simp [fm_sub]) ?_
      cases h
      exact k1 _ _ rfl
    · replace h := fm_itn c4 h
      refine fl_iload3 (pc := 7) dX8_placeOf_7 ?_
      refine fl_aload1 (pc := 8) dX8_placeOf_8 ?_
      refine fm_alen (pc := 9) (fm_arI_ok en1) dX8_placeOf_9 ?_
      refine fm_icmp_ge (pc := 10) 28 (by decide) dX8_placeOf_10 (fun c10 => ?_) (fun c10 => ?_)
      · replace h := fm_itp c10 h
        refine fm_fgt [some (.int l0), some (.ref a1), some (.int l2), some (.int l3)] (by simp [fm_sub]) ?_
        cases h
        exact k1 _ _ rfl
      · replace h := fm_itn c10 h
        refine fl_aload1 (pc := 13) dX8_placeOf_13 ?_
        refine fl_iload3 (pc := 14) dX8_placeOf_14 ?_
        obtain ⟨g1, h⟩ := fm_gdp h
        refine fm_iald (pc := 15) (fm_arI_ok en1) (fm_inb_ok g1) dX8_placeOf_15 ?_
        refine fl_iload0 (pc := 16) dX8_placeOf_16 ?_
        refine fm_icmp_ne (pc := 17) 22 (by decide) dX8_placeOf_17 (fun c17 => ?_) (fun c17 => ?_)
        · replace h := fm_itn c17 h
          refine fl_iinc3 (pc := 22) rfl 1 (by decide) (by decide) dX8_placeOf_22 ?_
          refine fm_goto (pc := 25) 2 (by decide) dX8_placeOf_25 ?_
          refine fm_fgt [some (.int l0), some (.ref a1), some (.int l2), some (.int (l3 + 1))] (by simp [fm_sub]) ?_
          exact ih _ _ h
        · replace h := fm_itp c17 h
          refine fl_iload3 (pc := 20) dX8_placeOf_20 ?_
          refine fm_iret (pc := 21) rfl ?_ dX8_placeOf_21
          cases h
          exact k2 _ _ rfl
theorem sp_X8_placeOf {d : Nat} {a0 : Int32} {a1 : Nat} {a2 : Int32} {M : fm_M} {x : Int32 × fm_M} {Q : Option Value → fm_M → Prop} (h : F_X8_placeOf a0 a1 a2 M = some x) (hq : Q (some (.int x.1)) x.2) : fm_ct d mX8_placeOf [.int a0, .ref a1, .int a2] M Q := by
  rw [F_X8_placeOf] at h
  show fm_mw d mX8_placeOf Q 0 [some (.int a0), some (.ref a1), some (.int a2), none] [] M
  obtain ⟨n1, en1, h⟩ := fm_bnp h
  refine fm_iconstv (pc := 0) 0 (by decide) dX8_placeOf_0 ?_
  refine fl_istore3 (pc := 1) rfl (by decide) dX8_placeOf_1 ?_
  obtain ⟨w9, M3, ew2, hl9, hr9⟩ := fm_bsp h
  refine lp_X8_placeOf_2 en1 ?_ ?_ _ _ _ ew2
  · intro w2 M9 q9
    cases q9
    replace h := hl9 _ rfl
    refine fm_iconstv (pc := 28) (-1) (by decide) dX8_placeOf_28 ?_
    refine fm_iret (pc := 29) rfl ?_ dX8_placeOf_29
    cases h
    exact hq
  · intro r9 M9 q9
    cases q9
    replace h := hr9 _ rfl
    cases h
    exact hq
/-! X8_wetOn -/
def F_X8_wetOn (a0 : Nat) (a1 : Int32) (M : fm_M) : Option (Int32 × fm_M) :=
    fm_gd (fm_isTd a0) (
    if (M.1 a0 11) < 1 then (
      some (0, M)
    ) else (
      if 8 < (M.1 a0 11) then (
        some (0, M)
      ) else (
        if 0 ≤ a1 then (
          fm_gd (fm_nz (M.1 a0 11)) (
          fm_gd (fm_inb (i_rem a1 (M.1 a0 11)) 8) (
          some ((M.1 (a0 + 9) (Int32.toNatClampNeg (i_rem a1 (M.1 a0 11)))), M)))
        ) else (
          some (0, M)
        )
      )
    ))
theorem sp_X8_wetOn {d : Nat} {a0 : Nat} {a1 : Int32} {M : fm_M} {x : Int32 × fm_M} {Q : Option Value → fm_M → Prop} (h : F_X8_wetOn a0 a1 M = some x) (hq : Q (some (.int x.1)) x.2) : fm_ct d mX8_wetOn [.ref a0, .int a1] M Q := by
  rw [F_X8_wetOn] at h
  show fm_mw d mX8_wetOn Q 0 [some (.ref a0), some (.int a1)] [] M
  obtain ⟨ga0, h⟩ := fm_gdp h
  refine fl_aload0 (pc := 0) dX8_wetOn_0 ?_
  refine fm_geti (pc := 1) lk_8_65 (shTd0 ga0) rfl dX8_wetOn_1 ?_
  refine fm_iconstv (pc := 4) 1 (by decide) dX8_wetOn_4 ?_
  refine fm_icmp_lt (pc := 5) 21 (by decide) dX8_wetOn_5 (fun c5 => ?_) (fun c5 => ?_)
  · replace h := fm_itp c5 h
    refine fm_iconstv (pc := 21) 0 (by decide) dX8_wetOn_21 ?_
    refine fm_iret (pc := 22) rfl ?_ dX8_wetOn_22
    cases h
    exact hq
  · replace h := fm_itn c5 h
    refine fl_aload0 (pc := 8) dX8_wetOn_8 ?_
    refine fm_geti (pc := 9) lk_8_65 (shTd0 ga0) rfl dX8_wetOn_9 ?_
    refine fm_bipushv (pc := 12) 8 (by decide) dX8_wetOn_12 ?_
    refine fm_icmp_gt (pc := 14) 21 (by decide) dX8_wetOn_14 (fun c14 => ?_) (fun c14 => ?_)
    · replace h := fm_itp c14 h
      refine fm_iconstv (pc := 21) 0 (by decide) dX8_wetOn_21 ?_
      refine fm_iret (pc := 22) rfl ?_ dX8_wetOn_22
      cases h
      exact hq
    · replace h := fm_itn c14 h
      refine fl_iload1 (pc := 17) dX8_wetOn_17 ?_
      refine fm_if_ge (pc := 18) 23 (by decide) dX8_wetOn_18 (fun c18 => ?_) (fun c18 => ?_)
      · replace h := fm_itp c18 h
        refine fl_aload0 (pc := 23) dX8_wetOn_23 ?_
        refine fm_getr (pc := 24) lk_8_36 (shTd0 ga0) rfl dX8_wetOn_24 ?_
        refine fl_iload1 (pc := 27) dX8_wetOn_27 ?_
        refine fl_aload0 (pc := 28) dX8_wetOn_28 ?_
        refine fm_geti (pc := 29) lk_8_65 (shTd0 ga0) rfl dX8_wetOn_29 ?_
        obtain ⟨g1, h⟩ := fm_gdp h
        refine fq_irem (pc := 32) (fm_nz_ok g1) dX8_wetOn_32 ?_
        obtain ⟨g2, h⟩ := fm_gdp h
        refine fm_iald (pc := 33) (shTd9 ga0) (fm_inb_ok g2) dX8_wetOn_33 ?_
        refine fm_iret (pc := 34) rfl ?_ dX8_wetOn_34
        cases h
        exact hq
      · replace h := fm_itn c18 h
        refine fm_iconstv (pc := 21) 0 (by decide) dX8_wetOn_21 ?_
        refine fm_iret (pc := 22) rfl ?_ dX8_wetOn_22
        cases h
        exact hq
/-! X8_forkNamed -/
def F_X8_forkNamed (a0 : Nat) (a1 : Int32) (M : fm_M) : Option (Int32 × fm_M) :=
    fm_gd (fm_isTd a0) (
    fm_bd (F_X8_placeOf a1 (a0 + 1) (M.1 a0 0) M) (fun v1 M2 =>
    some (v1, M2)))
theorem sp_X8_forkNamed {d : Nat} {a0 : Nat} {a1 : Int32} {M : fm_M} {x : Int32 × fm_M} {Q : Option Value → fm_M → Prop} (h : F_X8_forkNamed a0 a1 M = some x) (hq : Q (some (.int x.1)) x.2) : fm_ct (d + 1) mX8_forkNamed [.ref a0, .int a1] M Q := by
  rw [F_X8_forkNamed] at h
  show fm_mw (d + 1) mX8_forkNamed Q 0 [some (.ref a0), some (.int a1)] [] M
  obtain ⟨ga0, h⟩ := fm_gdp h
  refine fl_iload1 (pc := 0) dX8_forkNamed_0 ?_
  refine fl_aload0 (pc := 1) dX8_forkNamed_1 ?_
  refine fm_getr (pc := 2) lk_8_9 (shTd0 ga0) rfl dX8_forkNamed_2 ?_
  refine fl_aload0 (pc := 5) dX8_forkNamed_5 ?_
  refine fm_geti (pc := 6) lk_8_56 (shTd0 ga0) rfl dX8_forkNamed_6 ?_
  obtain ⟨v1, M2, ev1, h⟩ := fm_bdp h
  refine fm_callS (pc := 9) mX8_placeOf [_, _, _] _ rfl csX8_placeOf ml_8_74 rfl (Nat.le_of_ble_eq_true rfl) (Nat.le_of_ble_eq_true rfl) dX8_forkNamed_9 ?_
  refine sp_X8_placeOf ev1 ?_
  refine fm_ret1 ?_
  refine fm_iret (pc := 12) rfl ?_ dX8_forkNamed_12
  cases h
  exact hq
/-! X8_motionNamed -/
def F_X8_motionNamed (a0 : Nat) (a1 : Int32) (M : fm_M) : Option (Int32 × fm_M) :=
    fm_gd (fm_isTd a0) (
    fm_bd (F_X8_placeOf a1 (a0 + 6) (M.1 a0 7) M) (fun v1 M2 =>
    some (v1, M2)))
theorem sp_X8_motionNamed {d : Nat} {a0 : Nat} {a1 : Int32} {M : fm_M} {x : Int32 × fm_M} {Q : Option Value → fm_M → Prop} (h : F_X8_motionNamed a0 a1 M = some x) (hq : Q (some (.int x.1)) x.2) : fm_ct (d + 1) mX8_motionNamed [.ref a0, .int a1] M Q := by
  rw [F_X8_motionNamed] at h
  show fm_mw (d + 1) mX8_motionNamed Q 0 [some (.ref a0), some (.int a1)] [] M
  obtain ⟨ga0, h⟩ := fm_gdp h
  refine fl_iload1 (pc := 0) dX8_motionNamed_0 ?_
  refine fl_aload0 (pc := 1) dX8_motionNamed_1 ?_
  refine fm_getr (pc := 2) lk_8_27 (shTd0 ga0) rfl dX8_motionNamed_2 ?_
  refine fl_aload0 (pc := 5) dX8_motionNamed_5 ?_
  refine fm_geti (pc := 6) lk_8_62 (shTd0 ga0) rfl dX8_motionNamed_6 ?_
  obtain ⟨v1, M2, ev1, h⟩ := fm_bdp h
  refine fm_callS (pc := 9) mX8_placeOf [_, _, _] _ rfl csX8_placeOf ml_8_74 rfl (Nat.le_of_ble_eq_true rfl) (Nat.le_of_ble_eq_true rfl) dX8_motionNamed_9 ?_
  refine sp_X8_placeOf ev1 ?_
  refine fm_ret1 ?_
  refine fm_iret (pc := 12) rfl ?_ dX8_motionNamed_12
  cases h
  exact hq
