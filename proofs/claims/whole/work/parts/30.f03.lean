/-! X8_placeOf -/
def G_X8_placeOf_2 : Nat → Nat → Nat → Int32 → Int32 → Int32 → fm_M → Option (((Int32) ⊕ Int32) × fm_M)
  | 0, _, _, _, _, _, _ => none
  | n + 1, a1, n1, l0, l2, l3, M =>
    if l2 ≤ l3 then (
      some (.inl l3, M)
    ) else (
      if (nI n1) ≤ l3 then (
        some (.inl l3, M)
      ) else (
        fm_gd (fm_inb l3 n1) (
        if (M.1 a1 (Int32.toNatClampNeg l3)) = l0 then (
          some (.inr l3, M)
        ) else (
          G_X8_placeOf_2 n a1 n1 l0 l2 (l3 + 1) M
        ))
      )
    )
def F_X8_placeOf (a0 : Int32) (a1 : Nat) (a2 : Int32) (M : fm_M) : Option (Int32 × fm_M) :=
    fm_bn (fm_arI a1) (fun n1 =>
    fm_bs (G_X8_placeOf_2 fm_fuel a1 n1 a0 a2 0 M) (fun w2 M3 =>
      some ((-1), M3)) (fun r4 M => some (r4, M)))
theorem lp_X8_placeOf_2 {d : Nat} {Q : Option Value → fm_M → Prop} {l0 : Int32} {l2 : Int32} {a1 : Nat} {n1 : Nat} (en1 : fm_arI a1 = some n1) {x : ((Int32) ⊕ Int32) × fm_M} (k1 : ∀ (v : Int32) (M2 : fm_M), x = (.inl v, M2) → fm_mw d mX8_placeOf Q 28 [some (.int l0), some (.ref a1), some (.int l2), some (.int v)] [] M2) (k2 : ∀ (r : Int32) (M2 : fm_M), x = (.inr r, M2) → Q (some (.int r)) M2) : ∀ (n : Nat) (l3 : Int32) (M : fm_M), G_X8_placeOf_2 n a1 n1 l0 l2 l3 M = some x → fm_mw d mX8_placeOf Q 2 [some (.int l0), some (.ref a1), some (.int l2), some (.int l3)] [] M := by
  intro n
  induction n with
  | zero => intro l3 M h; simp [G_X8_placeOf_2] at h
  | succ n ih =>
    intro l3 M h
    rw [G_X8_placeOf_2] at h
    refine fl_iload3 (pc := 2) dX8_placeOf_2 ?_
    refine fl_iload2 (pc := 3) dX8_placeOf_3 ?_
    refine fm_icmp_ge (pc := 4) 28 (by decide) dX8_placeOf_4 (fun c4 => ?_) (fun c4 => ?_)
    · replace h := fm_itp c4 h
      refine fm_fgt [some (.int l0), some (.ref a1), some (.int l2), some (.int l3)] (by simp [fm_sub]) ?_
      cases h
      exact k1 _ _ rfl
    · replace h := fm_itn c4 h
      refine fl_iload3 (pc := 7) dX8_placeOf_7 ?_
      refine fl_aload1 (pc := 8) dX8_placeOf_8 ?_
      refine fm_alen (pc := 9) (fm_arI_ok en1) dX8_placeOf_9 ?_
      refine fm_icmp_ge (pc := 10) 28 (by decide) dX8_placeOf_10 (fun c10 => ?_) (fun c10 => ?_)
      · replace h := fm_itp c10 h
        refine fm_fgt [some (.int l0), some (.ref a1), some (.int l2), some (.int l3)] (by simp [fm_sub]) ?_
        cases h
        exact k1 _ _ rfl
      · replace h := fm_itn c10 h
        refine fl_aload1 (pc := 13) dX8_placeOf_13 ?_
        refine fl_iload3 (pc := 14) dX8_placeOf_14 ?_
        obtain ⟨g1, h⟩ := fm_gdp h
        refine fm_iald (pc := 15) (fm_arI_ok en1) (fm_inb_ok g1) dX8_placeOf_15 ?_
        refine fl_iload0 (pc := 16) dX8_placeOf_16 ?_
        refine fm_icmp_ne (pc := 17) 22 (by decide) dX8_placeOf_17 (fun c17 => ?_) (fun c17 => ?_)
        · replace h := fm_itn c17 h
          refine fl_iinc3 (pc := 22) rfl 1 (by decide) (by decide) dX8_placeOf_22 ?_
          refine fm_goto (pc := 25) 2 (by decide) dX8_placeOf_25 ?_
          refine fm_fgt [some (.int l0), some (.ref a1), some (.int l2), some (.int (l3 + 1))] (by simp [fm_sub]) ?_
          exact ih _ _ h
        · replace h := fm_itp c17 h
          refine fl_iload3 (pc := 20) dX8_placeOf_20 ?_
          refine fm_iret (pc := 21) rfl ?_ dX8_placeOf_21
          cases h
          exact k2 _ _ rfl
theorem sp_X8_placeOf {d : Nat} {a0 : Int32} {a1 : Nat} {a2 : Int32} {M : fm_M} {x : Int32 × fm_M} {Q : Option Value → fm_M → Prop} (h : F_X8_placeOf a0 a1 a2 M = some x) (hq : Q (some (.int x.1)) x.2) : fm_ct d mX8_placeOf [.int a0, .ref a1, .int a2] M Q := by
  rw [F_X8_placeOf] at h
  show fm_mw d mX8_placeOf Q 0 [some (.int a0), some (.ref a1), some (.int a2), none] [] M
  obtain ⟨n1, en1, h⟩ := fm_bnp h
  refine fm_iconstv (pc := 0) 0 (by decide) dX8_placeOf_0 ?_
  refine fl_istore3 (pc := 1) rfl (by decide) dX8_placeOf_1 ?_
  obtain ⟨w9, M3, ew2, hl9, hr9⟩ := fm_bsp h
  refine lp_X8_placeOf_2 en1 ?_ ?_ _ _ _ ew2
  · intro w2 M9 q9
    cases q9
    replace h := hl9 _ rfl
    refine fm_iconstv (pc := 28) (-1) (by decide) dX8_placeOf_28 ?_
    refine fm_iret (pc := 29) rfl ?_ dX8_placeOf_29
    cases h
    exact hq
  · intro r9 M9 q9
    cases q9
    replace h := hr9 _ rfl
    cases h
    exact hq
/-! X8_forkNamed -/
def F_X8_forkNamed (a0 : Nat) (a1 : Int32) (M : fm_M) : Option (Int32 × fm_M) :=
    fm_gd (fm_isTd a0) (
    fm_bd (F_X8_placeOf a1 (a0 + 1) (M.1 a0 0) M) (fun v1 M2 =>
    some (v1, M2)))
theorem sp_X8_forkNamed {d : Nat} {a0 : Nat} {a1 : Int32} {M : fm_M} {x : Int32 × fm_M} {Q : Option Value → fm_M → Prop} (h : F_X8_forkNamed a0 a1 M = some x) (hq : Q (some (.int x.1)) x.2) : fm_ct (d + 1) mX8_forkNamed [.ref a0, .int a1] M Q := by
  rw [F_X8_forkNamed] at h
  show fm_mw (d + 1) mX8_forkNamed Q 0 [some (.ref a0), some (.int a1)] [] M
  obtain ⟨ga0, h⟩ := fm_gdp h
  refine fl_iload1 (pc := 0) dX8_forkNamed_0 ?_
  refine fl_aload0 (pc := 1) dX8_forkNamed_1 ?_
  refine fm_getr (pc := 2) lk_8_9 (shTd0 ga0) rfl dX8_forkNamed_2 ?_
  refine fl_aload0 (pc := 5) dX8_forkNamed_5 ?_
  refine fm_geti (pc := 6) lk_8_56 (shTd0 ga0) rfl dX8_forkNamed_6 ?_
  obtain ⟨v1, M2, ev1, h⟩ := fm_bdp h
  refine fm_callS (pc := 9) mX8_placeOf [_, _, _] _ rfl csX8_placeOf ml_8_74 rfl (Nat.le_of_ble_eq_true rfl) (Nat.le_of_ble_eq_true rfl) dX8_forkNamed_9 ?_
  refine sp_X8_placeOf ev1 ?_
  refine fm_ret1 ?_
  refine fm_iret (pc := 12) rfl ?_ dX8_forkNamed_12
  cases h
  exact hq
/-! X6_readCrack -/
def F_X6_readCrack  (M : fm_M) : Option (Unit × fm_M) :=
    fm_bd (F_X6_advance M) (fun v1 M2 =>
    fm_lt (Int32.toNatClampNeg (M2.1 1 5)) (fun t3 =>
    fm_gd (fm_isTd t3) (
    fm_bd (F_X8_forkNamed t3 (M2.1 1 10) M2) (fun v5 M6 =>
    if (M6.1 1 8) = 3 then (
      if v5 = (-1) then (
        fm_bd (F_X6_refuse 4 M6) (fun v18 M19 =>
        some ((), M19))
      ) else (
        fm_lt (Int32.toNatClampNeg (M6.1 1 5)) (fun t7 =>
        fm_gd (fm_isTd t7) (
        fm_bd (F_X9_bitOf (M6.1 t7 6) v5 M6) (fun v9 M10 =>
        if v9 = 1 then (
          fm_bd (F_X6_refuse 3 M10) (fun v16 M17 =>
          some ((), M17))
        ) else (
          fm_lt (Int32.toNatClampNeg (M10.1 1 5)) (fun t11 =>
          fm_gd (fm_isTd t11) (
          fm_lt (fm_up M10 t11 6 ((M10.1 t11 6) ||| (1 <<< (v5 &&& 31)))) (fun M13 =>
          fm_bd (F_X6_advance M13) (fun v14 M15 =>
          some ((), M15)))))
        ))))
      )
    ) else (
      fm_bd (F_X6_refuse 1 M6) (fun v20 M21 =>
      some ((), M21))
    )))))
theorem sp_X6_readCrack {d : Nat}  {M : fm_M} {x : Unit × fm_M} {Q : Option Value → fm_M → Prop} (h : F_X6_readCrack  M = some x) (hq : Q none x.2) : fm_ct (d + 3) mX6_readCrack [.ref 1] M Q := by
  rw [F_X6_readCrack] at h
  show fm_mw (d + 3) mX6_readCrack Q 0 [some (.ref 1), none] [] M
  refine fl_aload0 (pc := 0) dX6_readCrack_0 ?_
  obtain ⟨v1, M2, ev1, h⟩ := fm_bdp h
  refine fm_callV (pc := 1) mX6_advance [] _ rfl cvX6_advance ml_6_70 sh_1 rfl rfl (Nat.le_of_ble_eq_true rfl) (Nat.le_of_ble_eq_true rfl) dX6_readCrack_1 ?_
  refine sp_X6_advance ev1 ?_
  refine fm_ret0 ?_
  refine fl_aload0 (pc := 4) dX6_readCrack_4 ?_
  obtain ⟨t3, et3, h⟩ := fm_ltp h
  obtain ⟨g4, h⟩ := fm_gdp h
  refine fm_getm (pc := 5) (fm_nn et3 g4) lk_6_26 sh_1 rfl dX6_readCrack_5 ?_
  refine fm_cgr et3 ?_
  refine fl_aload0 (pc := 8) dX6_readCrack_8 ?_
  refine fm_geti (pc := 9) lk_6_126 sh_1 rfl dX6_readCrack_9 ?_
  obtain ⟨v5, M6, ev5, h⟩ := fm_bdp h
  refine fm_callV (pc := 12) mX8_forkNamed [_] _ rfl cvX8_forkNamed ml_6_129 (shTd0 g4) rfl rfl (Nat.le_of_ble_eq_true rfl) (Nat.le_of_ble_eq_true rfl) dX6_readCrack_12 ?_
  refine sp_X8_forkNamed ev5 ?_
  refine fm_ret1 ?_
  refine fl_istore1 (pc := 15) rfl (by decide) dX6_readCrack_15 ?_
  refine fl_aload0 (pc := 16) dX6_readCrack_16 ?_
  refine fm_geti (pc := 17) lk_6_73 sh_1 rfl dX6_readCrack_17 ?_
  refine fm_iconstv (pc := 20) 3 (by decide) dX6_readCrack_20 ?_
  refine fm_icmp_eq (pc := 21) 32 (by decide) dX6_readCrack_21 (fun c21 => ?_) (fun c21 => ?_)
  · replace h := fm_itp c21 h
    refine fl_iload1 (pc := 32) dX6_readCrack_32 ?_
    refine fm_iconstv (pc := 33) (-1) (by decide) dX6_readCrack_33 ?_
    refine fm_icmp_ne (pc := 34) 45 (by decide) dX6_readCrack_34 (fun c34 => ?_) (fun c34 => ?_)
    · replace h := fm_itn c34 h
      refine fl_aload0 (pc := 45) dX6_readCrack_45 ?_
      obtain ⟨t7, et7, h⟩ := fm_ltp h
      obtain ⟨g8, h⟩ := fm_gdp h
      refine fm_getm (pc := 46) (fm_nn et7 g8) lk_6_26 sh_1 rfl dX6_readCrack_46 ?_
      refine fm_cgr et7 ?_
      refine fm_geti (pc := 49) lk_6_162 (shTd0 g8) rfl dX6_readCrack_49 ?_
      refine fl_iload1 (pc := 52) dX6_readCrack_52 ?_
      obtain ⟨v9, M10, ev9, h⟩ := fm_bdp h
      refine fm_callS (pc := 53) mX9_bitOf [_, _] _ rfl csX9_bitOf ml_6_165 rfl (Nat.le_of_ble_eq_true rfl) (Nat.le_of_ble_eq_true rfl) dX6_readCrack_53 ?_
      refine sp_X9_bitOf ev9 ?_
      refine fm_ret1 ?_
      refine fm_iconstv (pc := 56) 1 (by decide) dX6_readCrack_56 ?_
      refine fm_icmp_ne (pc := 57) 68 (by decide) dX6_readCrack_57 (fun c57 => ?_) (fun c57 => ?_)
      · replace h := fm_itn c57 h
        refine fl_aload0 (pc := 68) dX6_readCrack_68 ?_
        obtain ⟨t11, et11, h⟩ := fm_ltp h
        obtain ⟨g12, h⟩ := fm_gdp h
        refine fm_getm (pc := 69) (fm_nn et11 g12) lk_6_26 sh_1 rfl dX6_readCrack_69 ?_
        refine fm_cgr et11 ?_
        refine fm_dup (pc := 72) rfl dX6_readCrack_72 ?_
        refine fm_geti (pc := 73) lk_6_162 (shTd0 g12) rfl dX6_readCrack_73 ?_
        refine fm_iconstv (pc := 76) 1 (by decide) dX6_readCrack_76 ?_
        refine fl_iload1 (pc := 77) dX6_readCrack_77 ?_
        refine fm_ishl (pc := 78) dX6_readCrack_78 ?_
        refine fm_ior (pc := 79) dX6_readCrack_79 ?_
        refine fm_puti (pc := 80) lp_6_162 (shTd0 g12) rfl dX6_readCrack_80 ?_
        obtain ⟨M13, eM13, h⟩ := fm_ltp h
        refine fm_cgm eM13 ?_
        refine fl_aload0 (pc := 83) dX6_readCrack_83 ?_
        obtain ⟨v14, M15, ev14, h⟩ := fm_bdp h
        refine fm_callV (pc := 84) mX6_advance [] _ rfl cvX6_advance ml_6_70 sh_1 rfl rfl (Nat.le_of_ble_eq_true rfl) (Nat.le_of_ble_eq_true rfl) dX6_readCrack_84 ?_
        refine sp_X6_advance ev14 ?_
        refine fm_ret0 ?_
        refine fm_vret (pc := 87) rfl ?_ dX6_readCrack_87
        cases h
        exact hq
      · replace h := fm_itp c57 h
        refine fl_aload0 (pc := 60) dX6_readCrack_60 ?_
        refine fm_iconstv (pc := 61) 3 (by decide) dX6_readCrack_61 ?_
        obtain ⟨v16, M17, ev16, h⟩ := fm_bdp h
        refine fm_callV (pc := 62) mX6_refuse [_] _ rfl cvX6_refuse ml_6_113 sh_1 rfl rfl (Nat.le_of_ble_eq_true rfl) (Nat.le_of_ble_eq_true rfl) dX6_readCrack_62 ?_
        refine sp_X6_refuse ev16 ?_
        refine fm_ret0 ?_
        refine fm_goto (pc := 65) 87 (by decide) dX6_readCrack_65 ?_
        refine fm_vret (pc := 87) rfl ?_ dX6_readCrack_87
        cases h
        exact hq
    · replace h := fm_itp c34 h
      refine fl_aload0 (pc := 37) dX6_readCrack_37 ?_
      refine fm_iconstv (pc := 38) 4 (by decide) dX6_readCrack_38 ?_
      obtain ⟨v18, M19, ev18, h⟩ := fm_bdp h
      refine fm_callV (pc := 39) mX6_refuse [_] _ rfl cvX6_refuse ml_6_113 sh_1 rfl rfl (Nat.le_of_ble_eq_true rfl) (Nat.le_of_ble_eq_true rfl) dX6_readCrack_39 ?_
      refine sp_X6_refuse ev18 ?_
      refine fm_ret0 ?_
      refine fm_goto (pc := 42) 87 (by decide) dX6_readCrack_42 ?_
      refine fm_vret (pc := 87) rfl ?_ dX6_readCrack_87
      cases h
      exact hq
  · replace h := fm_itn c21 h
    refine fl_aload0 (pc := 24) dX6_readCrack_24 ?_
    refine fm_iconstv (pc := 25) 1 (by decide) dX6_readCrack_25 ?_
    obtain ⟨v20, M21, ev20, h⟩ := fm_bdp h
    refine fm_callV (pc := 26) mX6_refuse [_] _ rfl cvX6_refuse ml_6_113 sh_1 rfl rfl (Nat.le_of_ble_eq_true rfl) (Nat.le_of_ble_eq_true rfl) dX6_readCrack_26 ?_
    refine sp_X6_refuse ev20 ?_
    refine fm_ret0 ?_
    refine fm_goto (pc := 29) 87 (by decide) dX6_readCrack_29 ?_
    refine fm_vret (pc := 87) rfl ?_ dX6_readCrack_87
    cases h
    exact hq
/-! X6_newName -/
def F_X6_newName (a1 : Int32) (M : fm_M) : Option (Int32 × fm_M) :=
    fm_lt ((M.1 1 10)) (fun x1 =>
    if (M.1 1 8) = 3 then (
      if a1 = (-1) then (
        fm_bd (F_X6_advance M) (fun v2 M3 =>
        some (x1, M3))
      ) else (
        fm_bd (F_X6_refuse 3 M) (fun v4 M5 =>
        some (x1, M5))
      )
    ) else (
      fm_bd (F_X6_refuse 1 M) (fun v6 M7 =>
      some (x1, M7))
    ))
theorem sp_X6_newName {d : Nat} {a1 : Int32} {M : fm_M} {x : Int32 × fm_M} {Q : Option Value → fm_M → Prop} (h : F_X6_newName a1 M = some x) (hq : Q (some (.int x.1)) x.2) : fm_ct (d + 3) mX6_newName [.ref 1, .int a1] M Q := by
  rw [F_X6_newName] at h
  show fm_mw (d + 3) mX6_newName Q 0 [some (.ref 1), some (.int a1), none] [] M
  refine fl_aload0 (pc := 0) dX6_newName_0 ?_
  refine fm_geti (pc := 1) lk_6_126 sh_1 rfl dX6_newName_1 ?_
  obtain ⟨x1, ex1, h⟩ := fm_ltp h
  refine fm_cgi ex1 ?_
  refine fl_istore2 (pc := 4) rfl (by decide) dX6_newName_4 ?_
  refine fl_aload0 (pc := 5) dX6_newName_5 ?_
  refine fm_geti (pc := 6) lk_6_73 sh_1 rfl dX6_newName_6 ?_
  refine fm_iconstv (pc := 9) 3 (by decide) dX6_newName_9 ?_
  refine fm_icmp_eq (pc := 10) 21 (by decide) dX6_newName_10 (fun c10 => ?_) (fun c10 => ?_)
  · replace h := fm_itp c10 h
    refine fl_iload1 (pc := 21) dX6_newName_21 ?_
    refine fm_iconstv (pc := 22) (-1) (by decide) dX6_newName_22 ?_
    refine fm_icmp_eq (pc := 23) 34 (by decide) dX6_newName_23 (fun c23 => ?_) (fun c23 => ?_)
    · replace h := fm_itp c23 h
      refine fl_aload0 (pc := 34) dX6_newName_34 ?_
      obtain ⟨v2, M3, ev2, h⟩ := fm_bdp h
      refine fm_callV (pc := 35) mX6_advance [] _ rfl cvX6_advance ml_6_70 sh_1 rfl rfl (Nat.le_of_ble_eq_true rfl) (Nat.le_of_ble_eq_true rfl) dX6_newName_35 ?_
      refine sp_X6_advance ev2 ?_
      refine fm_ret0 ?_
      refine fl_iload2 (pc := 38) dX6_newName_38 ?_
      refine fm_iret (pc := 39) rfl ?_ dX6_newName_39
      cases h
      exact hq
    · replace h := fm_itn c23 h
      refine fl_aload0 (pc := 26) dX6_newName_26 ?_
      refine fm_iconstv (pc := 27) 3 (by decide) dX6_newName_27 ?_
      obtain ⟨v4, M5, ev4, h⟩ := fm_bdp h
      refine fm_callV (pc := 28) mX6_refuse [_] _ rfl cvX6_refuse ml_6_113 sh_1 rfl rfl (Nat.le_of_ble_eq_true rfl) (Nat.le_of_ble_eq_true rfl) dX6_newName_28 ?_
      refine sp_X6_refuse ev4 ?_
      refine fm_ret0 ?_
      refine fm_goto (pc := 31) 38 (by decide) dX6_newName_31 ?_
      refine fl_iload2 (pc := 38) dX6_newName_38 ?_
      refine fm_iret (pc := 39) rfl ?_ dX6_newName_39
      cases h
      exact hq
  · replace h := fm_itn c10 h
    refine fl_aload0 (pc := 13) dX6_newName_13 ?_
    refine fm_iconstv (pc := 14) 1 (by decide) dX6_newName_14 ?_
    obtain ⟨v6, M7, ev6, h⟩ := fm_bdp h
    refine fm_callV (pc := 15) mX6_refuse [_] _ rfl cvX6_refuse ml_6_113 sh_1 rfl rfl (Nat.le_of_ble_eq_true rfl) (Nat.le_of_ble_eq_true rfl) dX6_newName_15 ?_
    refine sp_X6_refuse ev6 ?_
    refine fm_ret0 ?_
    refine fm_goto (pc := 18) 38 (by decide) dX6_newName_18 ?_
    refine fl_iload2 (pc := 38) dX6_newName_38 ?_
    refine fm_iret (pc := 39) rfl ?_ dX6_newName_39
    cases h
    exact hq
/-! X6_readFork -/
def F_X6_readFork  (M : fm_M) : Option (Unit × fm_M) :=
    fm_lt (Int32.toNatClampNeg (M.1 1 5)) (fun t1 =>
    fm_gd (fm_isTd t1) (
    fm_lt ((M.1 t1 0)) (fun x3 =>
    if x3 < 8 then (
      fm_bd (F_X6_advance M) (fun v4 M5 =>
      fm_lt (Int32.toNatClampNeg (M5.1 1 5)) (fun t6 =>
      fm_gd (fm_isTd t6) (
      fm_lt (Int32.toNatClampNeg (M5.1 1 5)) (fun t8 =>
      fm_gd (fm_isTd t8) (
      fm_bd (F_X8_forkNamed t8 (M5.1 1 10) M5) (fun v10 M11 =>
      fm_bd (F_X6_newName v10 M11) (fun v12 M13 =>
      fm_gd (fm_inb x3 8) (
      fm_lt (fm_up M13 (t6 + 1) (Int32.toNatClampNeg x3) v12) (fun M15 =>
      fm_lt (Int32.toNatClampNeg (M15.1 1 5)) (fun t16 =>
      fm_gd (fm_isTd t16) (
      fm_bd (F_X6_number 100 999 M15) (fun v18 M19 =>
      fm_gd (fm_inb x3 8) (
      fm_lt (fm_up M19 (t16 + 2) (Int32.toNatClampNeg x3) v18) (fun M21 =>
      fm_lt (Int32.toNatClampNeg (M21.1 1 5)) (fun t22 =>
      fm_gd (fm_isTd t22) (
      fm_bd (F_X6_number 0 99 M21) (fun v24 M25 =>
      fm_gd (fm_inb x3 8) (
      fm_lt (fm_up M25 (t22 + 3) (Int32.toNatClampNeg x3) v24) (fun M27 =>
      fm_lt (Int32.toNatClampNeg (M27.1 1 5)) (fun t28 =>
      fm_gd (fm_isTd t28) (
      fm_bd (F_X6_number 0 9 M27) (fun v30 M31 =>
      fm_gd (fm_inb x3 8) (
      fm_lt (fm_up M31 (t28 + 4) (Int32.toNatClampNeg x3) v30) (fun M33 =>
      fm_lt (Int32.toNatClampNeg (M33.1 1 5)) (fun t34 =>
      fm_gd (fm_isTd t34) (
      fm_bd (F_X6_number 0 3 M33) (fun v36 M37 =>
      fm_gd (fm_inb x3 8) (
      fm_lt (fm_up M37 (t34 + 5) (Int32.toNatClampNeg x3) v36) (fun M39 =>
      fm_lt (Int32.toNatClampNeg (M39.1 1 5)) (fun t40 =>
      fm_gd (fm_isTd t40) (
      fm_lt (fm_up M39 t40 0 ((M39.1 t40 0) + 1)) (fun M42 =>
      some ((), M42)))))))))))))))))))))))))))))))))
    ) else (
      fm_bd (F_X6_refuse 2 M) (fun v43 M44 =>
      some ((), M44))
    ))))
theorem sp_X6_readFork {d : Nat}  {M : fm_M} {x : Unit × fm_M} {Q : Option Value → fm_M → Prop} (h : F_X6_readFork  M = some x) (hq : Q none x.2) : fm_ct (d + 4) mX6_readFork [.ref 1] M Q := by
  rw [F_X6_readFork] at h
  show fm_mw (d + 4) mX6_readFork Q 0 [some (.ref 1), none] [] M
  refine fl_aload0 (pc := 0) dX6_readFork_0 ?_
  obtain ⟨t1, et1, h⟩ := fm_ltp h
  obtain ⟨g2, h⟩ := fm_gdp h
  refine fm_getm (pc := 1) (fm_nn et1 g2) lk_6_26 sh_1 rfl dX6_readFork_1 ?_
  refine fm_cgr et1 ?_
  refine fm_geti (pc := 4) lk_6_120 (shTd0 g2) rfl dX6_readFork_4 ?_
  obtain ⟨x3, ex3, h⟩ := fm_ltp h
  refine fm_cgi ex3 ?_
  refine fl_istore1 (pc := 7) rfl (by decide) dX6_readFork_7 ?_
  refine fl_iload1 (pc := 8) dX6_readFork_8 ?_
  refine fm_bipushv (pc := 9) 8 (by decide) dX6_readFork_9 ?_
  refine fm_icmp_lt (pc := 11) 20 (by decide) dX6_readFork_11 (fun c11 => ?_) (fun c11 => ?_)
  · replace h := fm_itp c11 h
    refine fl_aload0 (pc := 20) dX6_readFork_20 ?_
    obtain ⟨v4, M5, ev4, h⟩ := fm_bdp h
    refine fm_callV (pc := 21) mX6_advance [] _ rfl cvX6_advance ml_6_70 sh_1 rfl rfl (Nat.le_of_ble_eq_true rfl) (Nat.le_of_ble_eq_true rfl) dX6_readFork_21 ?_
    refine sp_X6_advance ev4 ?_
    refine fm_ret0 ?_
    refine fl_aload0 (pc := 24) dX6_readFork_24 ?_
    obtain ⟨t6, et6, h⟩ := fm_ltp h
    obtain ⟨g7, h⟩ := fm_gdp h
    refine fm_getm (pc := 25) (fm_nn et6 g7) lk_6_26 sh_1 rfl dX6_readFork_25 ?_
    refine fm_cgr et6 ?_
    refine fm_getr (pc := 28) lk_6_123 (shTd0 g7) rfl dX6_readFork_28 ?_
    refine fl_iload1 (pc := 31) dX6_readFork_31 ?_
    refine fl_aload0 (pc := 32) dX6_readFork_32 ?_
    refine fl_aload0 (pc := 33) dX6_readFork_33 ?_
    obtain ⟨t8, et8, h⟩ := fm_ltp h
    obtain ⟨g9, h⟩ := fm_gdp h
    refine fm_getm (pc := 34) (fm_nn et8 g9) lk_6_26 sh_1 rfl dX6_readFork_34 ?_
    refine fm_cgr et8 ?_
    refine fl_aload0 (pc := 37) dX6_readFork_37 ?_
    refine fm_geti (pc := 38) lk_6_126 sh_1 rfl dX6_readFork_38 ?_
    obtain ⟨v10, M11, ev10, h⟩ := fm_bdp h
    refine fm_callV (pc := 41) mX8_forkNamed [_] _ rfl cvX8_forkNamed ml_6_129 (shTd0 g9) rfl rfl (Nat.le_of_ble_eq_true rfl) (Nat.le_of_ble_eq_true rfl) dX6_readFork_41 ?_
    refine sp_X8_forkNamed ev10 ?_
    refine fm_ret1 ?_
    obtain ⟨v12, M13, ev12, h⟩ := fm_bdp h
    refine fm_callV (pc := 44) mX6_newName [_] _ rfl cvX6_newName ml_6_132 sh_1 rfl rfl (Nat.le_of_ble_eq_true rfl) (Nat.le_of_ble_eq_true rfl) dX6_readFork_44 ?_
    refine sp_X6_newName ev12 ?_
    refine fm_ret1 ?_
    obtain ⟨g14, h⟩ := fm_gdp h
    refine fm_iast (pc := 47) (shTd1 g7) (fm_inb_ok g14) dX6_readFork_47 ?_
    obtain ⟨M15, eM15, h⟩ := fm_ltp h
    refine fm_cgm eM15 ?_
    refine fl_aload0 (pc := 48) dX6_readFork_48 ?_
    obtain ⟨t16, et16, h⟩ := fm_ltp h
    obtain ⟨g17, h⟩ := fm_gdp h
    refine fm_getm (pc := 49) (fm_nn et16 g17) lk_6_26 sh_1 rfl dX6_readFork_49 ?_
    refine fm_cgr et16 ?_
    refine fm_getr (pc := 52) lk_6_135 (shTd0 g17) rfl dX6_readFork_52 ?_
    refine fl_iload1 (pc := 55) dX6_readFork_55 ?_
    refine fl_aload0 (pc := 56) dX6_readFork_56 ?_
    refine fm_bipushv (pc := 57) 100 (by decide) dX6_readFork_57 ?_
    refine fm_sipushv (pc := 59) 999 (by decide) dX6_readFork_59 ?_
    obtain ⟨v18, M19, ev18, h⟩ := fm_bdp h
    refine fm_callV (pc := 62) mX6_number [_, _] _ rfl cvX6_number ml_6_91 sh_1 rfl rfl (Nat.le_of_ble_eq_true rfl) (Nat.le_of_ble_eq_true rfl) dX6_readFork_62 ?_
    refine sp_X6_number ev18 ?_
    refine fm_ret1 ?_
    obtain ⟨g20, h⟩ := fm_gdp h
    refine fm_iast (pc := 65) (shTd2 g17) (fm_inb_ok g20) dX6_readFork_65 ?_
    obtain ⟨M21, eM21, h⟩ := fm_ltp h
    refine fm_cgm eM21 ?_
    refine fl_aload0 (pc := 66) dX6_readFork_66 ?_
    obtain ⟨t22, et22, h⟩ := fm_ltp h
    obtain ⟨g23, h⟩ := fm_gdp h
    refine fm_getm (pc := 67) (fm_nn et22 g23) lk_6_26 sh_1 rfl dX6_readFork_67 ?_
    refine fm_cgr et22 ?_
    refine fm_getr (pc := 70) lk_6_138 (shTd0 g23) rfl dX6_readFork_70 ?_
    refine fl_iload1 (pc := 73) dX6_readFork_73 ?_
    refine fl_aload0 (pc := 74) dX6_readFork_74 ?_
    refine fm_iconstv (pc := 75) 0 (by decide) dX6_readFork_75 ?_
    refine fm_bipushv (pc := 76) 99 (by decide) dX6_readFork_76 ?_
    obtain ⟨v24, M25, ev24, h⟩ := fm_bdp h
    refine fm_callV (pc := 78) mX6_number [_, _] _ rfl cvX6_number ml_6_91 sh_1 rfl rfl (Nat.le_of_ble_eq_true rfl) (Nat.le_of_ble_eq_true rfl) dX6_readFork_78 ?_
    refine sp_X6_number ev24 ?_
    refine fm_ret1 ?_
    obtain ⟨g26, h⟩ := fm_gdp h
    refine fm_iast (pc := 81) (shTd3 g23) (fm_inb_ok g26) dX6_readFork_81 ?_
    obtain ⟨M27, eM27, h⟩ := fm_ltp h
    refine fm_cgm eM27 ?_
    refine fl_aload0 (pc := 82) dX6_readFork_82 ?_
    obtain ⟨t28, et28, h⟩ := fm_ltp h
    obtain ⟨g29, h⟩ := fm_gdp h
    refine fm_getm (pc := 83) (fm_nn et28 g29) lk_6_26 sh_1 rfl dX6_readFork_83 ?_
    refine fm_cgr et28 ?_
    refine fm_getr (pc := 86) lk_6_141 (shTd0 g29) rfl dX6_readFork_86 ?_
    refine fl_iload1 (pc := 89) dX6_readFork_89 ?_
    refine fl_aload0 (pc := 90) dX6_readFork_90 ?_
    refine fm_iconstv (pc := 91) 0 (by decide) dX6_readFork_91 ?_
    refine fm_bipushv (pc := 92) 9 (by decide) dX6_readFork_92 ?_
    obtain ⟨v30, M31, ev30, h⟩ := fm_bdp h
    refine fm_callV (pc := 94) mX6_number [_, _] _ rfl cvX6_number ml_6_91 sh_1 rfl rfl (Nat.le_of_ble_eq_true rfl) (Nat.le_of_ble_eq_true rfl) dX6_readFork_94 ?_
    refine sp_X6_number ev30 ?_
    refine fm_ret1 ?_
    obtain ⟨g32, h⟩ := fm_gdp h
    refine fm_iast (pc := 97) (shTd4 g29) (fm_inb_ok g32) dX6_readFork_97 ?_
    obtain ⟨M33, eM33, h⟩ := fm_ltp h
    refine fm_cgm eM33 ?_
    refine fl_aload0 (pc := 98) dX6_readFork_98 ?_
    obtain ⟨t34, et34, h⟩ := fm_ltp h
    obtain ⟨g35, h⟩ := fm_gdp h
    refine fm_getm (pc := 99) (fm_nn et34 g35) lk_6_26 sh_1 rfl dX6_readFork_99 ?_
    refine fm_cgr et34 ?_
    refine fm_getr (pc := 102) lk_6_144 (shTd0 g35) rfl dX6_readFork_102 ?_
    refine fl_iload1 (pc := 105) dX6_readFork_105 ?_
    refine fl_aload0 (pc := 106) dX6_readFork_106 ?_
    refine fm_iconstv (pc := 107) 0 (by decide) dX6_readFork_107 ?_
    refine fm_iconstv (pc := 108) 3 (by decide) dX6_readFork_108 ?_
    obtain ⟨v36, M37, ev36, h⟩ := fm_bdp h
    refine fm_callV (pc := 109) mX6_number [_, _] _ rfl cvX6_number ml_6_91 sh_1 rfl rfl (Nat.le_of_ble_eq_true rfl) (Nat.le_of_ble_eq_true rfl) dX6_readFork_109 ?_
    refine sp_X6_number ev36 ?_
    refine fm_ret1 ?_
    obtain ⟨g38, h⟩ := fm_gdp h
    refine fm_iast (pc := 112) (shTd5 g35) (fm_inb_ok g38) dX6_readFork_112 ?_
    obtain ⟨M39, eM39, h⟩ := fm_ltp h
    refine fm_cgm eM39 ?_
    refine fl_aload0 (pc := 113) dX6_readFork_113 ?_
    obtain ⟨t40, et40, h⟩ := fm_ltp h
    obtain ⟨g41, h⟩ := fm_gdp h
    refine fm_getm (pc := 114) (fm_nn et40 g41) lk_6_26 sh_1 rfl dX6_readFork_114 ?_
    refine fm_cgr et40 ?_
    refine fm_dup (pc := 117) rfl dX6_readFork_117 ?_
    refine fm_geti (pc := 118) lk_6_120 (shTd0 g41) rfl dX6_readFork_118 ?_
    refine fm_iconstv (pc := 121) 1 (by decide) dX6_readFork_121 ?_
    refine fm_iadd (pc := 122) dX6_readFork_122 ?_
    refine fm_puti (pc := 123) lp_6_120 (shTd0 g41) rfl dX6_readFork_123 ?_
    obtain ⟨M42, eM42, h⟩ := fm_ltp h
    refine fm_cgm eM42 ?_
    refine fm_vret (pc := 126) rfl ?_ dX6_readFork_126
    cases h
    exact hq
  · replace h := fm_itn c11 h
    refine fl_aload0 (pc := 14) dX6_readFork_14 ?_
    refine fm_iconstv (pc := 15) 2 (by decide) dX6_readFork_15 ?_
    obtain ⟨v43, M44, ev43, h⟩ := fm_bdp h
    refine fm_callV (pc := 16) mX6_refuse [_] _ rfl cvX6_refuse ml_6_113 sh_1 rfl rfl (Nat.le_of_ble_eq_true rfl) (Nat.le_of_ble_eq_true rfl) dX6_readFork_16 ?_
    refine sp_X6_refuse ev43 ?_
    refine fm_ret0 ?_
    refine fm_vret (pc := 19) rfl ?_ dX6_readFork_19
    cases h
    exact hq
/-! X6_passKnot -/
def F_X6_passKnot  (M : fm_M) : Option (Unit × fm_M) :=
    fm_lt (Int32.toNatClampNeg (M.1 1 5)) (fun t1 =>
    fm_gd (fm_isTd t1) (
    if (M.1 (t1 + 10) 5) < 64 then (
      fm_lt (Int32.toNatClampNeg (M.1 1 5)) (fun t3 =>
      fm_gd (fm_isTd t3) (
      fm_lt (fm_up M (t3 + 10) 5 ((M.1 (t3 + 10) 5) + 1)) (fun M5 =>
      fm_bd (F_X6_advance M5) (fun v6 M7 =>
      some ((), M7)))))
    ) else (
      fm_bd (F_X6_refuse 2 M) (fun v8 M9 =>
      some ((), M9))
    )))
theorem sp_X6_passKnot {d : Nat}  {M : fm_M} {x : Unit × fm_M} {Q : Option Value → fm_M → Prop} (h : F_X6_passKnot  M = some x) (hq : Q none x.2) : fm_ct (d + 3) mX6_passKnot [.ref 1] M Q := by
  rw [F_X6_passKnot] at h
  show fm_mw (d + 3) mX6_passKnot Q 0 [some (.ref 1)] [] M
  refine fl_aload0 (pc := 0) dX6_passKnot_0 ?_
  obtain ⟨t1, et1, h⟩ := fm_ltp h
  obtain ⟨g2, h⟩ := fm_gdp h
  refine fm_getm (pc := 1) (fm_nn et1 g2) lk_6_26 sh_1 rfl dX6_passKnot_1 ?_
  refine fm_cgr et1 ?_
  refine fm_getr (pc := 4) lk_6_174 (shTd0 g2) rfl dX6_passKnot_4 ?_
  refine fm_geti (pc := 7) lk_6_218 (shTd10 g2) rfl dX6_passKnot_7 ?_
  refine fm_bipushv (pc := 10) 64 (by decide) dX6_passKnot_10 ?_
  refine fm_icmp_lt (pc := 12) 23 (by decide) dX6_passKnot_12 (fun c12 => ?_) (fun c12 => ?_)
  · replace h := fm_itp c12 h
    refine fl_aload0 (pc := 23) dX6_passKnot_23 ?_
    obtain ⟨t3, et3, h⟩ := fm_ltp h
    obtain ⟨g4, h⟩ := fm_gdp h
    refine fm_getm (pc := 24) (fm_nn et3 g4) lk_6_26 sh_1 rfl dX6_passKnot_24 ?_
    refine fm_cgr et3 ?_
    refine fm_getr (pc := 27) lk_6_174 (shTd0 g4) rfl dX6_passKnot_27 ?_
    refine fm_dup (pc := 30) rfl dX6_passKnot_30 ?_
    refine fm_geti (pc := 31) lk_6_218 (shTd10 g4) rfl dX6_passKnot_31 ?_
    refine fm_iconstv (pc := 34) 1 (by decide) dX6_passKnot_34 ?_
    refine fm_iadd (pc := 35) dX6_passKnot_35 ?_
    refine fm_puti (pc := 36) lp_6_218 (shTd10 g4) rfl dX6_passKnot_36 ?_
    obtain ⟨M5, eM5, h⟩ := fm_ltp h
    refine fm_cgm eM5 ?_
    refine fl_aload0 (pc := 39) dX6_passKnot_39 ?_
    obtain ⟨v6, M7, ev6, h⟩ := fm_bdp h
    refine fm_callV (pc := 40) mX6_advance [] _ rfl cvX6_advance ml_6_70 sh_1 rfl rfl (Nat.le_of_ble_eq_true rfl) (Nat.le_of_ble_eq_true rfl) dX6_passKnot_40 ?_
    refine sp_X6_advance ev6 ?_
    refine fm_ret0 ?_
    refine fm_vret (pc := 43) rfl ?_ dX6_passKnot_43
    cases h
    exact hq
  · replace h := fm_itn c12 h
    refine fl_aload0 (pc := 15) dX6_passKnot_15 ?_
    refine fm_iconstv (pc := 16) 2 (by decide) dX6_passKnot_16 ?_
    obtain ⟨v8, M9, ev8, h⟩ := fm_bdp h
    refine fm_callV (pc := 17) mX6_refuse [_] _ rfl cvX6_refuse ml_6_113 sh_1 rfl rfl (Nat.le_of_ble_eq_true rfl) (Nat.le_of_ble_eq_true rfl) dX6_passKnot_17 ?_
    refine sp_X6_refuse ev8 ?_
    refine fm_ret0 ?_
    refine fm_goto (pc := 20) 43 (by decide) dX6_passKnot_20 ?_
    refine fm_vret (pc := 43) rfl ?_ dX6_passKnot_43
    cases h
    exact hq
/-! X8_motionNamed -/
def F_X8_motionNamed (a0 : Nat) (a1 : Int32) (M : fm_M) : Option (Int32 × fm_M) :=
    fm_gd (fm_isTd a0) (
    fm_bd (F_X8_placeOf a1 (a0 + 6) (M.1 a0 7) M) (fun v1 M2 =>
    some (v1, M2)))
theorem sp_X8_motionNamed {d : Nat} {a0 : Nat} {a1 : Int32} {M : fm_M} {x : Int32 × fm_M} {Q : Option Value → fm_M → Prop} (h : F_X8_motionNamed a0 a1 M = some x) (hq : Q (some (.int x.1)) x.2) : fm_ct (d + 1) mX8_motionNamed [.ref a0, .int a1] M Q := by
  rw [F_X8_motionNamed] at h
  show fm_mw (d + 1) mX8_motionNamed Q 0 [some (.ref a0), some (.int a1)] [] M
  obtain ⟨ga0, h⟩ := fm_gdp h
  refine fl_iload1 (pc := 0) dX8_motionNamed_0 ?_
  refine fl_aload0 (pc := 1) dX8_motionNamed_1 ?_
  refine fm_getr (pc := 2) lk_8_27 (shTd0 ga0) rfl dX8_motionNamed_2 ?_
  refine fl_aload0 (pc := 5) dX8_motionNamed_5 ?_
  refine fm_geti (pc := 6) lk_8_62 (shTd0 ga0) rfl dX8_motionNamed_6 ?_
  obtain ⟨v1, M2, ev1, h⟩ := fm_bdp h
  refine fm_callS (pc := 9) mX8_placeOf [_, _, _] _ rfl csX8_placeOf ml_8_74 rfl (Nat.le_of_ble_eq_true rfl) (Nat.le_of_ble_eq_true rfl) dX8_motionNamed_9 ?_
  refine sp_X8_placeOf ev1 ?_
  refine fm_ret1 ?_
  refine fm_iret (pc := 12) rfl ?_ dX8_motionNamed_12
  cases h
  exact hq
/-! X6_readMotion -/
def F_X6_readMotion  (M : fm_M) : Option (Unit × fm_M) :=
    fm_lt (Int32.toNatClampNeg (M.1 1 5)) (fun t1 =>
    fm_gd (fm_isTd t1) (
    fm_lt ((M.1 t1 7)) (fun x3 =>
    if x3 < 10 then (
      fm_bd (F_X6_advance M) (fun v4 M5 =>
      fm_lt (Int32.toNatClampNeg (M5.1 1 5)) (fun t6 =>
      fm_gd (fm_isTd t6) (
      fm_lt (Int32.toNatClampNeg (M5.1 1 5)) (fun t8 =>
      fm_gd (fm_isTd t8) (
      fm_bd (F_X8_motionNamed t8 (M5.1 1 10) M5) (fun v10 M11 =>
      fm_bd (F_X6_newName v10 M11) (fun v12 M13 =>
      fm_gd (fm_inb x3 10) (
      fm_lt (fm_up M13 (t6 + 6) (Int32.toNatClampNeg x3) v12) (fun M15 =>
      fm_lt (Int32.toNatClampNeg (M15.1 1 5)) (fun t16 =>
      fm_gd (fm_isTd t16) (
      fm_bd (F_X6_number 100 999 M15) (fun v18 M19 =>
      fm_gd (fm_inb x3 10) (
      fm_lt (fm_up M19 (t16 + 7) (Int32.toNatClampNeg x3) v18) (fun M21 =>
      fm_lt (Int32.toNatClampNeg (M21.1 1 5)) (fun t22 =>
      fm_gd (fm_isTd t22) (
      fm_bd (F_X6_number 0 99 M21) (fun v24 M25 =>
      fm_gd (fm_inb x3 10) (
      fm_lt (fm_up M25 (t22 + 8) (Int32.toNatClampNeg x3) v24) (fun M27 =>
      fm_lt (Int32.toNatClampNeg (M27.1 1 5)) (fun t28 =>
      fm_gd (fm_isTd t28) (
      fm_lt (fm_up M27 t28 7 ((M27.1 t28 7) + 1)) (fun M30 =>
      some ((), M30)))))))))))))))))))))))
    ) else (
      fm_bd (F_X6_refuse 2 M) (fun v31 M32 =>
      some ((), M32))
    ))))
theorem sp_X6_readMotion {d : Nat}  {M : fm_M} {x : Unit × fm_M} {Q : Option Value → fm_M → Prop} (h : F_X6_readMotion  M = some x) (hq : Q none x.2) : fm_ct (d + 4) mX6_readMotion [.ref 1] M Q := by
  rw [F_X6_readMotion] at h
  show fm_mw (d + 4) mX6_readMotion Q 0 [some (.ref 1), none] [] M
  refine fl_aload0 (pc := 0) dX6_readMotion_0 ?_
  obtain ⟨t1, et1, h⟩ := fm_ltp h
  obtain ⟨g2, h⟩ := fm_gdp h
  refine fm_getm (pc := 1) (fm_nn et1 g2) lk_6_26 sh_1 rfl dX6_readMotion_1 ?_
  refine fm_cgr et1 ?_
  refine fm_geti (pc := 4) lk_6_147 (shTd0 g2) rfl dX6_readMotion_4 ?_
  obtain ⟨x3, ex3, h⟩ := fm_ltp h
  refine fm_cgi ex3 ?_
  refine fl_istore1 (pc := 7) rfl (by decide) dX6_readMotion_7 ?_
  refine fl_iload1 (pc := 8) dX6_readMotion_8 ?_
  refine fm_bipushv (pc := 9) 10 (by decide) dX6_readMotion_9 ?_
  refine fm_icmp_lt (pc := 11) 20 (by decide) dX6_readMotion_11 (fun c11 => ?_) (fun c11 => ?_)
  · replace h := fm_itp c11 h
    refine fl_aload0 (pc := 20) dX6_readMotion_20 ?_
    obtain ⟨v4, M5, ev4, h⟩ := fm_bdp h
    refine fm_callV (pc := 21) mX6_advance [] _ rfl cvX6_advance ml_6_70 sh_1 rfl rfl (Nat.le_of_ble_eq_true rfl) (Nat.le_of_ble_eq_true rfl) dX6_readMotion_21 ?_
    refine sp_X6_advance ev4 ?_
    refine fm_ret0 ?_
    refine fl_aload0 (pc := 24) dX6_readMotion_24 ?_
    obtain ⟨t6, et6, h⟩ := fm_ltp h
    obtain ⟨g7, h⟩ := fm_gdp h
    refine fm_getm (pc := 25) (fm_nn et6 g7) lk_6_26 sh_1 rfl dX6_readMotion_25 ?_
    refine fm_cgr et6 ?_
    refine fm_getr (pc := 28) lk_6_150 (shTd0 g7) rfl dX6_readMotion_28 ?_
    refine fl_iload1 (pc := 31) dX6_readMotion_31 ?_
    refine fl_aload0 (pc := 32) dX6_readMotion_32 ?_
    refine fl_aload0 (pc := 33) dX6_readMotion_33 ?_
    obtain ⟨t8, et8, h⟩ := fm_ltp h
    obtain ⟨g9, h⟩ := fm_gdp h
    refine fm_getm (pc := 34) (fm_nn et8 g9) lk_6_26 sh_1 rfl dX6_readMotion_34 ?_
    refine fm_cgr et8 ?_
    refine fl_aload0 (pc := 37) dX6_readMotion_37 ?_
    refine fm_geti (pc := 38) lk_6_126 sh_1 rfl dX6_readMotion_38 ?_
    obtain ⟨v10, M11, ev10, h⟩ := fm_bdp h
    refine fm_callV (pc := 41) mX8_motionNamed [_] _ rfl cvX8_motionNamed ml_6_153 (shTd0 g9) rfl rfl (Nat.le_of_ble_eq_true rfl) (Nat.le_of_ble_eq_true rfl) dX6_readMotion_41 ?_
    refine sp_X8_motionNamed ev10 ?_
    refine fm_ret1 ?_
    obtain ⟨v12, M13, ev12, h⟩ := fm_bdp h
    refine fm_callV (pc := 44) mX6_newName [_] _ rfl cvX6_newName ml_6_132 sh_1 rfl rfl (Nat.le_of_ble_eq_true rfl) (Nat.le_of_ble_eq_true rfl) dX6_readMotion_44 ?_
    refine sp_X6_newName ev12 ?_
    refine fm_ret1 ?_
    obtain ⟨g14, h⟩ := fm_gdp h
    refine fm_iast (pc := 47) (shTd6 g7) (fm_inb_ok g14) dX6_readMotion_47 ?_
    obtain ⟨M15, eM15, h⟩ := fm_ltp h
    refine fm_cgm eM15 ?_
    refine fl_aload0 (pc := 48) dX6_readMotion_48 ?_
    obtain ⟨t16, et16, h⟩ := fm_ltp h
    obtain ⟨g17, h⟩ := fm_gdp h
    refine fm_getm (pc := 49) (fm_nn et16 g17) lk_6_26 sh_1 rfl dX6_readMotion_49 ?_
    refine fm_cgr et16 ?_
    refine fm_getr (pc := 52) lk_6_156 (shTd0 g17) rfl dX6_readMotion_52 ?_
    refine fl_iload1 (pc := 55) dX6_readMotion_55 ?_
    refine fl_aload0 (pc := 56) dX6_readMotion_56 ?_
    refine fm_bipushv (pc := 57) 100 (by decide) dX6_readMotion_57 ?_
    refine fm_sipushv (pc := 59) 999 (by decide) dX6_readMotion_59 ?_
    obtain ⟨v18, M19, ev18, h⟩ := fm_bdp h
    refine fm_callV (pc := 62) mX6_number [_, _] _ rfl cvX6_number ml_6_91 sh_1 rfl rfl (Nat.le_of_ble_eq_true rfl) (Nat.le_of_ble_eq_true rfl) dX6_readMotion_62 ?_
    refine sp_X6_number ev18 ?_
    refine fm_ret1 ?_
    obtain ⟨g20, h⟩ := fm_gdp h
    refine fm_iast (pc := 65) (shTd7 g17) (fm_inb_ok g20) dX6_readMotion_65 ?_
    obtain ⟨M21, eM21, h⟩ := fm_ltp h
    refine fm_cgm eM21 ?_
    refine fl_aload0 (pc := 66) dX6_readMotion_66 ?_
    obtain ⟨t22, et22, h⟩ := fm_ltp h
    obtain ⟨g23, h⟩ := fm_gdp h
    refine fm_getm (pc := 67) (fm_nn et22 g23) lk_6_26 sh_1 rfl dX6_readMotion_67 ?_
    refine fm_cgr et22 ?_
    refine fm_getr (pc := 70) lk_6_159 (shTd0 g23) rfl dX6_readMotion_70 ?_
    refine fl_iload1 (pc := 73) dX6_readMotion_73 ?_
    refine fl_aload0 (pc := 74) dX6_readMotion_74 ?_
    refine fm_iconstv (pc := 75) 0 (by decide) dX6_readMotion_75 ?_
    refine fm_bipushv (pc := 76) 99 (by decide) dX6_readMotion_76 ?_
    obtain ⟨v24, M25, ev24, h⟩ := fm_bdp h
    refine fm_callV (pc := 78) mX6_number [_, _] _ rfl cvX6_number ml_6_91 sh_1 rfl rfl (Nat.le_of_ble_eq_true rfl) (Nat.le_of_ble_eq_true rfl) dX6_readMotion_78 ?_
    refine sp_X6_number ev24 ?_
    refine fm_ret1 ?_
    obtain ⟨g26, h⟩ := fm_gdp h
    refine fm_iast (pc := 81) (shTd8 g23) (fm_inb_ok g26) dX6_readMotion_81 ?_
    obtain ⟨M27, eM27, h⟩ := fm_ltp h
    refine fm_cgm eM27 ?_
    refine fl_aload0 (pc := 82) dX6_readMotion_82 ?_
    obtain ⟨t28, et28, h⟩ := fm_ltp h
    obtain ⟨g29, h⟩ := fm_gdp h
    refine fm_getm (pc := 83) (fm_nn et28 g29) lk_6_26 sh_1 rfl dX6_readMotion_83 ?_
    refine fm_cgr et28 ?_
    refine fm_dup (pc := 86) rfl dX6_readMotion_86 ?_
    refine fm_geti (pc := 87) lk_6_147 (shTd0 g29) rfl dX6_readMotion_87 ?_
    refine fm_iconstv (pc := 90) 1 (by decide) dX6_readMotion_90 ?_
    refine fm_iadd (pc := 91) dX6_readMotion_91 ?_
    refine fm_puti (pc := 92) lp_6_147 (shTd0 g29) rfl dX6_readMotion_92 ?_
    obtain ⟨M30, eM30, h⟩ := fm_ltp h
    refine fm_cgm eM30 ?_
    refine fm_vret (pc := 95) rfl ?_ dX6_readMotion_95
    cases h
    exact hq
  · replace h := fm_itn c11 h
    refine fl_aload0 (pc := 14) dX6_readMotion_14 ?_
    refine fm_iconstv (pc := 15) 2 (by decide) dX6_readMotion_15 ?_
    obtain ⟨v31, M32, ev31, h⟩ := fm_bdp h
    refine fm_callV (pc := 16) mX6_refuse [_] _ rfl cvX6_refuse ml_6_113 sh_1 rfl rfl (Nat.le_of_ble_eq_true rfl) (Nat.le_of_ble_eq_true rfl) dX6_readMotion_16 ?_
    refine sp_X6_refuse ev31 ?_
    refine fm_ret0 ?_
    refine fm_vret (pc := 19) rfl ?_ dX6_readMotion_19
    cases h
    exact hq
/-! X6_readWet -/
def F_X6_readWet  (M : fm_M) : Option (Unit × fm_M) :=
    fm_lt (Int32.toNatClampNeg (M.1 1 5)) (fun t1 =>
    fm_gd (fm_isTd t1) (
    if (M.1 t1 11) < 8 then (
      fm_bd (F_X6_advance M) (fun v3 M4 =>
      fm_lt (Int32.toNatClampNeg (M4.1 1 5)) (fun t5 =>
      fm_gd (fm_isTd t5) (
      fm_lt (Int32.toNatClampNeg (M4.1 1 5)) (fun t7 =>
      fm_gd (fm_isTd t7) (
      fm_bd (F_X6_number 0 9 M4) (fun v9 M10 =>
      fm_gd (fm_inb (M4.1 t7 11) 8) (
      fm_lt (fm_up M10 (t5 + 9) (Int32.toNatClampNeg (M4.1 t7 11)) v9) (fun M12 =>
      fm_lt (Int32.toNatClampNeg (M12.1 1 5)) (fun t13 =>
      fm_gd (fm_isTd t13) (
      fm_lt (fm_up M12 t13 11 ((M12.1 t13 11) + 1)) (fun M15 =>
      some ((), M15))))))))))))
    ) else (
      fm_bd (F_X6_refuse 2 M) (fun v16 M17 =>
      some ((), M17))
    )))
theorem sp_X6_readWet {d : Nat}  {M : fm_M} {x : Unit × fm_M} {Q : Option Value → fm_M → Prop} (h : F_X6_readWet  M = some x) (hq : Q none x.2) : fm_ct (d + 4) mX6_readWet [.ref 1] M Q := by
  rw [F_X6_readWet] at h
  show fm_mw (d + 4) mX6_readWet Q 0 [some (.ref 1)] [] M
  refine fl_aload0 (pc := 0) dX6_readWet_0 ?_
  obtain ⟨t1, et1, h⟩ := fm_ltp h
  obtain ⟨g2, h⟩ := fm_gdp h
  refine fm_getm (pc := 1) (fm_nn et1 g2) lk_6_26 sh_1 rfl dX6_readWet_1 ?_
  refine fm_cgr et1 ?_
  refine fm_geti (pc := 4) lk_6_168 (shTd0 g2) rfl dX6_readWet_4 ?_
  refine fm_bipushv (pc := 7) 8 (by decide) dX6_readWet_7 ?_
  refine fm_icmp_lt (pc := 9) 18 (by decide) dX6_readWet_9 (fun c9 => ?_) (fun c9 => ?_)
  · replace h := fm_itp c9 h
    refine fl_aload0 (pc := 18) dX6_readWet_18 ?_
    obtain ⟨v3, M4, ev3, h⟩ := fm_bdp h
    refine fm_callV (pc := 19) mX6_advance [] _ rfl cvX6_advance ml_6_70 sh_1 rfl rfl (Nat.le_of_ble_eq_true rfl) (Nat.le_of_ble_eq_true rfl) dX6_readWet_19 ?_
    refine sp_X6_advance ev3 ?_
    refine fm_ret0 ?_
    refine fl_aload0 (pc := 22) dX6_readWet_22 ?_
    obtain ⟨t5, et5, h⟩ := fm_ltp h
    obtain ⟨g6, h⟩ := fm_gdp h
    refine fm_getm (pc := 23) (fm_nn et5 g6) lk_6_26 sh_1 rfl dX6_readWet_23 ?_
    refine fm_cgr et5 ?_
    refine fm_getr (pc := 26) lk_6_171 (shTd0 g6) rfl dX6_readWet_26 ?_
    refine fl_aload0 (pc := 29) dX6_readWet_29 ?_
    obtain ⟨t7, et7, h⟩ := fm_ltp h
    obtain ⟨g8, h⟩ := fm_gdp h
    refine fm_getm (pc := 30) (fm_nn et7 g8) lk_6_26 sh_1 rfl dX6_readWet_30 ?_
    refine fm_cgr et7 ?_
    refine fm_geti (pc := 33) lk_6_168 (shTd0 g8) rfl dX6_readWet_33 ?_
    refine fl_aload0 (pc := 36) dX6_readWet_36 ?_
    refine fm_iconstv (pc := 37) 0 (by decide) dX6_readWet_37 ?_
    refine fm_bipushv (pc := 38) 9 (by decide) dX6_readWet_38 ?_
    obtain ⟨v9, M10, ev9, h⟩ := fm_bdp h
    refine fm_callV (pc := 40) mX6_number [_, _] _ rfl cvX6_number ml_6_91 sh_1 rfl rfl (Nat.le_of_ble_eq_true rfl) (Nat.le_of_ble_eq_true rfl) dX6_readWet_40 ?_
    refine sp_X6_number ev9 ?_
    refine fm_ret1 ?_
    obtain ⟨g11, h⟩ := fm_gdp h
    refine fm_iast (pc := 43) (shTd9 g6) (fm_inb_ok g11) dX6_readWet_43 ?_
    obtain ⟨M12, eM12, h⟩ := fm_ltp h
    refine fm_cgm eM12 ?_
    refine fl_aload0 (pc := 44) dX6_readWet_44 ?_
    obtain ⟨t13, et13, h⟩ := fm_ltp h
    obtain ⟨g14, h⟩ := fm_gdp h
    refine fm_getm (pc := 45) (fm_nn et13 g14) lk_6_26 sh_1 rfl dX6_readWet_45 ?_
    refine fm_cgr et13 ?_
    refine fm_dup (pc := 48) rfl dX6_readWet_48 ?_
    refine fm_geti (pc := 49) lk_6_168 (shTd0 g14) rfl dX6_readWet_49 ?_
    refine fm_iconstv (pc := 52) 1 (by decide) dX6_readWet_52 ?_
    refine fm_iadd (pc := 53) dX6_readWet_53 ?_
    refine fm_puti (pc := 54) lp_6_168 (shTd0 g14) rfl dX6_readWet_54 ?_
    obtain ⟨M15, eM15, h⟩ := fm_ltp h
    refine fm_cgm eM15 ?_
    refine fm_vret (pc := 57) rfl ?_ dX6_readWet_57
    cases h
    exact hq
  · replace h := fm_itn c9 h
    refine fl_aload0 (pc := 12) dX6_readWet_12 ?_
    refine fm_iconstv (pc := 13) 2 (by decide) dX6_readWet_13 ?_
    obtain ⟨v16, M17, ev16, h⟩ := fm_bdp h
    refine fm_callV (pc := 14) mX6_refuse [_] _ rfl cvX6_refuse ml_6_113 sh_1 rfl rfl (Nat.le_of_ble_eq_true rfl) (Nat.le_of_ble_eq_true rfl) dX6_readWet_14 ?_
    refine sp_X6_refuse ev16 ?_
    refine fm_ret0 ?_
    refine fm_vret (pc := 17) rfl ?_ dX6_readWet_17
    cases h
    exact hq
/-! X7_begin -/
def F_X7_begin (a0 : Nat) (a1 : Nat) (M : fm_M) : Option (Unit × fm_M) :=
    fm_gd (fm_isSt a0) (
    fm_gd (fm_isTd a1) (
    fm_lt (fm_up M a0 0 0) (fun M1 =>
    fm_bd (F_X8_wetOn a1 0 M1) (fun v2 M3 =>
    fm_lt (fm_up M3 a0 1 v2) (fun M4 =>
    fm_lt (fm_up M4 a0 2 (M4.1 a1 14)) (fun M5 =>
    fm_lt (fm_up M5 a0 3 0) (fun M6 =>
    fm_lt (fm_up M6 a0 4 0) (fun M7 =>
    fm_lt (fm_up M7 a0 5 (M7.1 a1 6)) (fun M8 =>
    fm_lt (fm_up M8 a0 6 (-1)) (fun M9 =>
    fm_lt (fm_up M9 a0 7 1) (fun M10 =>
    fm_gd (fm_cpb 0 0 8 8 8) (
    fm_lt (fm_row M10 (a0 + 1) (va_cpy (M10.1 (a1 + 2)) (M10.1 (a0 + 1)) (Int32.toNatClampNeg 0) (Int32.toNatClampNeg 0) (Int32.toNatClampNeg 8))) (fun M12 =>
    fm_gd (fm_cpb 0 0 8 8 8) (
    fm_lt (fm_row M12 (a0 + 2) (va_cpy (M12.1 (a1 + 3)) (M12.1 (a0 + 2)) (Int32.toNatClampNeg 0) (Int32.toNatClampNeg 0) (Int32.toNatClampNeg 8))) (fun M14 =>
    fm_gd (fm_cpb 0 0 10 10 10) (
    fm_lt (fm_row M14 (a0 + 3) (va_cpy (M14.1 (a1 + 8)) (M14.1 (a0 + 3)) (Int32.toNatClampNeg 0) (Int32.toNatClampNeg 0) (Int32.toNatClampNeg 10))) (fun M16 =>
    fm_bd (F_J7_fill_53178 (a0 + 4) (-1) M16) (fun v17 M18 =>
    fm_bd (F_J7_fill_53178 (a0 + 5) (-1) M18) (fun v19 M20 =>
    some ((), M20))))))))))))))))))))
theorem sp_X7_begin {d : Nat} {a0 : Nat} {a1 : Nat} {M : fm_M} {x : Unit × fm_M} {Q : Option Value → fm_M → Prop} (h : F_X7_begin a0 a1 M = some x) (hq : Q none x.2) : fm_ct (d + 1) mX7_begin [.ref a0, .ref a1] M Q := by
  rw [F_X7_begin] at h
  show fm_mw (d + 1) mX7_begin Q 0 [some (.ref a0), some (.ref a1)] [] M
  obtain ⟨ga0, h⟩ := fm_gdp h
  obtain ⟨ga1, h⟩ := fm_gdp h
  refine fl_aload0 (pc := 0) dX7_begin_0 ?_
  refine fm_iconstv (pc := 1) 0 (by decide) dX7_begin_1 ?_
  refine fm_puti (pc := 2) lp_7_41 (shSt0 ga0) rfl dX7_begin_2 ?_
  obtain ⟨M1, eM1, h⟩ := fm_ltp h
  refine fm_cgm eM1 ?_
  refine fl_aload0 (pc := 5) dX7_begin_5 ?_
  refine fl_aload1 (pc := 6) dX7_begin_6 ?_
  refine fm_iconstv (pc := 7) 0 (by decide) dX7_begin_7 ?_
  obtain ⟨v2, M3, ev2, h⟩ := fm_bdp h
  refine fm_callV (pc := 8) mX8_wetOn [_] _ rfl cvX8_wetOn ml_7_44 (shTd0 ga1) rfl rfl (Nat.le_of_ble_eq_true rfl) (Nat.le_of_ble_eq_true rfl) dX7_begin_8 ?_
  refine sp_X8_wetOn ev2 ?_
  refine fm_ret1 ?_
  refine fm_puti (pc := 11) lp_7_50 (shSt0 ga0) rfl dX7_begin_11 ?_
  obtain ⟨M4, eM4, h⟩ := fm_ltp h
  refine fm_cgm eM4 ?_
  refine fl_aload0 (pc := 14) dX7_begin_14 ?_
  refine fl_aload1 (pc := 15) dX7_begin_15 ?_
  refine fm_geti (pc := 16) lk_7_53 (shTd0 ga1) rfl dX7_begin_16 ?_
  refine fm_puti (pc := 19) lp_7_9 (shSt0 ga0) rfl dX7_begin_19 ?_
  obtain ⟨M5, eM5, h⟩ := fm_ltp h
  refine fm_cgm eM5 ?_
  refine fl_aload0 (pc := 22) dX7_begin_22 ?_
  refine fm_iconstv (pc := 23) 0 (by decide) dX7_begin_23 ?_
  refine fm_puti (pc := 24) lp_7_54 (shSt0 ga0) rfl dX7_begin_24 ?_
  obtain ⟨M6, eM6, h⟩ := fm_ltp h
  refine fm_cgm eM6 ?_
  refine fl_aload0 (pc := 27) dX7_begin_27 ?_
  refine fm_iconstv (pc := 28) 0 (by decide) dX7_begin_28 ?_
  refine fm_puti (pc := 29) lp_7_57 (shSt0 ga0) rfl dX7_begin_29 ?_
  obtain ⟨M7, eM7, h⟩ := fm_ltp h
  refine fm_cgm eM7 ?_
  refine fl_aload0 (pc := 32) dX7_begin_32 ?_
  refine fl_aload1 (pc := 33) dX7_begin_33 ?_
  refine fm_geti (pc := 34) lk_7_60 (shTd0 ga1) rfl dX7_begin_34 ?_
  refine fm_puti (pc := 37) lp_7_63 (shSt0 ga0) rfl dX7_begin_37 ?_
  obtain ⟨M8, eM8, h⟩ := fm_ltp h
  refine fm_cgm eM8 ?_
  refine fl_aload0 (pc := 40) dX7_begin_40 ?_
  refine fm_iconstv (pc := 41) (-1) (by decide) dX7_begin_41 ?_
  refine fm_puti (pc := 42) lp_7_15 (shSt0 ga0) rfl dX7_begin_42 ?_
  obtain ⟨M9, eM9, h⟩ := fm_ltp h
  refine fm_cgm eM9 ?_
  refine fl_aload0 (pc := 45) dX7_begin_45 ?_
  refine fm_iconstv (pc := 46) 1 (by decide) dX7_begin_46 ?_
  refine fm_putz (pc := 47) (by decide) lp_7_18 (shSt0 ga0) rfl dX7_begin_47 ?_
  obtain ⟨M10, eM10, h⟩ := fm_ltp h
  refine fm_cgm eM10 ?_
  refine fl_aload1 (pc := 50) dX7_begin_50 ?_
  refine fm_getr (pc := 51) lk_7_64 (shTd0 ga1) rfl dX7_begin_51 ?_
  refine fm_iconstv (pc := 54) 0 (by decide) dX7_begin_54 ?_
  refine fl_aload0 (pc := 55) dX7_begin_55 ?_
  refine fm_getr (pc := 56) lk_7_22 (shSt0 ga0) rfl dX7_begin_56 ?_
  refine fm_iconstv (pc := 59) 0 (by decide) dX7_begin_59 ?_
  refine fm_bipushv (pc := 60) 8 (by decide) dX7_begin_60 ?_
  obtain ⟨g11, h⟩ := fm_gdp h
  obtain ⟨q1, q2, q3, q4, q5⟩ := fm_cpb_ok g11
  refine fm_copyi (pc := 62) ml_7_65 nt_copy st_copy in_sys (shTd2 ga1) (shSt1 ga0) q1 q2 q3 q4 q5 (Nat.le_of_ble_eq_true rfl) dX7_begin_62 ?_
  obtain ⟨M12, eM12, h⟩ := fm_ltp h
  refine fm_cgm eM12 ?_
  refine fl_aload1 (pc := 65) dX7_begin_65 ?_
  refine fm_getr (pc := 66) lk_7_71 (shTd0 ga1) rfl dX7_begin_66 ?_
  refine fm_iconstv (pc := 69) 0 (by decide) dX7_begin_69 ?_
  refine fl_aload0 (pc := 70) dX7_begin_70 ?_
  refine fm_getr (pc := 71) lk_7_26 (shSt0 ga0) rfl dX7_begin_71 ?_
  refine fm_iconstv (pc := 74) 0 (by decide) dX7_begin_74 ?_
  refine fm_bipushv (pc := 75) 8 (by decide) dX7_begin_75 ?_
  obtain ⟨g13, h⟩ := fm_gdp h
  obtain ⟨q1, q2, q3, q4, q5⟩ := fm_cpb_ok g13
  refine fm_copyi (pc := 77) ml_7_65 nt_copy st_copy in_sys (shTd3 ga1) (shSt2 ga0) q1 q2 q3 q4 q5 (Nat.le_of_ble_eq_true rfl) dX7_begin_77 ?_
  obtain ⟨M14, eM14, h⟩ := fm_ltp h
  refine fm_cgm eM14 ?_
  refine fl_aload1 (pc := 80) dX7_begin_80 ?_
  refine fm_getr (pc := 81) lk_7_72 (shTd0 ga1) rfl dX7_begin_81 ?_
  refine fm_iconstv (pc := 84) 0 (by decide) dX7_begin_84 ?_
  refine fl_aload0 (pc := 85) dX7_begin_85 ?_
  refine fm_getr (pc := 86) lk_7_29 (shSt0 ga0) rfl dX7_begin_86 ?_
  refine fm_iconstv (pc := 89) 0 (by decide) dX7_begin_89 ?_
  refine fm_bipushv (pc := 90) 10 (by decide) dX7_begin_90 ?_
  obtain ⟨g15, h⟩ := fm_gdp h
  obtain ⟨q1, q2, q3, q4, q5⟩ := fm_cpb_ok g15
  refine fm_copyi (pc := 92) ml_7_65 nt_copy st_copy in_sys (shTd8 ga1) (shSt3 ga0) q1 q2 q3 q4 q5 (Nat.le_of_ble_eq_true rfl) dX7_begin_92 ?_
  obtain ⟨M16, eM16, h⟩ := fm_ltp h
  refine fm_cgm eM16 ?_
  refine fl_aload0 (pc := 95) dX7_begin_95 ?_
  refine fm_getr (pc := 96) lk_7_32 (shSt0 ga0) rfl dX7_begin_96 ?_
  refine fm_iconstv (pc := 99) (-1) (by decide) dX7_begin_99 ?_
  obtain ⟨v17, M18, ev17, h⟩ := fm_bdp h
  refine fm_callS (pc := 100) mJ7_fill_53178 [_, _] _ rfl csJ7_fill_53178 ml_7_74 rfl (Nat.le_of_ble_eq_true rfl) (Nat.le_of_ble_eq_true rfl) dX7_begin_100 ?_
  refine sp_J7_fill_53178 ev17 ?_
  refine fm_ret0 ?_
  refine fl_aload0 (pc := 103) dX7_begin_103 ?_
  refine fm_getr (pc := 104) lk_7_35 (shSt0 ga0) rfl dX7_begin_104 ?_
  refine fm_iconstv (pc := 107) (-1) (by decide) dX7_begin_107 ?_
  obtain ⟨v19, M20, ev19, h⟩ := fm_bdp h
  refine fm_callS (pc := 108) mJ7_fill_53178 [_, _] _ rfl csJ7_fill_53178 ml_7_74 rfl (Nat.le_of_ble_eq_true rfl) (Nat.le_of_ble_eq_true rfl) dX7_begin_108 ?_
  refine sp_J7_fill_53178 ev19 ?_
  refine fm_ret0 ?_
  refine fm_vret (pc := 111) rfl ?_ dX7_begin_111
  cases h
  exact hq
/-! X7_copyFrom -/
def F_X7_copyFrom (a0 : Nat) (a1 : Nat) (M : fm_M) : Option (Unit × fm_M) :=
    fm_gd (fm_isSt a0) (
    fm_gd (fm_isSt a1) (
    fm_lt (fm_up M a0 0 (M.1 a1 0)) (fun M1 =>
    fm_lt (fm_up M1 a0 1 (M1.1 a1 1)) (fun M2 =>
    fm_lt (fm_up M2 a0 2 (M2.1 a1 2)) (fun M3 =>
    fm_lt (fm_up M3 a0 3 (M3.1 a1 3)) (fun M4 =>
    fm_lt (fm_up M4 a0 4 (M4.1 a1 4)) (fun M5 =>
    fm_lt (fm_up M5 a0 5 (M5.1 a1 5)) (fun M6 =>
    fm_lt (fm_up M6 a0 6 (M6.1 a1 6)) (fun M7 =>
    fm_gd (fm_z01 (M7.1 a1 7)) (
    fm_lt (fm_up M7 a0 7 (M7.1 a1 7)) (fun M9 =>
    fm_gd (fm_cpb 0 0 8 8 8) (
    fm_lt (fm_row M9 (a0 + 1) (va_cpy (M9.1 (a1 + 1)) (M9.1 (a0 + 1)) (Int32.toNatClampNeg 0) (Int32.toNatClampNeg 0) (Int32.toNatClampNeg 8))) (fun M11 =>
    fm_gd (fm_cpb 0 0 8 8 8) (
    fm_lt (fm_row M11 (a0 + 2) (va_cpy (M11.1 (a1 + 2)) (M11.1 (a0 + 2)) (Int32.toNatClampNeg 0) (Int32.toNatClampNeg 0) (Int32.toNatClampNeg 8))) (fun M13 =>
    fm_gd (fm_cpb 0 0 10 10 10) (
    fm_lt (fm_row M13 (a0 + 3) (va_cpy (M13.1 (a1 + 3)) (M13.1 (a0 + 3)) (Int32.toNatClampNeg 0) (Int32.toNatClampNeg 0) (Int32.toNatClampNeg 10))) (fun M15 =>
    fm_gd (fm_cpb 0 0 10 10 10) (
    fm_lt (fm_row M15 (a0 + 4) (va_cpy (M15.1 (a1 + 4)) (M15.1 (a0 + 4)) (Int32.toNatClampNeg 0) (Int32.toNatClampNeg 0) (Int32.toNatClampNeg 10))) (fun M17 =>
    fm_gd (fm_cpb 0 0 10 10 10) (
    fm_lt (fm_row M17 (a0 + 5) (va_cpy (M17.1 (a1 + 5)) (M17.1 (a0 + 5)) (Int32.toNatClampNeg 0) (Int32.toNatClampNeg 0) (Int32.toNatClampNeg 10))) (fun M19 =>
    some ((), M19))))))))))))))))))))))
theorem sp_X7_copyFrom {d : Nat} {a0 : Nat} {a1 : Nat} {M : fm_M} {x : Unit × fm_M} {Q : Option Value → fm_M → Prop} (h : F_X7_copyFrom a0 a1 M = some x) (hq : Q none x.2) : fm_ct (d + 1) mX7_copyFrom [.ref a0, .ref a1] M Q := by
  rw [F_X7_copyFrom] at h
  show fm_mw (d + 1) mX7_copyFrom Q 0 [some (.ref a0), some (.ref a1)] [] M
  obtain ⟨ga0, h⟩ := fm_gdp h
  obtain ⟨ga1, h⟩ := fm_gdp h
  refine fl_aload0 (pc := 0) dX7_copyFrom_0 ?_
  refine fl_aload1 (pc := 1) dX7_copyFrom_1 ?_
  refine fm_geti (pc := 2) lk_7_41 (shSt0 ga1) rfl dX7_copyFrom_2 ?_
  refine fm_puti (pc := 5) lp_7_41 (shSt0 ga0) rfl dX7_copyFrom_5 ?_
  obtain ⟨M1, eM1, h⟩ := fm_ltp h
  refine fm_cgm eM1 ?_
  refine fl_aload0 (pc := 8) dX7_copyFrom_8 ?_
  refine fl_aload1 (pc := 9) dX7_copyFrom_9 ?_
  refine fm_geti (pc := 10) lk_7_50 (shSt0 ga1) rfl dX7_copyFrom_10 ?_
  refine fm_puti (pc := 13) lp_7_50 (shSt0 ga0) rfl dX7_copyFrom_13 ?_
  obtain ⟨M2, eM2, h⟩ := fm_ltp h
  refine fm_cgm eM2 ?_
  refine fl_aload0 (pc := 16) dX7_copyFrom_16 ?_
  refine fl_aload1 (pc := 17) dX7_copyFrom_17 ?_
  refine fm_geti (pc := 18) lk_7_9 (shSt0 ga1) rfl dX7_copyFrom_18 ?_
  refine fm_puti (pc := 21) lp_7_9 (shSt0 ga0) rfl dX7_copyFrom_21 ?_
  obtain ⟨M3, eM3, h⟩ := fm_ltp h
  refine fm_cgm eM3 ?_
  refine fl_aload0 (pc := 24) dX7_copyFrom_24 ?_
  refine fl_aload1 (pc := 25) dX7_copyFrom_25 ?_
  refine fm_geti (pc := 26) lk_7_54 (shSt0 ga1) rfl dX7_copyFrom_26 ?_
  refine fm_puti (pc := 29) lp_7_54 (shSt0 ga0) rfl dX7_copyFrom_29 ?_
  obtain ⟨M4, eM4, h⟩ := fm_ltp h
  refine fm_cgm eM4 ?_
  refine fl_aload0 (pc := 32) dX7_copyFrom_32 ?_
  refine fl_aload1 (pc := 33) dX7_copyFrom_33 ?_
  refine fm_geti (pc := 34) lk_7_57 (shSt0 ga1) rfl dX7_copyFrom_34 ?_
  refine fm_puti (pc := 37) lp_7_57 (shSt0 ga0) rfl dX7_copyFrom_37 ?_
  obtain ⟨M5, eM5, h⟩ := fm_ltp h
  refine fm_cgm eM5 ?_
  refine fl_aload0 (pc := 40) dX7_copyFrom_40 ?_
  refine fl_aload1 (pc := 41) dX7_copyFrom_41 ?_
  refine fm_geti (pc := 42) lk_7_63 (shSt0 ga1) rfl dX7_copyFrom_42 ?_
  refine fm_puti (pc := 45) lp_7_63 (shSt0 ga0) rfl dX7_copyFrom_45 ?_
  obtain ⟨M6, eM6, h⟩ := fm_ltp h
  refine fm_cgm eM6 ?_
  refine fl_aload0 (pc := 48) dX7_copyFrom_48 ?_
  refine fl_aload1 (pc := 49) dX7_copyFrom_49 ?_
  refine fm_geti (pc := 50) lk_7_15 (shSt0 ga1) rfl dX7_copyFrom_50 ?_
  refine fm_puti (pc := 53) lp_7_15 (shSt0 ga0) rfl dX7_copyFrom_53 ?_
  obtain ⟨M7, eM7, h⟩ := fm_ltp h
  refine fm_cgm eM7 ?_
  refine fl_aload0 (pc := 56) dX7_copyFrom_56 ?_
  refine fl_aload1 (pc := 57) dX7_copyFrom_57 ?_
  refine fm_geti (pc := 58) lk_7_18 (shSt0 ga1) rfl dX7_copyFrom_58 ?_
  obtain ⟨g8, h⟩ := fm_gdp h
  refine fm_putz (pc := 61) (fm_z01_ok g8) lp_7_18 (shSt0 ga0) rfl dX7_copyFrom_61 ?_
  obtain ⟨M9, eM9, h⟩ := fm_ltp h
  refine fm_cgm eM9 ?_
  refine fl_aload1 (pc := 64) dX7_copyFrom_64 ?_
  refine fm_getr (pc := 65) lk_7_22 (shSt0 ga1) rfl dX7_copyFrom_65 ?_
  refine fm_iconstv (pc := 68) 0 (by decide) dX7_copyFrom_68 ?_
  refine fl_aload0 (pc := 69) dX7_copyFrom_69 ?_
  refine fm_getr (pc := 70) lk_7_22 (shSt0 ga0) rfl dX7_copyFrom_70 ?_
  refine fm_iconstv (pc := 73) 0 (by decide) dX7_copyFrom_73 ?_
  refine fm_bipushv (pc := 74) 8 (by decide) dX7_copyFrom_74 ?_
  obtain ⟨g10, h⟩ := fm_gdp h
  obtain ⟨q1, q2, q3, q4, q5⟩ := fm_cpb_ok g10
  refine fm_copyi (pc := 76) ml_7_65 nt_copy st_copy in_sys (shSt1 ga1) (shSt1 ga0) q1 q2 q3 q4 q5 (Nat.le_of_ble_eq_true rfl) dX7_copyFrom_76 ?_
  obtain ⟨M11, eM11, h⟩ := fm_ltp h
  refine fm_cgm eM11 ?_
  refine fl_aload1 (pc := 79) dX7_copyFrom_79 ?_
  refine fm_getr (pc := 80) lk_7_26 (shSt0 ga1) rfl dX7_copyFrom_80 ?_
  refine fm_iconstv (pc := 83) 0 (by decide) dX7_copyFrom_83 ?_
  refine fl_aload0 (pc := 84) dX7_copyFrom_84 ?_
  refine fm_getr (pc := 85) lk_7_26 (shSt0 ga0) rfl dX7_copyFrom_85 ?_
  refine fm_iconstv (pc := 88) 0 (by decide) dX7_copyFrom_88 ?_
  refine fm_bipushv (pc := 89) 8 (by decide) dX7_copyFrom_89 ?_
  obtain ⟨g12, h⟩ := fm_gdp h
  obtain ⟨q1, q2, q3, q4, q5⟩ := fm_cpb_ok g12
  refine fm_copyi (pc := 91) ml_7_65 nt_copy st_copy in_sys (shSt2 ga1) (shSt2 ga0) q1 q2 q3 q4 q5 (Nat.le_of_ble_eq_true rfl) dX7_copyFrom_91 ?_
  obtain ⟨M13, eM13, h⟩ := fm_ltp h
  refine fm_cgm eM13 ?_
  refine fl_aload1 (pc := 94) dX7_copyFrom_94 ?_
  refine fm_getr (pc := 95) lk_7_29 (shSt0 ga1) rfl dX7_copyFrom_95 ?_
  refine fm_iconstv (pc := 98) 0 (by decide) dX7_copyFrom_98 ?_
  refine fl_aload0 (pc := 99) dX7_copyFrom_99 ?_
  refine fm_getr (pc := 100) lk_7_29 (shSt0 ga0) rfl dX7_copyFrom_100 ?_
  refine fm_iconstv (pc := 103) 0 (by decide) dX7_copyFrom_103 ?_
  refine fm_bipushv (pc := 104) 10 (by decide) dX7_copyFrom_104 ?_
  obtain ⟨g14, h⟩ := fm_gdp h
  obtain ⟨q1, q2, q3, q4, q5⟩ := fm_cpb_ok g14
  refine fm_copyi (pc := 106) ml_7_65 nt_copy st_copy in_sys (shSt3 ga1) (shSt3 ga0) q1 q2 q3 q4 q5 (Nat.le_of_ble_eq_true rfl) dX7_copyFrom_106 ?_
  obtain ⟨M15, eM15, h⟩ := fm_ltp h
  refine fm_cgm eM15 ?_
  refine fl_aload1 (pc := 109) dX7_copyFrom_109 ?_
  refine fm_getr (pc := 110) lk_7_32 (shSt0 ga1) rfl dX7_copyFrom_110 ?_
  refine fm_iconstv (pc := 113) 0 (by decide) dX7_copyFrom_113 ?_
  refine fl_aload0 (pc := 114) dX7_copyFrom_114 ?_
  refine fm_getr (pc := 115) lk_7_32 (shSt0 ga0) rfl dX7_copyFrom_115 ?_
  refine fm_iconstv (pc := 118) 0 (by decide) dX7_copyFrom_118 ?_
  refine fm_bipushv (pc := 119) 10 (by decide) dX7_copyFrom_119 ?_
  obtain ⟨g16, h⟩ := fm_gdp h
  obtain ⟨q1, q2, q3, q4, q5⟩ := fm_cpb_ok g16
  refine fm_copyi (pc := 121) ml_7_65 nt_copy st_copy in_sys (shSt4 ga1) (shSt4 ga0) q1 q2 q3 q4 q5 (Nat.le_of_ble_eq_true rfl) dX7_copyFrom_121 ?_
  obtain ⟨M17, eM17, h⟩ := fm_ltp h
  refine fm_cgm eM17 ?_
  refine fl_aload1 (pc := 124) dX7_copyFrom_124 ?_
  refine fm_getr (pc := 125) lk_7_35 (shSt0 ga1) rfl dX7_copyFrom_125 ?_
  refine fm_iconstv (pc := 128) 0 (by decide) dX7_copyFrom_128 ?_
  refine fl_aload0 (pc := 129) dX7_copyFrom_129 ?_
  refine fm_getr (pc := 130) lk_7_35 (shSt0 ga0) rfl dX7_copyFrom_130 ?_
  refine fm_iconstv (pc := 133) 0 (by decide) dX7_copyFrom_133 ?_
  refine fm_bipushv (pc := 134) 10 (by decide) dX7_copyFrom_134 ?_
  obtain ⟨g18, h⟩ := fm_gdp h
  obtain ⟨q1, q2, q3, q4, q5⟩ := fm_cpb_ok g18
  refine fm_copyi (pc := 136) ml_7_65 nt_copy st_copy in_sys (shSt5 ga1) (shSt5 ga0) q1 q2 q3 q4 q5 (Nat.le_of_ble_eq_true rfl) dX7_copyFrom_136 ?_
  obtain ⟨M19, eM19, h⟩ := fm_ltp h
  refine fm_cgm eM19 ?_
  refine fm_vret (pc := 139) rfl ?_ dX7_copyFrom_139
  cases h
  exact hq
/-! X7_filed -/
def F_X7_filed (a0 : Nat) (a1 : Int32) (a2 : Int32) (a3 : Int32) (M : fm_M) : Option (Unit × fm_M) :=
    fm_gd (fm_isSt a0) (
    fm_gd (fm_inb a1 8) (
    fm_gd (fm_inb a1 8) (
    fm_lt (fm_up M (a0 + 1) (Int32.toNatClampNeg a1) ((M.1 (a0 + 1) (Int32.toNatClampNeg a1)) + a2)) (fun M3 =>
    fm_lt (fm_up M3 a0 2 ((M3.1 a0 2) - a3)) (fun M4 =>
    fm_lt (fm_up M4 a0 3 ((M4.1 a0 3) + a3)) (fun M5 =>
    some ((), M5)))))))
theorem sp_X7_filed {d : Nat} {a0 : Nat} {a1 : Int32} {a2 : Int32} {a3 : Int32} {M : fm_M} {x : Unit × fm_M} {Q : Option Value → fm_M → Prop} (h : F_X7_filed a0 a1 a2 a3 M = some x) (hq : Q none x.2) : fm_ct d mX7_filed [.ref a0, .int a1, .int a2, .int a3] M Q := by
  rw [F_X7_filed] at h
  show fm_mw d mX7_filed Q 0 [some (.ref a0), some (.int a1), some (.int a2), some (.int a3)] [] M
  obtain ⟨ga0, h⟩ := fm_gdp h
  refine fl_aload0 (pc := 0) dX7_filed_0 ?_
  refine fm_getr (pc := 1) lk_7_22 (shSt0 ga0) rfl dX7_filed_1 ?_
  refine fl_iload1 (pc := 4) dX7_filed_4 ?_
  refine fm_dup2 (pc := 5) rfl rfl dX7_filed_5 ?_
  obtain ⟨g1, h⟩ := fm_gdp h
  refine fm_iald (pc := 6) (shSt1 ga0) (fm_inb_ok g1) dX7_filed_6 ?_
  refine fl_iload2 (pc := 7) dX7_filed_7 ?_
  refine fm_iadd (pc := 8) dX7_filed_8 ?_
  obtain ⟨g2, h⟩ := fm_gdp h
  refine fm_iast (pc := 9) (shSt1 ga0) (fm_inb_ok g2) dX7_filed_9 ?_
  obtain ⟨M3, eM3, h⟩ := fm_ltp h
  refine fm_cgm eM3 ?_
  refine fl_aload0 (pc := 10) dX7_filed_10 ?_
  refine fm_dup (pc := 11) rfl dX7_filed_11 ?_
  refine fm_geti (pc := 12) lk_7_9 (shSt0 ga0) rfl dX7_filed_12 ?_
  refine fl_iload3 (pc := 15) dX7_filed_15 ?_
  refine fm_isub (pc := 16) dX7_filed_16 ?_
  refine fm_puti (pc := 17) lp_7_9 (shSt0 ga0) rfl dX7_filed_17 ?_
  obtain ⟨M4, eM4, h⟩ := fm_ltp h
  refine fm_cgm eM4 ?_
  refine fl_aload0 (pc := 20) dX7_filed_20 ?_
  refine fm_dup (pc := 21) rfl dX7_filed_21 ?_
  refine fm_geti (pc := 22) lk_7_54 (shSt0 ga0) rfl dX7_filed_22 ?_
  refine fl_iload3 (pc := 25) dX7_filed_25 ?_
  refine fm_iadd (pc := 26) dX7_filed_26 ?_
  refine fm_puti (pc := 27) lp_7_54 (shSt0 ga0) rfl dX7_filed_27 ?_
  obtain ⟨M5, eM5, h⟩ := fm_ltp h
  refine fm_cgm eM5 ?_
  refine fm_vret (pc := 30) rfl ?_ dX7_filed_30
  cases h
  exact hq
/-! X7_wouldBeat -/
def F_X7_wouldBeat (a0 : Nat) (a1 : Int32) (a2 : Int32) (a3 : Int32) (M : fm_M) : Option (Int32 × fm_M) :=
    fm_gd (fm_isSt a0) (
    fm_gd (fm_inb a1 8) (
    fm_lt (((M.1 (a0 + 1) (Int32.toNatClampNeg a1)) + a2)) (fun x2 =>
    fm_bd (F_X9_isNote x2 M) (fun v3 M4 =>
    if v3 = 0 then (
      some (0, M4)
    ) else (
      fm_bd (F_X7_beatsOf (i_max 1 (x2 - (M4.1 a0 1))) a3 M4) (fun v5 M6 =>
      fm_gd (fm_inb a1 8) (
      if (M6.1 (a0 + 2) (Int32.toNatClampNeg a1)) < v5 then (
        some (0, M6)
      ) else (
        some (1, M6)
      )))
    )))))
theorem sp_X7_wouldBeat {d : Nat} {a0 : Nat} {a1 : Int32} {a2 : Int32} {a3 : Int32} {M : fm_M} {x : Int32 × fm_M} {Q : Option Value → fm_M → Prop} (h : F_X7_wouldBeat a0 a1 a2 a3 M = some x) (hq : Q (some (.int x.1)) x.2) : fm_ct (d + 2) mX7_wouldBeat [.ref a0, .int a1, .int a2, .int a3] M Q := by
  rw [F_X7_wouldBeat] at h
  show fm_mw (d + 2) mX7_wouldBeat Q 0 [some (.ref a0), some (.int a1), some (.int a2), some (.int a3), none] [] M
  obtain ⟨ga0, h⟩ := fm_gdp h
  refine fl_aload0 (pc := 0) dX7_wouldBeat_0 ?_
  refine fm_getr (pc := 1) lk_7_22 (shSt0 ga0) rfl dX7_wouldBeat_1 ?_
  refine fl_iload1 (pc := 4) dX7_wouldBeat_4 ?_
  obtain ⟨g1, h⟩ := fm_gdp h
  refine fm_iald (pc := 5) (shSt1 ga0) (fm_inb_ok g1) dX7_wouldBeat_5 ?_
  refine fl_iload2 (pc := 6) dX7_wouldBeat_6 ?_
  refine fm_iadd (pc := 7) dX7_wouldBeat_7 ?_
  obtain ⟨x2, ex2, h⟩ := fm_ltp h
  refine fm_cgi ex2 ?_
  refine fl_istore4 (pc := 8) rfl (by decide) dX7_wouldBeat_8 ?_
  refine fl_iload4 (pc := 10) dX7_wouldBeat_10 ?_
  obtain ⟨v3, M4, ev3, h⟩ := fm_bdp h
  refine fm_callS (pc := 12) mX9_isNote [_] _ rfl csX9_isNote ml_7_98 rfl (Nat.le_of_ble_eq_true rfl) (Nat.le_of_ble_eq_true rfl) dX7_wouldBeat_12 ?_
  refine sp_X9_isNote ev3 ?_
  refine fm_ret1 ?_
  refine fm_if_eq (pc := 15) 46 (by decide) dX7_wouldBeat_15 (fun c15 => ?_) (fun c15 => ?_)
  · replace h := fm_itp c15 h
    refine fm_iconstv (pc := 46) 0 (by decide) dX7_wouldBeat_46 ?_
    refine fm_zret (pc := 47) rfl (by decide) ?_ dX7_wouldBeat_47
    cases h
    exact hq
  · replace h := fm_itn c15 h
    refine fm_iconstv (pc := 18) 1 (by decide) dX7_wouldBeat_18 ?_
    refine fl_iload4 (pc := 19) dX7_wouldBeat_19 ?_
    refine fl_aload0 (pc := 21) dX7_wouldBeat_21 ?_
    refine fm_geti (pc := 22) lk_7_50 (shSt0 ga0) rfl dX7_wouldBeat_22 ?_
    refine fm_isub (pc := 25) dX7_wouldBeat_25 ?_
    refine fq_mmax (pc := 26) ml_7_89 (Nat.le_of_ble_eq_true rfl) dX7_wouldBeat_26 ?_
    refine fl_iload3 (pc := 29) dX7_wouldBeat_29 ?_
    obtain ⟨v5, M6, ev5, h⟩ := fm_bdp h
    refine fm_callS (pc := 30) mX7_beatsOf [_, _] _ rfl csX7_beatsOf ml_7_95 rfl (Nat.le_of_ble_eq_true rfl) (Nat.le_of_ble_eq_true rfl) dX7_wouldBeat_30 ?_
    refine sp_X7_beatsOf ev5 ?_
    refine fm_ret1 ?_
    refine fl_aload0 (pc := 33) dX7_wouldBeat_33 ?_
    refine fm_getr (pc := 34) lk_7_26 (shSt0 ga0) rfl dX7_wouldBeat_34 ?_
    refine fl_iload1 (pc := 37) dX7_wouldBeat_37 ?_
    obtain ⟨g7, h⟩ := fm_gdp h
    refine fm_iald (pc := 38) (shSt2 ga0) (fm_inb_ok g7) dX7_wouldBeat_38 ?_
    refine fm_icmp_gt (pc := 39) 46 (by decide) dX7_wouldBeat_39 (fun c39 => ?_) (fun c39 => ?_)
    · replace h := fm_itp c39 h
      refine fm_iconstv (pc := 46) 0 (by decide) dX7_wouldBeat_46 ?_
      refine fm_zret (pc := 47) rfl (by decide) ?_ dX7_wouldBeat_47
      cases h
      exact hq
    · replace h := fm_itn c39 h
      refine fm_iconstv (pc := 42) 1 (by decide) dX7_wouldBeat_42 ?_
      refine fm_goto (pc := 43) 47 (by decide) dX7_wouldBeat_43 ?_
      refine fm_zret (pc := 47) rfl (by decide) ?_ dX7_wouldBeat_47
      cases h
      exact hq
/-! X7_agreed -/
def G_X7_agreed_5 : Nat → Nat → Nat → Int32 → Int32 → Int32 → fm_M → Option ((Int32 × Int32) × fm_M)
  | 0, _, _, _, _, _, _ => none
  | n + 1, a0, a1, l2, l3, l4, M =>
    if (M.1 a1 0) ≤ l4 then (
      some ((l3, l4), M)
    ) else (
      fm_bd (F_X7_humOf a0 a1 l4 l2 M) (fun v1 M2 =>
      if v1 ≤ 0 then (
        G_X7_agreed_5 n a0 a1 l2 l3 (l4 + 1) M2
      ) else (
        G_X7_agreed_5 n a0 a1 l2 (l3 + 1) (l4 + 1) M2
      ))
    )
def F_X7_agreed (a0 : Nat) (a1 : Nat) (a2 : Int32) (M : fm_M) : Option (Int32 × fm_M) :=
    fm_gd (fm_isSt a0) (
    fm_gd (fm_isTd a1) (
    fm_bd (G_X7_agreed_5 fm_fuel a0 a1 a2 0 0 M) (fun w3 M4 =>
      some (w3.1, M4))))
theorem lp_X7_agreed_5 {d : Nat} {Q : Option Value → fm_M → Prop} {l2 : Int32} {a0 : Nat} {a1 : Nat} (ga0 : fm_isSt a0 = true) (ga1 : fm_isTd a1 = true) {x : (Int32 × Int32) × fm_M} (k1 : ∀ (v : Int32 × Int32) (M2 : fm_M), x = (v, M2) → fm_mw (d + 4) mX7_agreed Q 34 [some (.ref a0), some (.ref a1), some (.int l2), some (.int v.1), some (.int v.2)] [] M2) : ∀ (n : Nat) (l3 : Int32) (l4 : Int32) (M : fm_M), G_X7_agreed_5 n a0 a1 l2 l3 l4 M = some x → fm_mw (d + 4) mX7_agreed Q 5 [some (.ref a0), some (.ref a1), some (.int l2), some (.int l3), some (.int l4)] [] M := by
  intro n
  induction n with
  | zero => intro l3 l4 M h; simp [G_X7_agreed_5] at h
  | succ n ih =>
    intro l3 l4 M h
    rw [G_X7_agreed_5] at h
    refine fl_iload4 (pc := 5) dX7_agreed_5 ?_
    refine fl_aload1 (pc := 7) dX7_agreed_7 ?_
    refine fm_geti (pc := 8) lk_7_138 (shTd0 ga1) rfl dX7_agreed_8 ?_
    refine fm_icmp_ge (pc := 11) 34 (by decide) dX7_agreed_11 (fun c11 => ?_) (fun c11 => ?_)
    · replace h := fm_itp c11 h
      refine fm_fgt [some (.ref a0), some (.ref a1), some (.int l2), some (.int l3), some (.int l4)] (by simp [fm_sub]) ?_
      cases h
      exact k1 _ _ rfl
    · replace h := fm_itn c11 h
      refine fl_aload0 (pc := 14) dX7_agreed_14 ?_
      refine fl_aload1 (pc := 15) dX7_agreed_15 ?_
      refine fl_iload4 (pc := 16) dX7_agreed_16 ?_
      refine fl_iload2 (pc := 18) dX7_agreed_18 ?_
      obtain ⟨v1, M2, ev1, h⟩ := fm_bdp h
      refine fm_callV (pc := 19) mX7_humOf [_, _, _] _ rfl cvX7_humOf ml_7_141 (shSt0 ga0) rfl rfl (Nat.le_of_ble_eq_true rfl) (Nat.le_of_ble_eq_true rfl) dX7_agreed_19 ?_
      refine sp_X7_humOf ev1 ?_
      refine fm_ret1 ?_
      refine fm_if_le (pc := 22) 28 (by decide) dX7_agreed_22 (fun c22 => ?_) (fun c22 => ?_)
      · replace h := fm_itp c22 h
        refine fl_iinc4 (pc := 28) rfl 1 (by decide) (by decide) dX7_agreed_28 ?_
        refine fm_goto (pc := 31) 5 (by decide) dX7_agreed_31 ?_
        refine fm_fgt [some (.ref a0), some (.ref a1), some (.int l2), some (.int l3), some (.int (l4 + 1))] (by simp [fm_sub]) ?_
        exact ih _ _ _ h
      · replace h := fm_itn c22 h
        refine fl_iinc3 (pc := 25) rfl 1 (by decide) (by decide) dX7_agreed_25 ?_
        refine fl_iinc4 (pc := 28) rfl 1 (by decide) (by decide) dX7_agreed_28 ?_
        refine fm_goto (pc := 31) 5 (by decide) dX7_agreed_31 ?_
        refine fm_fgt [some (.ref a0), some (.ref a1), some (.int l2), some (.int (l3 + 1)), some (.int (l4 + 1))] (by simp [fm_sub]) ?_
        exact ih _ _ _ h
theorem sp_X7_agreed {d : Nat} {a0 : Nat} {a1 : Nat} {a2 : Int32} {M : fm_M} {x : Int32 × fm_M} {Q : Option Value → fm_M → Prop} (h : F_X7_agreed a0 a1 a2 M = some x) (hq : Q (some (.int x.1)) x.2) : fm_ct (d + 4) mX7_agreed [.ref a0, .ref a1, .int a2] M Q := by
  rw [F_X7_agreed] at h
  show fm_mw (d + 4) mX7_agreed Q 0 [some (.ref a0), some (.ref a1), some (.int a2), none, none] [] M
  obtain ⟨ga0, h⟩ := fm_gdp h
  obtain ⟨ga1, h⟩ := fm_gdp h
  refine fm_iconstv (pc := 0) 0 (by decide) dX7_agreed_0 ?_
  refine fl_istore3 (pc := 1) rfl (by decide) dX7_agreed_1 ?_
  refine fm_iconstv (pc := 2) 0 (by decide) dX7_agreed_2 ?_
  refine fl_istore4 (pc := 3) rfl (by decide) dX7_agreed_3 ?_
  obtain ⟨w3, M4, ew3, h⟩ := fm_bdp h
  refine lp_X7_agreed_5 ga0 ga1 ?_ _ _ _ _ ew3
  intro w39 M49 q9
  cases q9
  refine fl_iload3 (pc := 34) dX7_agreed_34 ?_
  refine fm_iret (pc := 35) rfl ?_ dX7_agreed_35
  cases h
  exact hq
/-! X7_listen -/
def G_X7_listen_2 : Nat → Nat → Nat → Int32 → Int32 → fm_M → Option ((Int32) × fm_M)
  | 0, _, _, _, _, _ => none
  | n + 1, a0, a1, l2, l3, M =>
    if (M.1 a1 0) ≤ l3 then (
      some (l3, M)
    ) else (
      fm_bd (F_X7_humOf a0 a1 l3 l2 M) (fun v1 M2 =>
      fm_gd (fm_inb l3 8) (
      fm_lt (fm_up M2 (a0 + 6) (Int32.toNatClampNeg l3) v1) (fun M4 =>
      G_X7_listen_2 n a0 a1 l2 (l3 + 1) M4)))
    )
def F_X7_listen (a0 : Nat) (a1 : Nat) (a2 : Int32) (M : fm_M) : Option (Unit × fm_M) :=
    fm_gd (fm_isSt a0) (
    fm_gd (fm_isTd a1) (
    fm_bd (G_X7_listen_2 fm_fuel a0 a1 a2 0 M) (fun w5 M6 =>
      some ((), M6))))
theorem lp_X7_listen_2 {d : Nat} {Q : Option Value → fm_M → Prop} {l2 : Int32} {a0 : Nat} {a1 : Nat} (ga0 : fm_isSt a0 = true) (ga1 : fm_isTd a1 = true) {x : (Int32) × fm_M} (k1 : ∀ (v : Int32) (M2 : fm_M), x = (v, M2) → fm_mw (d + 4) mX7_listen Q 29 [some (.ref a0), some (.ref a1), some (.int l2), some (.int v)] [] M2) : ∀ (n : Nat) (l3 : Int32) (M : fm_M), G_X7_listen_2 n a0 a1 l2 l3 M = some x → fm_mw (d + 4) mX7_listen Q 2 [some (.ref a0), some (.ref a1), some (.int l2), some (.int l3)] [] M := by
  intro n
  induction n with
  | zero => intro l3 M h; simp [G_X7_listen_2] at h
  | succ n ih =>
    intro l3 M h
    rw [G_X7_listen_2] at h
    refine fl_iload3 (pc := 2) dX7_listen_2 ?_
    refine fl_aload1 (pc := 3) dX7_listen_3 ?_
    refine fm_geti (pc := 4) lk_7_138 (shTd0 ga1) rfl dX7_listen_4 ?_
    refine fm_icmp_ge (pc := 7) 29 (by decide) dX7_listen_7 (fun c7 => ?_) (fun c7 => ?_)
    · replace h := fm_itp c7 h
      refine fm_fgt [some (.ref a0), some (.ref a1), some (.int l2), some (.int l3)] (by simp [fm_sub]) ?_
      cases h
      exact k1 _ _ rfl
    · replace h := fm_itn c7 h
      refine fl_aload0 (pc := 10) dX7_listen_10 ?_
      refine fm_getr (pc := 11) lk_7_38 (shSt0 ga0) rfl dX7_listen_11 ?_
      refine fl_iload3 (pc := 14) dX7_listen_14 ?_
      refine fl_aload0 (pc := 15) dX7_listen_15 ?_
      refine fl_aload1 (pc := 16) dX7_listen_16 ?_
      refine fl_iload3 (pc := 17) dX7_listen_17 ?_
      refine fl_iload2 (pc := 18) dX7_listen_18 ?_
      obtain ⟨v1, M2, ev1, h⟩ := fm_bdp h
      refine fm_callV (pc := 19) mX7_humOf [_, _, _] _ rfl cvX7_humOf ml_7_141 (shSt0 ga0) rfl rfl (Nat.le_of_ble_eq_true rfl) (Nat.le_of_ble_eq_true rfl) dX7_listen_19 ?_
      refine sp_X7_humOf ev1 ?_
      refine fm_ret1 ?_
      obtain ⟨g3, h⟩ := fm_gdp h
      refine fm_iast (pc := 22) (shSt6 ga0) (fm_inb_ok g3) dX7_listen_22 ?_
      obtain ⟨M4, eM4, h⟩ := fm_ltp h
      refine fm_cgm eM4 ?_
      refine fl_iinc3 (pc := 23) rfl 1 (by decide) (by decide) dX7_listen_23 ?_
      refine fm_goto (pc := 26) 2 (by decide) dX7_listen_26 ?_
      refine fm_fgt [some (.ref a0), some (.ref a1), some (.int l2), some (.int (l3 + 1))] (by simp [fm_sub]) ?_
      exact ih _ _ h
theorem sp_X7_listen {d : Nat} {a0 : Nat} {a1 : Nat} {a2 : Int32} {M : fm_M} {x : Unit × fm_M} {Q : Option Value → fm_M → Prop} (h : F_X7_listen a0 a1 a2 M = some x) (hq : Q none x.2) : fm_ct (d + 4) mX7_listen [.ref a0, .ref a1, .int a2] M Q := by
  rw [F_X7_listen] at h
  show fm_mw (d + 4) mX7_listen Q 0 [some (.ref a0), some (.ref a1), some (.int a2), none] [] M
  obtain ⟨ga0, h⟩ := fm_gdp h
  obtain ⟨ga1, h⟩ := fm_gdp h
  refine fm_iconstv (pc := 0) 0 (by decide) dX7_listen_0 ?_
  refine fl_istore3 (pc := 1) rfl (by decide) dX7_listen_1 ?_
  obtain ⟨w5, M6, ew5, h⟩ := fm_bdp h
  refine lp_X7_listen_2 ga0 ga1 ?_ _ _ _ ew5
  intro w59 M69 q9
  cases q9
  refine fm_vret (pc := 29) rfl ?_ dX7_listen_29
  cases h
  exact hq
/-! X7_listenedTo -/
def G_X7_listenedTo_5 : Nat → Nat → Int32 → Int32 → Int32 → Int32 → fm_M → Option ((Int32 × Int32) × fm_M)
  | 0, _, _, _, _, _, _ => none
  | n + 1, a0, l1, l2, l3, l4, M =>
    if l2 ≤ l4 then (
      some ((l3, l4), M)
    ) else (
      if 8 ≤ l4 then (
        some ((l3, l4), M)
      ) else (
        fm_bd (F_X9_bitOf l1 l4 M) (fun v1 M2 =>
        if v1 = 1 then (
          fm_gd (fm_inb l4 8) (
          fm_lt ((l3 + (M2.1 (a0 + 6) (Int32.toNatClampNeg l4)))) (fun x4 =>
          G_X7_listenedTo_5 n a0 l1 l2 x4 (l4 + 1) M2))
        ) else (
          G_X7_listenedTo_5 n a0 l1 l2 l3 (l4 + 1) M2
        ))
      )
    )
def F_X7_listenedTo (a0 : Nat) (a1 : Int32) (a2 : Int32) (M : fm_M) : Option (Int32 × fm_M) :=
    fm_gd (fm_isSt a0) (
    fm_bd (G_X7_listenedTo_5 fm_fuel a0 a1 a2 0 0 M) (fun w5 M6 =>
      some (w5.1, M6)))
theorem lp_X7_listenedTo_5 {d : Nat} {Q : Option Value → fm_M → Prop} {l1 : Int32} {l2 : Int32} {a0 : Nat} (ga0 : fm_isSt a0 = true) {x : (Int32 × Int32) × fm_M} (k1 : ∀ (v : Int32 × Int32) (M2 : fm_M), x = (v, M2) → fm_mw (d + 1) mX7_listenedTo Q 44 [some (.ref a0), some (.int l1), some (.int l2), some (.int v.1), some (.int v.2)] [] M2) : ∀ (n : Nat) (l3 : Int32) (l4 : Int32) (M : fm_M), G_X7_listenedTo_5 n a0 l1 l2 l3 l4 M = some x → fm_mw (d + 1) mX7_listenedTo Q 5 [some (.ref a0), some (.int l1), some (.int l2), some (.int l3), some (.int l4)] [] M := by
  intro n
  induction n with
  | zero => intro l3 l4 M h; simp [G_X7_listenedTo_5] at h
  | succ n ih =>
    intro l3 l4 M h
    rw [G_X7_listenedTo_5] at h
    refine fl_iload4 (pc := 5) dX7_listenedTo_5 ?_
    refine fl_iload2 (pc := 7) dX7_listenedTo_7 ?_
    refine fm_icmp_ge (pc := 8) 44 (by decide) dX7_listenedTo_8 (fun c8 => ?_) (fun c8 => ?_)
    · replace h := fm_itp c8 h
      refine fm_fgt [some (.ref a0), some (.int l1), some (.int l2), some (.int l3), some (.int l4)] (by simp [fm_sub]) ?_
      cases h
      exact k1 _ _ rfl
    · replace h := fm_itn c8 h
      refine fl_iload4 (pc := 11) dX7_listenedTo_11 ?_
      refine fm_bipushv (pc := 13) 8 (by decide) dX7_listenedTo_13 ?_
      refine fm_icmp_ge (pc := 15) 44 (by decide) dX7_listenedTo_15 (fun c15 => ?_) (fun c15 => ?_)
      · replace h := fm_itp c15 h
        refine fm_fgt [some (.ref a0), some (.int l1), some (.int l2), some (.int l3), some (.int l4)] (by simp [fm_sub]) ?_
        cases h
        exact k1 _ _ rfl
      · replace h := fm_itn c15 h
        refine fl_iload1 (pc := 18) dX7_listenedTo_18 ?_
        refine fl_iload4 (pc := 19) dX7_listenedTo_19 ?_
        obtain ⟨v1, M2, ev1, h⟩ := fm_bdp h
        refine fm_callS (pc := 21) mX9_bitOf [_, _] _ rfl csX9_bitOf ml_7_124 rfl (Nat.le_of_ble_eq_true rfl) (Nat.le_of_ble_eq_true rfl) dX7_listenedTo_21 ?_
        refine sp_X9_bitOf ev1 ?_
        refine fm_ret1 ?_
        refine fm_iconstv (pc := 24) 1 (by decide) dX7_listenedTo_24 ?_
        refine fm_icmp_ne (pc := 25) 38 (by decide) dX7_listenedTo_25 (fun c25 => ?_) (fun c25 => ?_)
        · replace h := fm_itn c25 h
          refine fl_iinc4 (pc := 38) rfl 1 (by decide) (by decide) dX7_listenedTo_38 ?_
          refine fm_goto (pc := 41) 5 (by decide) dX7_listenedTo_41 ?_
          refine fm_fgt [some (.ref a0), some (.int l1), some (.int l2), some (.int l3), some (.int (l4 + 1))] (by simp [fm_sub]) ?_
          exact ih _ _ _ h
        · replace h := fm_itp c25 h
          refine fl_iload3 (pc := 28) dX7_listenedTo_28 ?_
          refine fl_aload0 (pc := 29) dX7_listenedTo_29 ?_
          refine fm_getr (pc := 30) lk_7_38 (shSt0 ga0) rfl dX7_listenedTo_30 ?_
          refine fl_iload4 (pc := 33) dX7_listenedTo_33 ?_
          obtain ⟨g3, h⟩ := fm_gdp h
          refine fm_iald (pc := 35) (shSt6 ga0) (fm_inb_ok g3) dX7_listenedTo_35 ?_
          refine fm_iadd (pc := 36) dX7_listenedTo_36 ?_
          obtain ⟨x4, ex4, h⟩ := fm_ltp h
          refine fm_cgi ex4 ?_
          refine fl_istore3 (pc := 37) rfl (by decide) dX7_listenedTo_37 ?_
          refine fl_iinc4 (pc := 38) rfl 1 (by decide) (by decide) dX7_listenedTo_38 ?_
          refine fm_goto (pc := 41) 5 (by decide) dX7_listenedTo_41 ?_
          refine fm_fgt [some (.ref a0), some (.int l1), some (.int l2), some (.int x4), some (.int (l4 + 1))] (by simp [fm_sub]) ?_
          exact ih _ _ _ h
theorem sp_X7_listenedTo {d : Nat} {a0 : Nat} {a1 : Int32} {a2 : Int32} {M : fm_M} {x : Int32 × fm_M} {Q : Option Value → fm_M → Prop} (h : F_X7_listenedTo a0 a1 a2 M = some x) (hq : Q (some (.int x.1)) x.2) : fm_ct (d + 1) mX7_listenedTo [.ref a0, .int a1, .int a2] M Q := by
  rw [F_X7_listenedTo] at h
  show fm_mw (d + 1) mX7_listenedTo Q 0 [some (.ref a0), some (.int a1), some (.int a2), none, none] [] M
  obtain ⟨ga0, h⟩ := fm_gdp h
  refine fm_iconstv (pc := 0) 0 (by decide) dX7_listenedTo_0 ?_
  refine fl_istore3 (pc := 1) rfl (by decide) dX7_listenedTo_1 ?_
  refine fm_iconstv (pc := 2) 0 (by decide) dX7_listenedTo_2 ?_
  refine fl_istore4 (pc := 3) rfl (by decide) dX7_listenedTo_3 ?_
  obtain ⟨w5, M6, ew5, h⟩ := fm_bdp h
  refine lp_X7_listenedTo_5 ga0 ?_ _ _ _ _ ew5
  intro w59 M69 q9
  cases q9
  refine fl_iload3 (pc := 44) dX7_listenedTo_44 ?_
  refine fm_iret (pc := 45) rfl ?_ dX7_listenedTo_45
  cases h
  exact hq
/-! X7_passDays -/
def G_X7_passDays_2 : Nat → Nat → Nat → Int32 → Int32 → fm_M → Option ((Int32) × fm_M)
  | 0, _, _, _, _, _ => none
  | n + 1, a0, a1, l2, l3, M =>
    if l2 ≤ l3 then (
      some (l3, M)
    ) else (
      fm_bd (F_X7_passDay a0 a1 M) (fun v1 M2 =>
      fm_bd (F_X8_wetOn a1 (M2.1 a0 0) M2) (fun v3 M4 =>
      fm_lt (fm_up M4 a0 1 v3) (fun M5 =>
      G_X7_passDays_2 n a0 a1 l2 (l3 + 1) M5)))
    )
def F_X7_passDays (a0 : Nat) (a1 : Nat) (a2 : Int32) (M : fm_M) : Option (Unit × fm_M) :=
    fm_gd (fm_isSt a0) (
    fm_gd (fm_isTd a1) (
    fm_bd (G_X7_passDays_2 fm_fuel a0 a1 a2 0 M) (fun w6 M7 =>
      some ((), M7))))
theorem lp_X7_passDays_2 {d : Nat} {Q : Option Value → fm_M → Prop} {l2 : Int32} {a0 : Nat} {a1 : Nat} (ga0 : fm_isSt a0 = true) (ga1 : fm_isTd a1 = true) {x : (Int32) × fm_M} (k1 : ∀ (v : Int32) (M2 : fm_M), x = (v, M2) → fm_mw (d + 6) mX7_passDays Q 30 [some (.ref a0), some (.ref a1), some (.int l2), some (.int v)] [] M2) : ∀ (n : Nat) (l3 : Int32) (M : fm_M), G_X7_passDays_2 n a0 a1 l2 l3 M = some x → fm_mw (d + 6) mX7_passDays Q 2 [some (.ref a0), some (.ref a1), some (.int l2), some (.int l3)] [] M := by
  intro n
  induction n with
  | zero => intro l3 M h; simp [G_X7_passDays_2] at h
  | succ n ih =>
    intro l3 M h
    rw [G_X7_passDays_2] at h
    refine fl_iload3 (pc := 2) dX7_passDays_2 ?_
    refine fl_iload2 (pc := 3) dX7_passDays_3 ?_
    refine fm_icmp_ge (pc := 4) 30 (by decide) dX7_passDays_4 (fun c4 => ?_) (fun c4 => ?_)
    · replace h := fm_itp c4 h
      refine fm_fgt [some (.ref a0), some (.ref a1), some (.int l2), some (.int l3)] (by simp [fm_sub]) ?_
      cases h
      exact k1 _ _ rfl
    · replace h := fm_itn c4 h
      refine fl_aload0 (pc := 7) dX7_passDays_7 ?_
      refine fl_aload1 (pc := 8) dX7_passDays_8 ?_
      obtain ⟨v1, M2, ev1, h⟩ := fm_bdp h
      refine fm_callV (pc := 9) mX7_passDay [_] _ rfl cvX7_passDay ml_7_159 (shSt0 ga0) rfl rfl (Nat.le_of_ble_eq_true rfl) (Nat.le_of_ble_eq_true rfl) dX7_passDays_9 ?_
      refine sp_X7_passDay ev1 ?_
      refine fm_ret0 ?_
      refine fl_aload0 (pc := 12) dX7_passDays_12 ?_
      refine fl_aload1 (pc := 13) dX7_passDays_13 ?_
      refine fl_aload0 (pc := 14) dX7_passDays_14 ?_
      refine fm_geti (pc := 15) lk_7_41 (shSt0 ga0) rfl dX7_passDays_15 ?_
      obtain ⟨v3, M4, ev3, h⟩ := fm_bdp h
      refine fm_callV (pc := 18) mX8_wetOn [_] _ rfl cvX8_wetOn ml_7_44 (shTd0 ga1) rfl rfl (Nat.le_of_ble_eq_true rfl) (Nat.le_of_ble_eq_true rfl) dX7_passDays_18 ?_
      refine sp_X8_wetOn ev3 ?_
      refine fm_ret1 ?_
      refine fm_puti (pc := 21) lp_7_50 (shSt0 ga0) rfl dX7_passDays_21 ?_
      obtain ⟨M5, eM5, h⟩ := fm_ltp h
      refine fm_cgm eM5 ?_
      refine fl_iinc3 (pc := 24) rfl 1 (by decide) (by decide) dX7_passDays_24 ?_
      refine fm_goto (pc := 27) 2 (by decide) dX7_passDays_27 ?_
      refine fm_fgt [some (.ref a0), some (.ref a1), some (.int l2), some (.int (l3 + 1))] (by simp [fm_sub]) ?_
      exact ih _ _ h
theorem sp_X7_passDays {d : Nat} {a0 : Nat} {a1 : Nat} {a2 : Int32} {M : fm_M} {x : Unit × fm_M} {Q : Option Value → fm_M → Prop} (h : F_X7_passDays a0 a1 a2 M = some x) (hq : Q none x.2) : fm_ct (d + 6) mX7_passDays [.ref a0, .ref a1, .int a2] M Q := by
  rw [F_X7_passDays] at h
  show fm_mw (d + 6) mX7_passDays Q 0 [some (.ref a0), some (.ref a1), some (.int a2), none] [] M
  obtain ⟨ga0, h⟩ := fm_gdp h
  obtain ⟨ga1, h⟩ := fm_gdp h
  refine fm_iconstv (pc := 0) 0 (by decide) dX7_passDays_0 ?_
  refine fl_istore3 (pc := 1) rfl (by decide) dX7_passDays_1 ?_
  obtain ⟨w6, M7, ew6, h⟩ := fm_bdp h
  refine lp_X7_passDays_2 ga0 ga1 ?_ _ _ _ ew6
  intro w69 M79 q9
  cases q9
  refine fm_vret (pc := 30) rfl ?_ dX7_passDays_30
  cases h
  exact hq
/-! X7_passDryDays -/
def G_X7_passDryDays_2 : Nat → Nat → Nat → Int32 → Int32 → fm_M → Option ((Int32) × fm_M)
  | 0, _, _, _, _, _ => none
  | n + 1, a0, a1, l2, l3, M =>
    if l2 ≤ l3 then (
      some (l3, M)
    ) else (
      fm_lt (fm_up M a0 1 0) (fun M1 =>
      fm_bd (F_X7_passDay a0 a1 M1) (fun v2 M3 =>
      G_X7_passDryDays_2 n a0 a1 l2 (l3 + 1) M3))
    )
def F_X7_passDryDays (a0 : Nat) (a1 : Nat) (a2 : Int32) (M : fm_M) : Option (Unit × fm_M) :=
    fm_gd (fm_isSt a0) (
    fm_gd (fm_isTd a1) (
    fm_bd (G_X7_passDryDays_2 fm_fuel a0 a1 a2 0 M) (fun w4 M5 =>
      some ((), M5))))
theorem lp_X7_passDryDays_2 {d : Nat} {Q : Option Value → fm_M → Prop} {l2 : Int32} {a0 : Nat} {a1 : Nat} (ga0 : fm_isSt a0 = true) (ga1 : fm_isTd a1 = true) {x : (Int32) × fm_M} (k1 : ∀ (v : Int32) (M2 : fm_M), x = (v, M2) → fm_mw (d + 6) mX7_passDryDays Q 23 [some (.ref a0), some (.ref a1), some (.int l2), some (.int v)] [] M2) : ∀ (n : Nat) (l3 : Int32) (M : fm_M), G_X7_passDryDays_2 n a0 a1 l2 l3 M = some x → fm_mw (d + 6) mX7_passDryDays Q 2 [some (.ref a0), some (.ref a1), some (.int l2), some (.int l3)] [] M := by
  intro n
  induction n with
  | zero => intro l3 M h; simp [G_X7_passDryDays_2] at h
  | succ n ih =>
    intro l3 M h
    rw [G_X7_passDryDays_2] at h
    refine fl_iload3 (pc := 2) dX7_passDryDays_2 ?_
    refine fl_iload2 (pc := 3) dX7_passDryDays_3 ?_
    refine fm_icmp_ge (pc := 4) 23 (by decide) dX7_passDryDays_4 (fun c4 => ?_) (fun c4 => ?_)
    · replace h := fm_itp c4 h
      refine fm_fgt [some (.ref a0), some (.ref a1), some (.int l2), some (.int l3)] (by simp [fm_sub]) ?_
      cases h
      exact k1 _ _ rfl
    · replace h := fm_itn c4 h
      refine fl_aload0 (pc := 7) dX7_passDryDays_7 ?_
      refine fm_iconstv (pc := 8) 0 (by decide) dX7_passDryDays_8 ?_
      refine fm_puti (pc := 9) lp_7_50 (shSt0 ga0) rfl dX7_passDryDays_9 ?_
      obtain ⟨M1, eM1, h⟩ := fm_ltp h
      refine fm_cgm eM1 ?_
      refine fl_aload0 (pc := 12) dX7_passDryDays_12 ?_
      refine fl_aload1 (pc := 13) dX7_passDryDays_13 ?_
      obtain ⟨v2, M3, ev2, h⟩ := fm_bdp h
      refine fm_callV (pc := 14) mX7_passDay [_] _ rfl cvX7_passDay ml_7_159 (shSt0 ga0) rfl rfl (Nat.le_of_ble_eq_true rfl) (Nat.le_of_ble_eq_true rfl) dX7_passDryDays_14 ?_
      refine sp_X7_passDay ev2 ?_
      refine fm_ret0 ?_
      refine fl_iinc3 (pc := 17) rfl 1 (by decide) (by decide) dX7_passDryDays_17 ?_
      refine fm_goto (pc := 20) 2 (by decide) dX7_passDryDays_20 ?_
      refine fm_fgt [some (.ref a0), some (.ref a1), some (.int l2), some (.int (l3 + 1))] (by simp [fm_sub]) ?_
      exact ih _ _ h
theorem sp_X7_passDryDays {d : Nat} {a0 : Nat} {a1 : Nat} {a2 : Int32} {M : fm_M} {x : Unit × fm_M} {Q : Option Value → fm_M → Prop} (h : F_X7_passDryDays a0 a1 a2 M = some x) (hq : Q none x.2) : fm_ct (d + 6) mX7_passDryDays [.ref a0, .ref a1, .int a2] M Q := by
  rw [F_X7_passDryDays] at h
  show fm_mw (d + 6) mX7_passDryDays Q 0 [some (.ref a0), some (.ref a1), some (.int a2), none] [] M
  obtain ⟨ga0, h⟩ := fm_gdp h
  obtain ⟨ga1, h⟩ := fm_gdp h
  refine fm_iconstv (pc := 0) 0 (by decide) dX7_passDryDays_0 ?_
  refine fl_istore3 (pc := 1) rfl (by decide) dX7_passDryDays_1 ?_
  obtain ⟨w4, M5, ew4, h⟩ := fm_bdp h
  refine lp_X7_passDryDays_2 ga0 ga1 ?_ _ _ _ ew4
  intro w49 M59 q9
  cases q9
  refine fm_vret (pc := 23) rfl ?_ dX7_passDryDays_23
  cases h
  exact hq
/-! X7_passDaysByChance -/
def G_X7_passDaysByChance_6 : Nat → Nat → Nat → Int32 → Int32 → Int32 → Int32 → fm_M → Option ((Int32 × Int32) × fm_M)
  | 0, _, _, _, _, _, _, _ => none
  | n + 1, a0, a1, l2, l3, l4, l5, M =>
    if l2 ≤ l5 then (
      some ((l4, l5), M)
    ) else (
      fm_lt ((((l4 * 1103515245) + 12345) &&& 2147483647)) (fun x1 =>
      fm_lt (fm_up M a0 1 (i_rem (x1 / 65536) 10)) (fun M2 =>
      fm_bd (F_X7_passDay a0 a1 M2) (fun v3 M4 =>
      G_X7_passDaysByChance_6 n a0 a1 l2 l3 x1 (l5 + 1) M4)))
    )
def F_X7_passDaysByChance (a0 : Nat) (a1 : Nat) (a2 : Int32) (a3 : Int32) (M : fm_M) : Option (Int32 × fm_M) :=
    fm_gd (fm_isSt a0) (
    fm_gd (fm_isTd a1) (
    fm_bd (G_X7_passDaysByChance_6 fm_fuel a0 a1 a2 a3 a3 0 M) (fun w5 M6 =>
      some (w5.1, M6))))
theorem lp_X7_passDaysByChance_6 {d : Nat} {Q : Option Value → fm_M → Prop} {l2 : Int32} {l3 : Int32} {a0 : Nat} {a1 : Nat} (ga0 : fm_isSt a0 = true) (ga1 : fm_isTd a1 = true) {x : (Int32 × Int32) × fm_M} (k1 : ∀ (v : Int32 × Int32) (M2 : fm_M), x = (v, M2) → fm_mw (d + 6) mX7_passDaysByChance Q 49 [some (.ref a0), some (.ref a1), some (.int l2), some (.int l3), some (.int v.1), some (.int v.2)] [] M2) : ∀ (n : Nat) (l4 : Int32) (l5 : Int32) (M : fm_M), G_X7_passDaysByChance_6 n a0 a1 l2 l3 l4 l5 M = some x → fm_mw (d + 6) mX7_passDaysByChance Q 6 [some (.ref a0), some (.ref a1), some (.int l2), some (.int l3), some (.int l4), some (.int l5)] [] M := by
  intro n
  induction n with
  | zero => intro l4 l5 M h; simp [G_X7_passDaysByChance_6] at h
  | succ n ih =>
    intro l4 l5 M h
    rw [G_X7_passDaysByChance_6] at h
    refine fl_iload5 (pc := 6) dX7_passDaysByChance_6 ?_
    refine fl_iload2 (pc := 8) dX7_passDaysByChance_8 ?_
    refine fm_icmp_ge (pc := 9) 49 (by decide) dX7_passDaysByChance_9 (fun c9 => ?_) (fun c9 => ?_)
    · replace h := fm_itp c9 h
      refine fm_fgt [some (.ref a0), some (.ref a1), some (.int l2), some (.int l3), some (.int l4), some (.int l5)] (by simp [fm_sub]) ?_
      cases h
      exact k1 _ _ rfl
    · replace h := fm_itn c9 h
      refine fl_iload4 (pc := 12) dX7_passDaysByChance_12 ?_
      refine fm_ldc (pc := 14) kc_7_163 dX7_passDaysByChance_14 ?_
      refine fm_imul (pc := 16) dX7_passDaysByChance_16 ?_
      refine fm_sipushv (pc := 17) 12345 (by decide) dX7_passDaysByChance_17 ?_
      refine fm_iadd (pc := 20) dX7_passDaysByChance_20 ?_
      refine fm_ldc (pc := 21) kc_7_166 dX7_passDaysByChance_21 ?_
      refine fm_iand (pc := 23) dX7_passDaysByChance_23 ?_
      obtain ⟨x1, ex1, h⟩ := fm_ltp h
      refine fm_cgi ex1 ?_
      refine fl_istore4 (pc := 24) rfl (by decide) dX7_passDaysByChance_24 ?_
      refine fl_aload0 (pc := 26) dX7_passDaysByChance_26 ?_
      refine fl_iload4 (pc := 27) dX7_passDaysByChance_27 ?_
      refine fm_ldc (pc := 29) kc_7_167 dX7_passDaysByChance_29 ?_
      refine fm_idiv (pc := 31) (by decide) dX7_passDaysByChance_31 ?_
      refine fm_bipushv (pc := 32) 10 (by decide) dX7_passDaysByChance_32 ?_
      refine fq_irem (pc := 34) (by decide) dX7_passDaysByChance_34 ?_
      refine fm_puti (pc := 35) lp_7_50 (shSt0 ga0) rfl dX7_passDaysByChance_35 ?_
      obtain ⟨M2, eM2, h⟩ := fm_ltp h
      refine fm_cgm eM2 ?_
      refine fl_aload0 (pc := 38) dX7_passDaysByChance_38 ?_
      refine fl_aload1 (pc := 39) dX7_passDaysByChance_39 ?_
      obtain ⟨v3, M4, ev3, h⟩ := fm_bdp h
      refine fm_callV (pc := 40) mX7_passDay [_] _ rfl cvX7_passDay ml_7_159 (shSt0 ga0) rfl rfl (Nat.le_of_ble_eq_true rfl) (Nat.le_of_ble_eq_true rfl) dX7_passDaysByChance_40 ?_
      refine sp_X7_passDay ev3 ?_
      refine fm_ret0 ?_
      refine fl_iinc5 (pc := 43) rfl 1 (by decide) (by decide) dX7_passDaysByChance_43 ?_
      refine fm_goto (pc := 46) 6 (by decide) dX7_passDaysByChance_46 ?_
      refine fm_fgt [some (.ref a0), some (.ref a1), some (.int l2), some (.int l3), some (.int x1), some (.int (l5 + 1))] (by simp [fm_sub]) ?_
      exact ih _ _ _ h
theorem sp_X7_passDaysByChance {d : Nat} {a0 : Nat} {a1 : Nat} {a2 : Int32} {a3 : Int32} {M : fm_M} {x : Int32 × fm_M} {Q : Option Value → fm_M → Prop} (h : F_X7_passDaysByChance a0 a1 a2 a3 M = some x) (hq : Q (some (.int x.1)) x.2) : fm_ct (d + 6) mX7_passDaysByChance [.ref a0, .ref a1, .int a2, .int a3] M Q := by
  rw [F_X7_passDaysByChance] at h
  show fm_mw (d + 6) mX7_passDaysByChance Q 0 [some (.ref a0), some (.ref a1), some (.int a2), some (.int a3), none, none] [] M
  obtain ⟨ga0, h⟩ := fm_gdp h
  obtain ⟨ga1, h⟩ := fm_gdp h
  refine fl_iload3 (pc := 0) dX7_passDaysByChance_0 ?_
  refine fl_istore4 (pc := 1) rfl (by decide) dX7_passDaysByChance_1 ?_
  refine fm_iconstv (pc := 3) 0 (by decide) dX7_passDaysByChance_3 ?_
  refine fl_istore5 (pc := 4) rfl (by decide) dX7_passDaysByChance_4 ?_
  obtain ⟨w5, M6, ew5, h⟩ := fm_bdp h
  refine lp_X7_passDaysByChance_6 ga0 ga1 ?_ _ _ _ _ ew5
  intro w59 M69 q9
  cases q9
  refine fl_iload4 (pc := 49) dX7_passDaysByChance_49 ?_
  refine fm_iret (pc := 51) rfl ?_ dX7_passDaysByChance_51
  cases h
  exact hq
/-! X7_verdicts -/
def G_X7_verdicts_5 : Nat → Nat → Nat → Int32 → Int32 → Int32 → fm_M → Option ((Int32 × Int32) × fm_M)
  | 0, _, _, _, _, _, _ => none
  | n + 1, a0, a1, l2, l3, l4, M =>
    if (M.1 a1 7) ≤ l4 then (
      some ((l3, l4), M)
    ) else (
      fm_gd (fm_inb l4 10) (
      if (M.1 (a0 + 4) (Int32.toNatClampNeg l4)) = l2 then (
        G_X7_verdicts_5 n a0 a1 l2 (l3 + 1) (l4 + 1) M
      ) else (
        G_X7_verdicts_5 n a0 a1 l2 l3 (l4 + 1) M
      ))
    )
def F_X7_verdicts (a0 : Nat) (a1 : Nat) (a2 : Int32) (M : fm_M) : Option (Int32 × fm_M) :=
    fm_gd (fm_isSt a0) (
    fm_gd (fm_isTd a1) (
    fm_bd (G_X7_verdicts_5 fm_fuel a0 a1 a2 0 0 M) (fun w2 M3 =>
      some (w2.1, M3))))
theorem lp_X7_verdicts_5 {d : Nat} {Q : Option Value → fm_M → Prop} {l2 : Int32} {a0 : Nat} {a1 : Nat} (ga0 : fm_isSt a0 = true) (ga1 : fm_isTd a1 = true) {x : (Int32 × Int32) × fm_M} (k1 : ∀ (v : Int32 × Int32) (M2 : fm_M), x = (v, M2) → fm_mw d mX7_verdicts Q 34 [some (.ref a0), some (.ref a1), some (.int l2), some (.int v.1), some (.int v.2)] [] M2) : ∀ (n : Nat) (l3 : Int32) (l4 : Int32) (M : fm_M), G_X7_verdicts_5 n a0 a1 l2 l3 l4 M = some x → fm_mw d mX7_verdicts Q 5 [some (.ref a0), some (.ref a1), some (.int l2), some (.int l3), some (.int l4)] [] M := by
  intro n
  induction n with
  | zero => intro l3 l4 M h; simp [G_X7_verdicts_5] at h
  | succ n ih =>
    intro l3 l4 M h
    rw [G_X7_verdicts_5] at h
    refine fl_iload4 (pc := 5) dX7_verdicts_5 ?_
    refine fl_aload1 (pc := 7) dX7_verdicts_7 ?_
    refine fm_geti (pc := 8) lk_7_168 (shTd0 ga1) rfl dX7_verdicts_8 ?_
    refine fm_icmp_ge (pc := 11) 34 (by decide) dX7_verdicts_11 (fun c11 => ?_) (fun c11 => ?_)
    · replace h := fm_itp c11 h
      refine fm_fgt [some (.ref a0), some (.ref a1), some (.int l2), some (.int l3), some (.int l4)] (by simp [fm_sub]) ?_
      cases h
      exact k1 _ _ rfl
    · replace h := fm_itn c11 h
      refine fl_aload0 (pc := 14) dX7_verdicts_14 ?_
      refine fm_getr (pc := 15) lk_7_32 (shSt0 ga0) rfl dX7_verdicts_15 ?_
      refine fl_iload4 (pc := 18) dX7_verdicts_18 ?_
      obtain ⟨g1, h⟩ := fm_gdp h
      refine fm_iald (pc := 20) (shSt4 ga0) (fm_inb_ok g1) dX7_verdicts_20 ?_
      refine fl_iload2 (pc := 21) dX7_verdicts_21 ?_
      refine fm_icmp_ne (pc := 22) 28 (by decide) dX7_verdicts_22 (fun c22 => ?_) (fun c22 => ?_)
      · replace h := fm_itn c22 h
        refine fl_iinc4 (pc := 28) rfl 1 (by decide) (by decide) dX7_verdicts_28 ?_
        refine fm_goto (pc := 31) 5 (by decide) dX7_verdicts_31 ?_
        refine fm_fgt [some (.ref a0), some (.ref a1), some (.int l2), some (.int l3), some (.int (l4 + 1))] (by simp [fm_sub]) ?_
        exact ih _ _ _ h
      · replace h := fm_itp c22 h
        refine fl_iinc3 (pc := 25) rfl 1 (by decide) (by decide) dX7_verdicts_25 ?_
        refine fl_iinc4 (pc := 28) rfl 1 (by decide) (by decide) dX7_verdicts_28 ?_
        refine fm_goto (pc := 31) 5 (by decide) dX7_verdicts_31 ?_
        refine fm_fgt [some (.ref a0), some (.ref a1), some (.int l2), some (.int (l3 + 1)), some (.int (l4 + 1))] (by simp [fm_sub]) ?_
        exact ih _ _ _ h
theorem sp_X7_verdicts {d : Nat} {a0 : Nat} {a1 : Nat} {a2 : Int32} {M : fm_M} {x : Int32 × fm_M} {Q : Option Value → fm_M → Prop} (h : F_X7_verdicts a0 a1 a2 M = some x) (hq : Q (some (.int x.1)) x.2) : fm_ct d mX7_verdicts [.ref a0, .ref a1, .int a2] M Q := by
  rw [F_X7_verdicts] at h
  show fm_mw d mX7_verdicts Q 0 [some (.ref a0), some (.ref a1), some (.int a2), none, none] [] M
  obtain ⟨ga0, h⟩ := fm_gdp h
  obtain ⟨ga1, h⟩ := fm_gdp h
  refine fm_iconstv (pc := 0) 0 (by decide) dX7_verdicts_0 ?_
  refine fl_istore3 (pc := 1) rfl (by decide) dX7_verdicts_1 ?_
  refine fm_iconstv (pc := 2) 0 (by decide) dX7_verdicts_2 ?_
  refine fl_istore4 (pc := 3) rfl (by decide) dX7_verdicts_3 ?_
  obtain ⟨w2, M3, ew2, h⟩ := fm_bdp h
  refine lp_X7_verdicts_5 ga0 ga1 ?_ _ _ _ _ ew2
  intro w29 M39 q9
  cases q9
  refine fl_iload3 (pc := 34) dX7_verdicts_34 ?_
  refine fm_iret (pc := 35) rfl ?_ dX7_verdicts_35
  cases h
  exact hq
/-! X7_heardInSum -/
def G_X7_heardInSum_4 : Nat → Nat → Nat → Int32 → Int32 → fm_M → Option ((Int32 × Int32) × fm_M)
  | 0, _, _, _, _, _ => none
  | n + 1, a0, a1, l2, l3, M =>
    if (M.1 a1 7) ≤ l3 then (
      some ((l2, l3), M)
    ) else (
      fm_gd (fm_inb l3 10) (
      if (M.1 (a0 + 4) (Int32.toNatClampNeg l3)) = (-1) then (
        G_X7_heardInSum_4 n a0 a1 l2 (l3 + 1) M
      ) else (
        fm_gd (fm_inb l3 10) (
        fm_lt ((l2 + (M.1 (a0 + 5) (Int32.toNatClampNeg l3)))) (fun x3 =>
        G_X7_heardInSum_4 n a0 a1 x3 (l3 + 1) M))
      ))
    )
def F_X7_heardInSum (a0 : Nat) (a1 : Nat) (M : fm_M) : Option (Int32 × fm_M) :=
    fm_gd (fm_isSt a0) (
    fm_gd (fm_isTd a1) (
    fm_bd (G_X7_heardInSum_4 fm_fuel a0 a1 0 0 M) (fun w4 M5 =>
      some (w4.1, M5))))
theorem lp_X7_heardInSum_4 {d : Nat} {Q : Option Value → fm_M → Prop}  {a0 : Nat} {a1 : Nat} (ga0 : fm_isSt a0 = true) (ga1 : fm_isTd a1 = true) {x : (Int32 × Int32) × fm_M} (k1 : ∀ (v : Int32 × Int32) (M2 : fm_M), x = (v, M2) → fm_mw d mX7_heardInSum Q 37 [some (.ref a0), some (.ref a1), some (.int v.1), some (.int v.2)] [] M2) : ∀ (n : Nat) (l2 : Int32) (l3 : Int32) (M : fm_M), G_X7_heardInSum_4 n a0 a1 l2 l3 M = some x → fm_mw d mX7_heardInSum Q 4 [some (.ref a0), some (.ref a1), some (.int l2), some (.int l3)] [] M := by
  intro n
  induction n with
  | zero => intro l2 l3 M h; simp [G_X7_heardInSum_4] at h
  | succ n ih =>
    intro l2 l3 M h
    rw [G_X7_heardInSum_4] at h
    refine fl_iload3 (pc := 4) dX7_heardInSum_4 ?_
    refine fl_aload1 (pc := 5) dX7_heardInSum_5 ?_
    refine fm_geti (pc := 6) lk_7_168 (shTd0 ga1) rfl dX7_heardInSum_6 ?_
    refine fm_icmp_ge (pc := 9) 37 (by decide) dX7_heardInSum_9 (fun c9 => ?_) (fun c9 => ?_)
    · replace h := fm_itp c9 h
      refine fm_fgt [some (.ref a0), some (.ref a1), some (.int l2), some (.int l3)] (by simp [fm_sub]) ?_
      cases h
      exact k1 _ _ rfl
    · replace h := fm_itn c9 h
      refine fl_aload0 (pc := 12) dX7_heardInSum_12 ?_
      refine fm_getr (pc := 13) lk_7_32 (shSt0 ga0) rfl dX7_heardInSum_13 ?_
      refine fl_iload3 (pc := 16) dX7_heardInSum_16 ?_
      obtain ⟨g1, h⟩ := fm_gdp h
      refine fm_iald (pc := 17) (shSt4 ga0) (fm_inb_ok g1) dX7_heardInSum_17 ?_
      refine fm_iconstv (pc := 18) (-1) (by decide) dX7_heardInSum_18 ?_
      refine fm_icmp_eq (pc := 19) 31 (by decide) dX7_heardInSum_19 (fun c19 => ?_) (fun c19 => ?_)
      · replace h := fm_itp c19 h
        refine fl_iinc3 (pc := 31) rfl 1 (by decide) (by decide) dX7_heardInSum_31 ?_
        refine fm_goto (pc := 34) 4 (by decide) dX7_heardInSum_34 ?_
        refine fm_fgt [some (.ref a0), some (.ref a1), some (.int l2), some (.int (l3 + 1))] (by simp [fm_sub]) ?_
        exact ih _ _ _ h
      · replace h := fm_itn c19 h
        refine fl_iload2 (pc := 22) dX7_heardInSum_22 ?_
        refine fl_aload0 (pc := 23) dX7_heardInSum_23 ?_
        refine fm_getr (pc := 24) lk_7_35 (shSt0 ga0) rfl dX7_heardInSum_24 ?_
        refine fl_iload3 (pc := 27) dX7_heardInSum_27 ?_
        obtain ⟨g2, h⟩ := fm_gdp h
        refine fm_iald (pc := 28) (shSt5 ga0) (fm_inb_ok g2) dX7_heardInSum_28 ?_
        refine fm_iadd (pc := 29) dX7_heardInSum_29 ?_
        obtain ⟨x3, ex3, h⟩ := fm_ltp h
        refine fm_cgi ex3 ?_
        refine fl_istore2 (pc := 30) rfl (by decide) dX7_heardInSum_30 ?_
        refine fl_iinc3 (pc := 31) rfl 1 (by decide) (by decide) dX7_heardInSum_31 ?_
        refine fm_goto (pc := 34) 4 (by decide) dX7_heardInSum_34 ?_
        refine fm_fgt [some (.ref a0), some (.ref a1), some (.int x3), some (.int (l3 + 1))] (by simp [fm_sub]) ?_
        exact ih _ _ _ h
theorem sp_X7_heardInSum {d : Nat} {a0 : Nat} {a1 : Nat} {M : fm_M} {x : Int32 × fm_M} {Q : Option Value → fm_M → Prop} (h : F_X7_heardInSum a0 a1 M = some x) (hq : Q (some (.int x.1)) x.2) : fm_ct d mX7_heardInSum [.ref a0, .ref a1] M Q := by
  rw [F_X7_heardInSum] at h
  show fm_mw d mX7_heardInSum Q 0 [some (.ref a0), some (.ref a1), none, none] [] M
  obtain ⟨ga0, h⟩ := fm_gdp h
  obtain ⟨ga1, h⟩ := fm_gdp h
  refine fm_iconstv (pc := 0) 0 (by decide) dX7_heardInSum_0 ?_
  refine fl_istore2 (pc := 1) rfl (by decide) dX7_heardInSum_1 ?_
  refine fm_iconstv (pc := 2) 0 (by decide) dX7_heardInSum_2 ?_
  refine fl_istore3 (pc := 3) rfl (by decide) dX7_heardInSum_3 ?_
  obtain ⟨w4, M5, ew4, h⟩ := fm_bdp h
  refine lp_X7_heardInSum_4 ga0 ga1 ?_ _ _ _ _ ew4
  intro w49 M59 q9
  cases q9
  refine fl_iload2 (pc := 37) dX7_heardInSum_37 ?_
  refine fm_iret (pc := 38) rfl ?_ dX7_heardInSum_38
  cases h
  exact hq
/-! X9_feed -/
def F_X9_feed (a1 : Int32) (a2 : Int32) (a3 : Int32) (a4 : Int32) (a5 : Int32) (M : fm_M) : Option (Int32 × fm_M) :=
    if (M.1 1 2) ≤ 680 then (
      fm_bd (F_X6_append a1 M) (fun v1 M2 =>
      fm_bd (F_X6_append a2 M2) (fun v3 M4 =>
      fm_bd (F_X6_append a3 M4) (fun v5 M6 =>
      fm_bd (F_X6_append a4 M6) (fun v7 M8 =>
      fm_bd (F_X6_append a5 M8) (fun v9 M10 =>
      some ((M10.1 1 2), M10))))))
    ) else (
      some ((-1), M)
    )
theorem sp_X9_feed {d : Nat} {a1 : Int32} {a2 : Int32} {a3 : Int32} {a4 : Int32} {a5 : Int32} {M : fm_M} {x : Int32 × fm_M} {Q : Option Value → fm_M → Prop} (h : F_X9_feed a1 a2 a3 a4 a5 M = some x) (hq : Q (some (.int x.1)) x.2) : fm_ct (d + 1) mX9_feed [.ref 0, .int a1, .int a2, .int a3, .int a4, .int a5] M Q := by
  rw [F_X9_feed] at h
  show fm_mw (d + 1) mX9_feed Q 0 [some (.ref 0), some (.int a1), some (.int a2), some (.int a3), some (.int a4), some (.int a5)] [] M
  refine fl_aload0 (pc := 0) dX9_feed_0 ?_
  refine fm_getr (pc := 1) lk_9_12 sh_0 rfl dX9_feed_1 ?_
  refine fm_geti (pc := 4) lk_9_73 sh_1 rfl dX9_feed_4 ?_
  refine fm_sipushv (pc := 7) 680 (by decide) dX9_feed_7 ?_
  refine fm_icmp_le (pc := 10) 15 (by decide) dX9_feed_10 (fun c10 => ?_) (fun c10 => ?_)
  · replace h := fm_itp c10 h
    refine fl_aload0 (pc := 15) dX9_feed_15 ?_
    refine fm_getr (pc := 16) lk_9_12 sh_0 rfl dX9_feed_16 ?_
    refine fl_iload1 (pc := 19) dX9_feed_19 ?_
    obtain ⟨v1, M2, ev1, h⟩ := fm_bdp h
    refine fm_callV (pc := 20) mX6_append [_] _ rfl cvX6_append ml_9_77 sh_1 rfl rfl (Nat.le_of_ble_eq_true rfl) (Nat.le_of_ble_eq_true rfl) dX9_feed_20 ?_
    refine sp_X6_append ev1 ?_
    refine fm_ret0 ?_
    refine fl_aload0 (pc := 23) dX9_feed_23 ?_
    refine fm_getr (pc := 24) lk_9_12 sh_0 rfl dX9_feed_24 ?_
    refine fl_iload2 (pc := 27) dX9_feed_27 ?_
    obtain ⟨v3, M4, ev3, h⟩ := fm_bdp h
    refine fm_callV (pc := 28) mX6_append [_] _ rfl cvX6_append ml_9_77 sh_1 rfl rfl (Nat.le_of_ble_eq_true rfl) (Nat.le_of_ble_eq_true rfl) dX9_feed_28 ?_
    refine sp_X6_append ev3 ?_
    refine fm_ret0 ?_
    refine fl_aload0 (pc := 31) dX9_feed_31 ?_
    refine fm_getr (pc := 32) lk_9_12 sh_0 rfl dX9_feed_32 ?_
    refine fl_iload3 (pc := 35) dX9_feed_35 ?_
    obtain ⟨v5, M6, ev5, h⟩ := fm_bdp h
    refine fm_callV (pc := 36) mX6_append [_] _ rfl cvX6_append ml_9_77 sh_1 rfl rfl (Nat.le_of_ble_eq_true rfl) (Nat.le_of_ble_eq_true rfl) dX9_feed_36 ?_
    refine sp_X6_append ev5 ?_
    refine fm_ret0 ?_
    refine fl_aload0 (pc := 39) dX9_feed_39 ?_
    refine fm_getr (pc := 40) lk_9_12 sh_0 rfl dX9_feed_40 ?_
    refine fl_iload4 (pc := 43) dX9_feed_43 ?_
    obtain ⟨v7, M8, ev7, h⟩ := fm_bdp h
    refine fm_callV (pc := 45) mX6_append [_] _ rfl cvX6_append ml_9_77 sh_1 rfl rfl (Nat.le_of_ble_eq_true rfl) (Nat.le_of_ble_eq_true rfl) dX9_feed_45 ?_
    refine sp_X6_append ev7 ?_
    refine fm_ret0 ?_
    refine fl_aload0 (pc := 48) dX9_feed_48 ?_
    refine fm_getr (pc := 49) lk_9_12 sh_0 rfl dX9_feed_49 ?_
    refine fl_iload5 (pc := 52) dX9_feed_52 ?_
    obtain ⟨v9, M10, ev9, h⟩ := fm_bdp h
    refine fm_callV (pc := 54) mX6_append [_] _ rfl cvX6_append ml_9_77 sh_1 rfl rfl (Nat.le_of_ble_eq_true rfl) (Nat.le_of_ble_eq_true rfl) dX9_feed_54 ?_
    refine sp_X6_append ev9 ?_
    refine fm_ret0 ?_
    refine fl_aload0 (pc := 57) dX9_feed_57 ?_
    refine fm_getr (pc := 58) lk_9_12 sh_0 rfl dX9_feed_58 ?_
    refine fm_geti (pc := 61) lk_9_73 sh_1 rfl dX9_feed_61 ?_
    refine fm_iret (pc := 64) rfl ?_ dX9_feed_64
    cases h
    exact hq
  · replace h := fm_itn c10 h
    refine fm_iconstv (pc := 13) (-1) (by decide) dX9_feed_13 ?_
    refine fm_iret (pc := 14) rfl ?_ dX9_feed_14
    cases h
    exact hq
/-! X9_fault -/
def F_X9_fault (a1 : Int32) (M : fm_M) : Option (Int32 × fm_M) :=
    if a1 = 0 then (
      some ((M.1 1 3), M)
    ) else (
      if a1 = 1 then (
        some ((M.1 1 4), M)
      ) else (
        some ((-1), M)
      )
    )
theorem sp_X9_fault {d : Nat} {a1 : Int32} {M : fm_M} {x : Int32 × fm_M} {Q : Option Value → fm_M → Prop} (h : F_X9_fault a1 M = some x) (hq : Q (some (.int x.1)) x.2) : fm_ct d mX9_fault [.ref 0, .int a1] M Q := by
  rw [F_X9_fault] at h
  show fm_mw d mX9_fault Q 0 [some (.ref 0), some (.int a1)] [] M
  refine fl_iload1 (pc := 0) dX9_fault_0 ?_
  refine fm_if_ne (pc := 1) 12 (by decide) dX9_fault_1 (fun c1 => ?_) (fun c1 => ?_)
  · replace h := fm_itn c1 h
    refine fl_iload1 (pc := 12) dX9_fault_12 ?_
    refine fm_iconstv (pc := 13) 1 (by decide) dX9_fault_13 ?_
    refine fm_icmp_ne (pc := 14) 27 (by decide) dX9_fault_14 (fun c14 => ?_) (fun c14 => ?_)
    · replace h := fm_itn c14 h
      refine fm_iconstv (pc := 27) (-1) (by decide) dX9_fault_27 ?_
      refine fm_iret (pc := 28) rfl ?_ dX9_fault_28
      cases h
      exact hq
    · replace h := fm_itp c14 h
      refine fl_aload0 (pc := 17) dX9_fault_17 ?_
      refine fm_getr (pc := 18) lk_9_12 sh_0 rfl dX9_fault_18 ?_
      refine fm_geti (pc := 21) lk_9_111 sh_1 rfl dX9_fault_21 ?_
      refine fm_goto (pc := 24) 28 (by decide) dX9_fault_24 ?_
      refine fm_iret (pc := 28) rfl ?_ dX9_fault_28
      cases h
      exact hq
  · replace h := fm_itp c1 h
    refine fl_aload0 (pc := 4) dX9_fault_4 ?_
    refine fm_getr (pc := 5) lk_9_12 sh_0 rfl dX9_fault_5 ?_
    refine fm_geti (pc := 8) lk_9_91 sh_1 rfl dX9_fault_8 ?_
    refine fm_iret (pc := 11) rfl ?_ dX9_fault_11
    cases h
    exact hq
/-! X9_named -/
def F_X9_named (a1 : Int32) (a2 : Int32) (M : fm_M) : Option (Int32 × fm_M) :=
    if a1 = 0 then (
      fm_lt (Int32.toNatClampNeg (M.1 0 1)) (fun t5 =>
      fm_gd (fm_isTd t5) (
      fm_bd (F_X8_forkNamed t5 a2 M) (fun v7 M8 =>
      some (v7, M8))))
    ) else (
      if a1 = 1 then (
        fm_lt (Int32.toNatClampNeg (M.1 0 1)) (fun t1 =>
        fm_gd (fm_isTd t1) (
        fm_bd (F_X8_motionNamed t1 a2 M) (fun v3 M4 =>
        some (v3, M4))))
      ) else (
        some ((-1), M)
      )
    )
theorem sp_X9_named {d : Nat} {a1 : Int32} {a2 : Int32} {M : fm_M} {x : Int32 × fm_M} {Q : Option Value → fm_M → Prop} (h : F_X9_named a1 a2 M = some x) (hq : Q (some (.int x.1)) x.2) : fm_ct (d + 2) mX9_named [.ref 0, .int a1, .int a2] M Q := by
  rw [F_X9_named] at h
  show fm_mw (d + 2) mX9_named Q 0 [some (.ref 0), some (.int a1), some (.int a2)] [] M
  refine fl_iload1 (pc := 0) dX9_named_0 ?_
  refine fm_if_ne (pc := 1) 13 (by decide) dX9_named_1 (fun c1 => ?_) (fun c1 => ?_)
  · replace h := fm_itn c1 h
    refine fl_iload1 (pc := 13) dX9_named_13 ?_
    refine fm_iconstv (pc := 14) 1 (by decide) dX9_named_14 ?_
    refine fm_icmp_ne (pc := 15) 29 (by decide) dX9_named_15 (fun c15 => ?_) (fun c15 => ?_)
    · replace h := fm_itn c15 h
      refine fm_iconstv (pc := 29) (-1) (by decide) dX9_named_29 ?_
      refine fm_iret (pc := 30) rfl ?_ dX9_named_30
      cases h
      exact hq
    · replace h := fm_itp c15 h
      refine fl_aload0 (pc := 18) dX9_named_18 ?_
      obtain ⟨t1, et1, h⟩ := fm_ltp h
      obtain ⟨g2, h⟩ := fm_gdp h
      refine fm_getm (pc := 19) (fm_nn et1 g2) lk_9_21 sh_0 rfl dX9_named_19 ?_
      refine fm_cgr et1 ?_
      refine fl_iload2 (pc := 22) dX9_named_22 ?_
      obtain ⟨v3, M4, ev3, h⟩ := fm_bdp h
      refine fm_callV (pc := 23) mX8_motionNamed [_] _ rfl cvX8_motionNamed ml_9_118 (shTd0 g2) rfl rfl (Nat.le_of_ble_eq_true rfl) (Nat.le_of_ble_eq_true rfl) dX9_named_23 ?_
      refine sp_X8_motionNamed ev3 ?_
      refine fm_ret1 ?_
      refine fm_goto (pc := 26) 30 (by decide) dX9_named_26 ?_
      refine fm_iret (pc := 30) rfl ?_ dX9_named_30
      cases h
      exact hq
  · replace h := fm_itp c1 h
    refine fl_aload0 (pc := 4) dX9_named_4 ?_
    obtain ⟨t5, et5, h⟩ := fm_ltp h
    obtain ⟨g6, h⟩ := fm_gdp h
    refine fm_getm (pc := 5) (fm_nn et5 g6) lk_9_21 sh_0 rfl dX9_named_5 ?_
    refine fm_cgr et5 ?_
    refine fl_iload2 (pc := 8) dX9_named_8 ?_
    obtain ⟨v7, M8, ev7, h⟩ := fm_bdp h
    refine fm_callV (pc := 9) mX8_forkNamed [_] _ rfl cvX8_forkNamed ml_9_114 (shTd0 g6) rfl rfl (Nat.le_of_ble_eq_true rfl) (Nat.le_of_ble_eq_true rfl) dX9_named_9 ?_
    refine sp_X8_forkNamed ev7 ?_
    refine fm_ret1 ?_
    refine fm_iret (pc := 12) rfl ?_ dX9_named_12
    cases h
    exact hq
/-! X9_isMotion -/
def F_X9_isMotion (a1 : Int32) (M : fm_M) : Option (Int32 × fm_M) :=
    if a1 < 0 then (
      some (0, M)
    ) else (
      fm_lt (Int32.toNatClampNeg (M.1 0 1)) (fun t1 =>
      fm_gd (fm_isTd t1) (
      if (M.1 t1 7) ≤ a1 then (
        some (0, M)
      ) else (
        some (1, M)
      )))
    )
theorem sp_X9_isMotion {d : Nat} {a1 : Int32} {M : fm_M} {x : Int32 × fm_M} {Q : Option Value → fm_M → Prop} (h : F_X9_isMotion a1 M = some x) (hq : Q (some (.int x.1)) x.2) : fm_ct d mX9_isMotion [.ref 0, .int a1] M Q := by
  rw [F_X9_isMotion] at h
  show fm_mw d mX9_isMotion Q 0 [some (.ref 0), some (.int a1)] [] M
  refine fl_iload1 (pc := 0) dX9_isMotion_0 ?_
  refine fm_if_lt (pc := 1) 19 (by decide) dX9_isMotion_1 (fun c1 => ?_) (fun c1 => ?_)
  · replace h := fm_itp c1 h
    refine fm_iconstv (pc := 19) 0 (by decide) dX9_isMotion_19 ?_
    refine fm_zret (pc := 20) rfl (by decide) ?_ dX9_isMotion_20
    cases h
    exact hq
  · replace h := fm_itn c1 h
    refine fl_iload1 (pc := 4) dX9_isMotion_4 ?_
    refine fl_aload0 (pc := 5) dX9_isMotion_5 ?_
    obtain ⟨t1, et1, h⟩ := fm_ltp h
    obtain ⟨g2, h⟩ := fm_gdp h
    refine fm_getm (pc := 6) (fm_nn et1 g2) lk_9_21 sh_0 rfl dX9_isMotion_6 ?_
    refine fm_cgr et1 ?_
    refine fm_geti (pc := 9) lk_9_349 (shTd0 g2) rfl dX9_isMotion_9 ?_
    refine fm_icmp_ge (pc := 12) 19 (by decide) dX9_isMotion_12 (fun c12 => ?_) (fun c12 => ?_)
    · replace h := fm_itp c12 h
      refine fm_iconstv (pc := 19) 0 (by decide) dX9_isMotion_19 ?_
      refine fm_zret (pc := 20) rfl (by decide) ?_ dX9_isMotion_20
      cases h
      exact hq
    · replace h := fm_itn c12 h
      refine fm_iconstv (pc := 15) 1 (by decide) dX9_isMotion_15 ?_
      refine fm_goto (pc := 16) 20 (by decide) dX9_isMotion_16 ?_
      refine fm_zret (pc := 20) rfl (by decide) ?_ dX9_isMotion_20
      cases h
      exact hq
/-! X9_isFork -/
def F_X9_isFork (a1 : Int32) (M : fm_M) : Option (Int32 × fm_M) :=
    if a1 < 0 then (
      some (0, M)
    ) else (
      fm_lt (Int32.toNatClampNeg (M.1 0 1)) (fun t1 =>
      fm_gd (fm_isTd t1) (
      if (M.1 t1 0) ≤ a1 then (
        some (0, M)
      ) else (
        some (1, M)
      )))
    )
theorem sp_X9_isFork {d : Nat} {a1 : Int32} {M : fm_M} {x : Int32 × fm_M} {Q : Option Value → fm_M → Prop} (h : F_X9_isFork a1 M = some x) (hq : Q (some (.int x.1)) x.2) : fm_ct d mX9_isFork [.ref 0, .int a1] M Q := by
  rw [F_X9_isFork] at h
  show fm_mw d mX9_isFork Q 0 [some (.ref 0), some (.int a1)] [] M
  refine fl_iload1 (pc := 0) dX9_isFork_0 ?_
  refine fm_if_lt (pc := 1) 19 (by decide) dX9_isFork_1 (fun c1 => ?_) (fun c1 => ?_)
  · replace h := fm_itp c1 h
    refine fm_iconstv (pc := 19) 0 (by decide) dX9_isFork_19 ?_
    refine fm_zret (pc := 20) rfl (by decide) ?_ dX9_isFork_20
    cases h
    exact hq
  · replace h := fm_itn c1 h
    refine fl_iload1 (pc := 4) dX9_isFork_4 ?_
    refine fl_aload0 (pc := 5) dX9_isFork_5 ?_
    obtain ⟨t1, et1, h⟩ := fm_ltp h
    obtain ⟨g2, h⟩ := fm_gdp h
    refine fm_getm (pc := 6) (fm_nn et1 g2) lk_9_21 sh_0 rfl dX9_isFork_6 ?_
    refine fm_cgr et1 ?_
    refine fm_geti (pc := 9) lk_9_254 (shTd0 g2) rfl dX9_isFork_9 ?_
    refine fm_icmp_ge (pc := 12) 19 (by decide) dX9_isFork_12 (fun c12 => ?_) (fun c12 => ?_)
    · replace h := fm_itp c12 h
      refine fm_iconstv (pc := 19) 0 (by decide) dX9_isFork_19 ?_
      refine fm_zret (pc := 20) rfl (by decide) ?_ dX9_isFork_20
      cases h
      exact hq
    · replace h := fm_itn c12 h
      refine fm_iconstv (pc := 15) 1 (by decide) dX9_isFork_15 ?_
      refine fm_goto (pc := 16) 20 (by decide) dX9_isFork_16 ?_
      refine fm_zret (pc := 20) rfl (by decide) ?_ dX9_isFork_20
      cases h
      exact hq
/-! X9_fork -/
def F_X9_fork (a1 : Int32) (a2 : Int32) (M : fm_M) : Option (Int32 × fm_M) :=
    fm_bd (F_X9_isFork a1 M) (fun v1 M2 =>
    if v1 = 0 then (
      some ((-1), M2)
    ) else (
      if a2 = 0 then (
        fm_gd (fm_inb a1 8) (
        some ((M2.1 39 (Int32.toNatClampNeg a1)), M2))
      ) else (
      if a2 = 1 then (
        fm_lt (Int32.toNatClampNeg (M2.1 0 1)) (fun t4 =>
        fm_gd (fm_isTd t4) (
        fm_gd (fm_inb a1 8) (
        some ((M2.1 (t4 + 3) (Int32.toNatClampNeg a1)), M2))))
      ) else (
      if a2 = 2 then (
        fm_lt (Int32.toNatClampNeg (M2.1 0 1)) (fun t7 =>
        fm_gd (fm_isTd t7) (
        fm_gd (fm_inb a1 8) (
        some ((M2.1 (t7 + 4) (Int32.toNatClampNeg a1)), M2))))
      ) else (
      if a2 = 3 then (
        fm_lt (Int32.toNatClampNeg (M2.1 0 1)) (fun t10 =>
        fm_gd (fm_isTd t10) (
        fm_gd (fm_inb a1 8) (
        some ((M2.1 (t10 + 5) (Int32.toNatClampNeg a1)), M2))))
      ) else (
      if a2 = 4 then (
        fm_lt (Int32.toNatClampNeg (M2.1 0 1)) (fun t13 =>
        fm_gd (fm_isTd t13) (
        fm_bd (F_X9_bitOf (M2.1 t13 6) a1 M2) (fun v15 M16 =>
        some (v15, M16))))
      ) else (
      if a2 = 5 then (
        fm_bd (F_X9_bitOf (M2.1 38 4) a1 M2) (fun v17 M18 =>
        some (v17, M18))
      ) else (
      some ((-1), M2)))))))
    ))
theorem sp_X9_fork {d : Nat} {a1 : Int32} {a2 : Int32} {M : fm_M} {x : Int32 × fm_M} {Q : Option Value → fm_M → Prop} (h : F_X9_fork a1 a2 M = some x) (hq : Q (some (.int x.1)) x.2) : fm_ct (d + 1) mX9_fork [.ref 0, .int a1, .int a2] M Q := by
  rw [F_X9_fork] at h
  show fm_mw (d + 1) mX9_fork Q 0 [some (.ref 0), some (.int a1), some (.int a2)] [] M
  refine fl_aload0 (pc := 0) dX9_fork_0 ?_
  refine fl_iload1 (pc := 1) dX9_fork_1 ?_
  obtain ⟨v1, M2, ev1, h⟩ := fm_bdp h
  refine fm_callV (pc := 2) mX9_isFork [_] _ rfl cvX9_isFork ml_9_150 sh_0 rfl rfl (Nat.le_of_ble_eq_true rfl) (Nat.le_of_ble_eq_true rfl) dX9_fork_2 ?_
  refine sp_X9_isFork ev1 ?_
  refine fm_ret1 ?_
  refine fm_if_ne (pc := 5) 10 (by decide) dX9_fork_5 (fun c5 => ?_) (fun c5 => ?_)
  · replace h := fm_itn c5 h
    refine fl_iload2 (pc := 10) dX9_fork_10 ?_
    by_cases s11_0 : a2 = 0
    · replace h := fm_itp s11_0 h
      refine fm_tswIn (pc := 11) 48 0 (37) (by rw [s11_0]; rfl) (by decide) (by decide) (by decide) (by decide) dX9_fork_11 ?_
      refine fl_aload0 (pc := 48) dX9_fork_48 ?_
      refine fm_getr (pc := 49) lk_9_28 sh_0 rfl dX9_fork_49 ?_
      refine fm_getr (pc := 52) lk_9_153 sh_38 rfl dX9_fork_52 ?_
      refine fl_iload1 (pc := 55) dX9_fork_55 ?_
      obtain ⟨g3, h⟩ := fm_gdp h
      refine fm_iald (pc := 56) sh_39 (fm_inb_ok g3) dX9_fork_56 ?_
      refine fm_iret (pc := 57) rfl ?_ dX9_fork_57
      cases h
      exact hq
    · replace h := fm_itn s11_0 h
      by_cases s11_1 : a2 = 1
      · replace h := fm_itp s11_1 h
        refine fm_tswIn (pc := 11) 58 1 (47) (by rw [s11_1]; rfl) (by decide) (by decide) (by decide) (by decide) dX9_fork_11 ?_
        refine fl_aload0 (pc := 58) dX9_fork_58 ?_
        obtain ⟨t4, et4, h⟩ := fm_ltp h
        obtain ⟨g5, h⟩ := fm_gdp h
        refine fm_getm (pc := 59) (fm_nn et4 g5) lk_9_21 sh_0 rfl dX9_fork_59 ?_
        refine fm_cgr et4 ?_
        refine fm_getr (pc := 62) lk_9_156 (shTd0 g5) rfl dX9_fork_62 ?_
        refine fl_iload1 (pc := 65) dX9_fork_65 ?_
        obtain ⟨g6, h⟩ := fm_gdp h
        refine fm_iald (pc := 66) (shTd3 g5) (fm_inb_ok g6) dX9_fork_66 ?_
        refine fm_iret (pc := 67) rfl ?_ dX9_fork_67
        cases h
        exact hq
      · replace h := fm_itn s11_1 h
        by_cases s11_2 : a2 = 2
        · replace h := fm_itp s11_2 h
          refine fm_tswIn (pc := 11) 68 2 (57) (by rw [s11_2]; rfl) (by decide) (by decide) (by decide) (by decide) dX9_fork_11 ?_
          refine fl_aload0 (pc := 68) dX9_fork_68 ?_
          obtain ⟨t7, et7, h⟩ := fm_ltp h
          obtain ⟨g8, h⟩ := fm_gdp h
          refine fm_getm (pc := 69) (fm_nn et7 g8) lk_9_21 sh_0 rfl dX9_fork_69 ?_
          refine fm_cgr et7 ?_
          refine fm_getr (pc := 72) lk_9_159 (shTd0 g8) rfl dX9_fork_72 ?_
          refine fl_iload1 (pc := 75) dX9_fork_75 ?_
          obtain ⟨g9, h⟩ := fm_gdp h
          refine fm_iald (pc := 76) (shTd4 g8) (fm_inb_ok g9) dX9_fork_76 ?_
          refine fm_iret (pc := 77) rfl ?_ dX9_fork_77
          cases h
          exact hq
        · replace h := fm_itn s11_2 h
          by_cases s11_3 : a2 = 3
          · replace h := fm_itp s11_3 h
            refine fm_tswIn (pc := 11) 78 3 (67) (by rw [s11_3]; rfl) (by decide) (by decide) (by decide) (by decide) dX9_fork_11 ?_
            refine fl_aload0 (pc := 78) dX9_fork_78 ?_
            obtain ⟨t10, et10, h⟩ := fm_ltp h
            obtain ⟨g11, h⟩ := fm_gdp h
            refine fm_getm (pc := 79) (fm_nn et10 g11) lk_9_21 sh_0 rfl dX9_fork_79 ?_
            refine fm_cgr et10 ?_
            refine fm_getr (pc := 82) lk_9_162 (shTd0 g11) rfl dX9_fork_82 ?_
            refine fl_iload1 (pc := 85) dX9_fork_85 ?_
            obtain ⟨g12, h⟩ := fm_gdp h
            refine fm_iald (pc := 86) (shTd5 g11) (fm_inb_ok g12) dX9_fork_86 ?_
            refine fm_iret (pc := 87) rfl ?_ dX9_fork_87
            cases h
            exact hq
          · replace h := fm_itn s11_3 h
            by_cases s11_4 : a2 = 4
            · replace h := fm_itp s11_4 h
              refine fm_tswIn (pc := 11) 88 4 (77) (by rw [s11_4]; rfl) (by decide) (by decide) (by decide) (by decide) dX9_fork_11 ?_
              refine fl_aload0 (pc := 88) dX9_fork_88 ?_
              obtain ⟨t13, et13, h⟩ := fm_ltp h
              obtain ⟨g14, h⟩ := fm_gdp h
              refine fm_getm (pc := 89) (fm_nn et13 g14) lk_9_21 sh_0 rfl dX9_fork_89 ?_
              refine fm_cgr et13 ?_
              refine fm_geti (pc := 92) lk_9_165 (shTd0 g14) rfl dX9_fork_92 ?_
              refine fl_iload1 (pc := 95) dX9_fork_95 ?_
              obtain ⟨v15, M16, ev15, h⟩ := fm_bdp h
              refine fm_callS (pc := 96) mX9_bitOf [_, _] _ rfl csX9_bitOf ml_9_168 rfl (Nat.le_of_ble_eq_true rfl) (Nat.le_of_ble_eq_true rfl) dX9_fork_96 ?_
              refine sp_X9_bitOf ev15 ?_
              refine fm_ret1 ?_
              refine fm_iret (pc := 99) rfl ?_ dX9_fork_99
              cases h
              exact hq
            · replace h := fm_itn s11_4 h
              by_cases s11_5 : a2 = 5
              · replace h := fm_itp s11_5 h
                refine fm_tswIn (pc := 11) 100 5 (89) (by rw [s11_5]; rfl) (by decide) (by decide) (by decide) (by decide) dX9_fork_11 ?_
                refine fl_aload0 (pc := 100) dX9_fork_100 ?_
                refine fm_getr (pc := 101) lk_9_28 sh_0 rfl dX9_fork_101 ?_
                refine fm_geti (pc := 104) lk_9_172 sh_38 rfl dX9_fork_104 ?_
                refine fl_iload1 (pc := 107) dX9_fork_107 ?_
                obtain ⟨v17, M18, ev17, h⟩ := fm_bdp h
                refine fm_callS (pc := 108) mX9_bitOf [_, _] _ rfl csX9_bitOf ml_9_168 rfl (Nat.le_of_ble_eq_true rfl) (Nat.le_of_ble_eq_true rfl) dX9_fork_108 ?_
                refine sp_X9_bitOf ev17 ?_
                refine fm_ret1 ?_
                refine fm_iret (pc := 111) rfl ?_ dX9_fork_111
                cases h
                exact hq
              · replace h := fm_itn s11_5 h
                have q0 : ¬ Int32.toInt a2 = 0 := fun q => s11_0 (Int32.toInt_inj.mp (by rw [q]; rfl))
                have q1 : ¬ Int32.toInt a2 = 1 := fun q => s11_1 (Int32.toInt_inj.mp (by rw [q]; rfl))
                have q2 : ¬ Int32.toInt a2 = 2 := fun q => s11_2 (Int32.toInt_inj.mp (by rw [q]; rfl))
                have q3 : ¬ Int32.toInt a2 = 3 := fun q => s11_3 (Int32.toInt_inj.mp (by rw [q]; rfl))
                have q4 : ¬ Int32.toInt a2 = 4 := fun q => s11_4 (Int32.toInt_inj.mp (by rw [q]; rfl))
                have q5 : ¬ Int32.toInt a2 = 5 := fun q => s11_5 (Int32.toInt_inj.mp (by rw [q]; rfl))
                refine fm_tswOut (pc := 11) 112 (by omega) (by decide) dX9_fork_11 ?_
                refine fm_iconstv (pc := 112) (-1) (by decide) dX9_fork_112 ?_
                refine fm_iret (pc := 113) rfl ?_ dX9_fork_113
                cases h
                exact hq
  · replace h := fm_itp c5 h
    refine fm_iconstv (pc := 8) (-1) (by decide) dX9_fork_8 ?_
    refine fm_iret (pc := 9) rfl ?_ dX9_fork_9
    cases h
    exact hq
