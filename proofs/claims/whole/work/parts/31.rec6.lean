theorem sq_X3_add {a0 : Nat} {a1 : Int32} {a2 : Int32} {M : fm_M} {x : Unit × fm_M} {Q : Option Value → fm_M → Prop} {D : Nat} (h : F_X3_add a0 a1 a2 M = some x) (hq : Q none x.2) (hD : 0 ≤ D) : fm_ct D mX3_add [.ref a0, .int a1, .int a2] M Q := by
  obtain ⟨d, rfl⟩ : ∃ d, D = d + 0 := ⟨D - 0, by omega⟩
  exact sp_X3_add h hq
theorem sq_X6_advance  {M : fm_M} {x : Unit × fm_M} {Q : Option Value → fm_M → Prop} {D : Nat} (h : F_X6_advance  M = some x) (hq : Q none x.2) (hD : 2 ≤ D) : fm_ct D mX6_advance [.ref 1] M Q := by
  obtain ⟨d, rfl⟩ : ∃ d, D = d + 2 := ⟨D - 2, by omega⟩
  exact sp_X6_advance h hq
theorem sq_X6_pass {a1 : Int32} {M : fm_M} {x : Unit × fm_M} {Q : Option Value → fm_M → Prop} {D : Nat} (h : F_X6_pass a1 M = some x) (hq : Q none x.2) (hD : 3 ≤ D) : fm_ct D mX6_pass [.ref 1, .int a1] M Q := by
  obtain ⟨d, rfl⟩ : ∃ d, D = d + 3 := ⟨D - 3, by omega⟩
  exact sp_X6_pass h hq
theorem sq_X6_passKnot  {M : fm_M} {x : Unit × fm_M} {Q : Option Value → fm_M → Prop} {D : Nat} (h : F_X6_passKnot  M = some x) (hq : Q none x.2) (hD : 3 ≤ D) : fm_ct D mX6_passKnot [.ref 1] M Q := by
  obtain ⟨d, rfl⟩ : ∃ d, D = d + 3 := ⟨D - 3, by omega⟩
  exact sp_X6_passKnot h hq
theorem sq_X6_refuse {a1 : Int32} {M : fm_M} {x : Unit × fm_M} {Q : Option Value → fm_M → Prop} {D : Nat} (h : F_X6_refuse a1 M = some x) (hq : Q none x.2) (hD : 0 ≤ D) : fm_ct D mX6_refuse [.ref 1, .int a1] M Q := by
  obtain ⟨d, rfl⟩ : ∃ d, D = d + 0 := ⟨D - 0, by omega⟩
  exact sp_X6_refuse h hq
/-! X6_readPart -/
def J_X6_readPart_55 (rE : Int32 → fm_M → Option (Unit × fm_M)) (l1 : Int32) (l2 : Int32) (l3 : Int32) (M : fm_M) : Option (Unit × fm_M) :=
    fm_bd (F_X6_passKnot M) (fun v3 M4 =>
    fm_lt (Int32.toNatClampNeg (M4.1 1 5)) (fun t5 =>
    fm_gd (fm_isTd t5) (
    fm_bd (F_X3_add (t5 + 10) l2 l3 M4) (fun v7 M8 =>
    some ((), M8)))))
def J_X6_readPart_74 (rE : Int32 → fm_M → Option (Unit × fm_M)) (l1 : Int32) (l2 : Int32) (l3 : Int32) (M : fm_M) : Option (Unit × fm_M) :=
    if l2 = 5 then (
      if l1 < 8 then (
        fm_bd (F_X6_advance M) (fun v9 M10 =>
        fm_bd (rE (l1 + 1) M10) (fun v11 M12 =>
        fm_bd (F_X6_pass 6 M12) (fun v13 M14 =>
        some ((), M14))))
      ) else (
        fm_bd (F_X6_refuse 2 M) (fun v15 M16 =>
        some ((), M16))
      )
    ) else (
      fm_bd (F_X6_refuse 1 M) (fun v17 M18 =>
      some ((), M18))
    )
def J_X6_readPart_38 (rE : Int32 → fm_M → Option (Unit × fm_M)) (l1 : Int32) (l2 : Int32) (l3 : Int32) (M : fm_M) : Option (Unit × fm_M) :=
    if l2 = 2 then (
      J_X6_readPart_55 rE l1 l2 l3 M
    ) else (
      if l2 < 32 then (
        J_X6_readPart_74 rE l1 l2 l3 M
      ) else (
        if 38 < l2 then (
          J_X6_readPart_74 rE l1 l2 l3 M
        ) else (
          J_X6_readPart_55 rE l1 l2 l3 M
        )
      )
    )
def H_X6_readPart (rE : Int32 → fm_M → Option (Unit × fm_M)) (a1 : Int32) (M : fm_M) : Option (Unit × fm_M) :=
    if (M.1 1 3) = 0 then (
      fm_lt ((M.1 1 8)) (fun x1 =>
      fm_lt ((M.1 1 10)) (fun x2 =>
      if x1 = 2 then (
        if x2 ≤ 9999 then (
          J_X6_readPart_38 rE a1 x1 x2 M
        ) else (
          fm_bd (F_X6_refuse 2 M) (fun v19 M20 =>
          some ((), M20))
        )
      ) else (
        J_X6_readPart_38 rE a1 x1 x2 M
      )))
    ) else (
      some ((), M)
    )
theorem jn_X6_readPart_55 {d : Nat} {Q : Option Value → fm_M → Prop} {rE : Int32 → fm_M → Option (Unit × fm_M)} {ke : Nat} (hE : ∀ (a : Int32) {M : fm_M} {x : Unit × fm_M} {Q : Option Value → fm_M → Prop} {D : Nat}, rE a M = some x → Q none x.2 → ke ≤ D → fm_ct D mX6_readEither [.ref 1, .int a] M Q) (hd : ke + 0 ≤ d) (hK : 3 + 0 ≤ d)  (l1 : Int32) (l2 : Int32) (l3 : Int32) {x : Unit × fm_M}  (hq : Q none x.2) (M : fm_M) (h : J_X6_readPart_55 rE l1 l2 l3 M = some x) : fm_mw (d + 1) mX6_readPart Q 55 [some (.ref 1), some (.int l1), some (.int l2), some (.int l3)] [] M := by
  rw [J_X6_readPart_55] at h
  refine fl_aload0 (pc := 55) dX6_readPart_55 ?_
  obtain ⟨v3, M4, ev3, h⟩ := fm_bdp h
  refine fm_callV (pc := 56) mX6_passKnot [] _ rfl cvX6_passKnot ml_6_196 sh_1 rfl rfl (Nat.le_of_ble_eq_true rfl) (Nat.le_of_ble_eq_true rfl) dX6_readPart_56 ?_
  refine sq_X6_passKnot ev3 ?_ (by omega)
  refine fm_ret0 ?_
  refine fl_aload0 (pc := 59) dX6_readPart_59 ?_
  obtain ⟨t5, et5, h⟩ := fm_ltp h
  obtain ⟨g6, h⟩ := fm_gdp h
  refine fm_getm (pc := 60) (fm_nn et5 g6) lk_6_26 sh_1 rfl dX6_readPart_60 ?_
  refine fm_cgr et5 ?_
  refine fm_getr (pc := 63) lk_6_174 (shTd0 g6) rfl dX6_readPart_63 ?_
  refine fl_iload2 (pc := 66) dX6_readPart_66 ?_
  refine fl_iload3 (pc := 67) dX6_readPart_67 ?_
  obtain ⟨v7, M8, ev7, h⟩ := fm_bdp h
  refine fm_callV (pc := 68) mX3_add [_, _] _ rfl cvX3_add ml_6_199 (shTd10 g6) rfl rfl (Nat.le_of_ble_eq_true rfl) (Nat.le_of_ble_eq_true rfl) dX6_readPart_68 ?_
  refine sq_X3_add ev7 ?_ (by omega)
  refine fm_ret0 ?_
  refine fm_goto (pc := 71) 118 (by decide) dX6_readPart_71 ?_
  refine fm_vret (pc := 118) rfl ?_ dX6_readPart_118
  cases h
  exact hq
theorem jn_X6_readPart_74 {d : Nat} {Q : Option Value → fm_M → Prop} {rE : Int32 → fm_M → Option (Unit × fm_M)} {ke : Nat} (hE : ∀ (a : Int32) {M : fm_M} {x : Unit × fm_M} {Q : Option Value → fm_M → Prop} {D : Nat}, rE a M = some x → Q none x.2 → ke ≤ D → fm_ct D mX6_readEither [.ref 1, .int a] M Q) (hd : ke + 0 ≤ d) (hK : 3 + 0 ≤ d)  (l1 : Int32) (l2 : Int32) (l3 : Int32) {x : Unit × fm_M}  (hq : Q none x.2) (M : fm_M) (h : J_X6_readPart_74 rE l1 l2 l3 M = some x) : fm_mw (d + 1) mX6_readPart Q 74 [some (.ref 1), some (.int l1), some (.int l2), some (.int l3)] [] M := by
  rw [J_X6_readPart_74] at h
  refine fl_iload2 (pc := 74) dX6_readPart_74 ?_
  refine fm_iconstv (pc := 75) 5 (by decide) dX6_readPart_75 ?_
  refine fm_icmp_eq (pc := 76) 87 (by decide) dX6_readPart_76 (fun c76 => ?_) (fun c76 => ?_)
  · replace h := fm_itp c76 h
    refine fl_iload1 (pc := 87) dX6_readPart_87 ?_
    refine fm_bipushv (pc := 88) 8 (by decide) dX6_readPart_88 ?_
    refine fm_icmp_lt (pc := 90) 101 (by decide) dX6_readPart_90 (fun c90 => ?_) (fun c90 => ?_)
    · replace h := fm_itp c90 h
      refine fl_aload0 (pc := 101) dX6_readPart_101 ?_
      obtain ⟨v9, M10, ev9, h⟩ := fm_bdp h
      refine fm_callV (pc := 102) mX6_advance [] _ rfl cvX6_advance ml_6_70 sh_1 rfl rfl (Nat.le_of_ble_eq_true rfl) (Nat.le_of_ble_eq_true rfl) dX6_readPart_102 ?_
      refine sq_X6_advance ev9 ?_ (by omega)
      refine fm_ret0 ?_
      refine fl_aload0 (pc := 105) dX6_readPart_105 ?_
      refine fl_iload1 (pc := 106) dX6_readPart_106 ?_
      refine fm_iconstv (pc := 107) 1 (by decide) dX6_readPart_107 ?_
      refine fm_iadd (pc := 108) dX6_readPart_108 ?_
      obtain ⟨v11, M12, ev11, h⟩ := fm_bdp h
      refine fm_callV (pc := 109) mX6_readEither [_] _ rfl cvX6_readEither ml_6_187 sh_1 rfl rfl (Nat.le_of_ble_eq_true rfl) (Nat.le_of_ble_eq_true rfl) dX6_readPart_109 ?_
      refine hE _ ev11 ?_ (by omega)
      refine fm_ret0 ?_
      refine fl_aload0 (pc := 112) dX6_readPart_112 ?_
      refine fm_bipushv (pc := 113) 6 (by decide) dX6_readPart_113 ?_
      obtain ⟨v13, M14, ev13, h⟩ := fm_bdp h
      refine fm_callV (pc := 115) mX6_pass [_] _ rfl cvX6_pass ml_6_117 sh_1 rfl rfl (Nat.le_of_ble_eq_true rfl) (Nat.le_of_ble_eq_true rfl) dX6_readPart_115 ?_
      refine sq_X6_pass ev13 ?_ (by omega)
      refine fm_ret0 ?_
      refine fm_vret (pc := 118) rfl ?_ dX6_readPart_118
      cases h
      exact hq
    · replace h := fm_itn c90 h
      refine fl_aload0 (pc := 93) dX6_readPart_93 ?_
      refine fm_iconstv (pc := 94) 2 (by decide) dX6_readPart_94 ?_
      obtain ⟨v15, M16, ev15, h⟩ := fm_bdp h
      refine fm_callV (pc := 95) mX6_refuse [_] _ rfl cvX6_refuse ml_6_113 sh_1 rfl rfl (Nat.le_of_ble_eq_true rfl) (Nat.le_of_ble_eq_true rfl) dX6_readPart_95 ?_
      refine sq_X6_refuse ev15 ?_ (by omega)
      refine fm_ret0 ?_
      refine fm_goto (pc := 98) 118 (by decide) dX6_readPart_98 ?_
      refine fm_vret (pc := 118) rfl ?_ dX6_readPart_118
      cases h
      exact hq
  · replace h := fm_itn c76 h
    refine fl_aload0 (pc := 79) dX6_readPart_79 ?_
    refine fm_iconstv (pc := 80) 1 (by decide) dX6_readPart_80 ?_
    obtain ⟨v17, M18, ev17, h⟩ := fm_bdp h
    refine fm_callV (pc := 81) mX6_refuse [_] _ rfl cvX6_refuse ml_6_113 sh_1 rfl rfl (Nat.le_of_ble_eq_true rfl) (Nat.le_of_ble_eq_true rfl) dX6_readPart_81 ?_
    refine sq_X6_refuse ev17 ?_ (by omega)
    refine fm_ret0 ?_
    refine fm_goto (pc := 84) 118 (by decide) dX6_readPart_84 ?_
    refine fm_vret (pc := 118) rfl ?_ dX6_readPart_118
    cases h
    exact hq
theorem jn_X6_readPart_38 {d : Nat} {Q : Option Value → fm_M → Prop} {rE : Int32 → fm_M → Option (Unit × fm_M)} {ke : Nat} (hE : ∀ (a : Int32) {M : fm_M} {x : Unit × fm_M} {Q : Option Value → fm_M → Prop} {D : Nat}, rE a M = some x → Q none x.2 → ke ≤ D → fm_ct D mX6_readEither [.ref 1, .int a] M Q) (hd : ke + 0 ≤ d) (hK : 3 + 0 ≤ d)  (l1 : Int32) (l2 : Int32) (l3 : Int32) {x : Unit × fm_M}  (hq : Q none x.2) (M : fm_M) (h : J_X6_readPart_38 rE l1 l2 l3 M = some x) : fm_mw (d + 1) mX6_readPart Q 38 [some (.ref 1), some (.int l1), some (.int l2), some (.int l3)] [] M := by
  rw [J_X6_readPart_38] at h
  refine fl_iload2 (pc := 38) dX6_readPart_38 ?_
  refine fm_iconstv (pc := 39) 2 (by decide) dX6_readPart_39 ?_
  refine fm_icmp_eq (pc := 40) 55 (by decide) dX6_readPart_40 (fun c40 => ?_) (fun c40 => ?_)
  · replace h := fm_itp c40 h
    exact jn_X6_readPart_55 hE hd hK _ _ _  hq _ h
  · replace h := fm_itn c40 h
    refine fl_iload2 (pc := 43) dX6_readPart_43 ?_
    refine fm_bipushv (pc := 44) 32 (by decide) dX6_readPart_44 ?_
    refine fm_icmp_lt (pc := 46) 74 (by decide) dX6_readPart_46 (fun c46 => ?_) (fun c46 => ?_)
    · replace h := fm_itp c46 h
      exact jn_X6_readPart_74 hE hd hK _ _ _  hq _ h
    · replace h := fm_itn c46 h
      refine fl_iload2 (pc := 49) dX6_readPart_49 ?_
      refine fm_bipushv (pc := 50) 38 (by decide) dX6_readPart_50 ?_
      refine fm_icmp_gt (pc := 52) 74 (by decide) dX6_readPart_52 (fun c52 => ?_) (fun c52 => ?_)
      · replace h := fm_itp c52 h
        exact jn_X6_readPart_74 hE hd hK _ _ _  hq _ h
      · replace h := fm_itn c52 h
        exact jn_X6_readPart_55 hE hd hK _ _ _  hq _ h
theorem sp_X6_readPart {rE : Int32 → fm_M → Option (Unit × fm_M)} {ke : Nat} (hE : ∀ (a : Int32) {M : fm_M} {x : Unit × fm_M} {Q : Option Value → fm_M → Prop} {D : Nat}, rE a M = some x → Q none x.2 → ke ≤ D → fm_ct D mX6_readEither [.ref 1, .int a] M Q) {a1 : Int32} {M : fm_M} {x : Unit × fm_M} {Q : Option Value → fm_M → Prop} {D : Nat} (h : H_X6_readPart rE a1 M = some x) (hq : Q none x.2) (hD : ke + 1 ≤ D) (hK : 3 + 1 ≤ D) : fm_ct D mX6_readPart [.ref 1, .int a1] M Q := by
  rw [H_X6_readPart] at h
  obtain ⟨d, rfl⟩ : ∃ d, D = d + 1 := ⟨D - 1, by omega⟩
  replace hD : ke + 0 ≤ d := by omega
  replace hK : 3 + 0 ≤ d := by omega
  have hd := hD
  show fm_mw (d + 1) mX6_readPart Q 0 [some (.ref 1), some (.int a1), none, none] [] M
  refine fl_aload0 (pc := 0) dX6_readPart_0 ?_
  refine fm_geti (pc := 1) lk_6_67 sh_1 rfl dX6_readPart_1 ?_
  refine fm_if_eq (pc := 4) 8 (by decide) dX6_readPart_4 (fun c4 => ?_) (fun c4 => ?_)
  · replace h := fm_itp c4 h
    refine fl_aload0 (pc := 8) dX6_readPart_8 ?_
    refine fm_geti (pc := 9) lk_6_73 sh_1 rfl dX6_readPart_9 ?_
    obtain ⟨x1, ex1, h⟩ := fm_ltp h
    refine fm_cgi ex1 ?_
    refine fl_istore2 (pc := 12) rfl (by decide) dX6_readPart_12 ?_
    refine fl_aload0 (pc := 13) dX6_readPart_13 ?_
    refine fm_geti (pc := 14) lk_6_126 sh_1 rfl dX6_readPart_14 ?_
    obtain ⟨x2, ex2, h⟩ := fm_ltp h
    refine fm_cgi ex2 ?_
    refine fl_istore3 (pc := 17) rfl (by decide) dX6_readPart_17 ?_
    refine fl_iload2 (pc := 18) dX6_readPart_18 ?_
    refine fm_iconstv (pc := 19) 2 (by decide) dX6_readPart_19 ?_
    refine fm_icmp_ne (pc := 20) 38 (by decide) dX6_readPart_20 (fun c20 => ?_) (fun c20 => ?_)
    · replace h := fm_itn c20 h
      exact jn_X6_readPart_38 hE hd hK _ _ _  hq _ h
    · replace h := fm_itp c20 h
      refine fl_iload3 (pc := 23) dX6_readPart_23 ?_
      refine fm_sipushv (pc := 24) 9999 (by decide) dX6_readPart_24 ?_
      refine fm_icmp_le (pc := 27) 38 (by decide) dX6_readPart_27 (fun c27 => ?_) (fun c27 => ?_)
      · replace h := fm_itp c27 h
        exact jn_X6_readPart_38 hE hd hK _ _ _  hq _ h
      · replace h := fm_itn c27 h
        refine fl_aload0 (pc := 30) dX6_readPart_30 ?_
        refine fm_iconstv (pc := 31) 2 (by decide) dX6_readPart_31 ?_
        obtain ⟨v19, M20, ev19, h⟩ := fm_bdp h
        refine fm_callV (pc := 32) mX6_refuse [_] _ rfl cvX6_refuse ml_6_113 sh_1 rfl rfl (Nat.le_of_ble_eq_true rfl) (Nat.le_of_ble_eq_true rfl) dX6_readPart_32 ?_
        refine sq_X6_refuse ev19 ?_ (by omega)
        refine fm_ret0 ?_
        refine fm_goto (pc := 35) 118 (by decide) dX6_readPart_35 ?_
        refine fm_vret (pc := 118) rfl ?_ dX6_readPart_118
        cases h
        exact hq
  · replace h := fm_itn c4 h
    refine fm_vret (pc := 7) rfl ?_ dX6_readPart_7
    cases h
    exact hq
/-! X6_readProduct -/
def J_X6_readProduct_38 (rE : Int32 → fm_M → Option (Unit × fm_M)) (rec : Int32 → fm_M → Option ((Int32) × fm_M)) (l1 : Int32) (l2 : Int32) (M : fm_M) : Option ((Int32) × fm_M) :=
    fm_lt ((M.1 1 8)) (fun x3 =>
    fm_bd (F_X6_passKnot M) (fun v4 M5 =>
    fm_bd (H_X6_readPart rE l1 M5) (fun v6 M7 =>
    fm_lt (Int32.toNatClampNeg (M7.1 1 5)) (fun t8 =>
    fm_gd (fm_isTd t8) (
    fm_bd (F_X3_add (t8 + 10) x3 0 M7) (fun v10 M11 =>
    rec (l2 + 1) M11))))))
def G_X6_readProduct_7 (rE : Int32 → fm_M → Option (Unit × fm_M)) : Nat → Int32 → Int32 → fm_M → Option ((Int32) × fm_M)
  | 0, _, _, _ => none
  | n + 1, l1, l2, M =>
    if 64 < l2 then (
      some (l2, M)
    ) else (
      if (M.1 1 3) = 0 then (
        if (M.1 1 8) = 15 then (
          J_X6_readProduct_38 rE (G_X6_readProduct_7 rE n l1) l1 l2 M
        ) else (
          if (M.1 1 8) = 16 then (
            J_X6_readProduct_38 rE (G_X6_readProduct_7 rE n l1) l1 l2 M
          ) else (
            some (l2, M)
          )
        )
      ) else (
        some (l2, M)
      )
    )
def H_X6_readProduct (rE : Int32 → fm_M → Option (Unit × fm_M)) (a1 : Int32) (M : fm_M) : Option (Unit × fm_M) :=
    fm_bd (H_X6_readPart rE a1 M) (fun v1 M2 =>
    fm_bd (G_X6_readProduct_7 rE fm_fuel a1 0 M2) (fun w12 M13 =>
      some ((), M13)))
theorem jn_X6_readProduct_38 {d : Nat} {Q : Option Value → fm_M → Prop} {rE : Int32 → fm_M → Option (Unit × fm_M)} {ke : Nat} (hE : ∀ (a : Int32) {M : fm_M} {x : Unit × fm_M} {Q : Option Value → fm_M → Prop} {D : Nat}, rE a M = some x → Q none x.2 → ke ≤ D → fm_ct D mX6_readEither [.ref 1, .int a] M Q) (hd : ke + 1 ≤ d) (hK : 3 + 1 ≤ d) (rec : Int32 → fm_M → Option ((Int32) × fm_M))  (l1 : Int32) (l2 : Int32) {x : (Int32) × fm_M}  (ih : ∀ (l2 : Int32) (M : fm_M), rec l2 M = some x → fm_mw (d + 1) mX6_readProduct Q 7 [some (.ref 1), some (.int l1), some (.int l2), none] [] M) (k1 : ∀ (v : Int32) (M2 : fm_M), x = (v, M2) → fm_mw (d + 1) mX6_readProduct Q 70 [some (.ref 1), some (.int l1), some (.int v), none] [] M2) (M : fm_M) (h : J_X6_readProduct_38 rE rec l1 l2 M = some x) : fm_mw (d + 1) mX6_readProduct Q 38 [some (.ref 1), some (.int l1), some (.int l2), none] [] M := by
  rw [J_X6_readProduct_38] at h
  refine fl_aload0 (pc := 38) dX6_readProduct_38 ?_
  refine fm_geti (pc := 39) lk_6_73 sh_1 rfl dX6_readProduct_39 ?_
  obtain ⟨x3, ex3, h⟩ := fm_ltp h
  refine fm_cgi ex3 ?_
  refine fl_istore3 (pc := 42) rfl (by decide) dX6_readProduct_42 ?_
  refine fl_aload0 (pc := 43) dX6_readProduct_43 ?_
  obtain ⟨v4, M5, ev4, h⟩ := fm_bdp h
  refine fm_callV (pc := 44) mX6_passKnot [] _ rfl cvX6_passKnot ml_6_196 sh_1 rfl rfl (Nat.le_of_ble_eq_true rfl) (Nat.le_of_ble_eq_true rfl) dX6_readProduct_44 ?_
  refine sq_X6_passKnot ev4 ?_ (by omega)
  refine fm_ret0 ?_
  refine fl_aload0 (pc := 47) dX6_readProduct_47 ?_
  refine fl_iload1 (pc := 48) dX6_readProduct_48 ?_
  obtain ⟨v6, M7, ev6, h⟩ := fm_bdp h
  refine fm_callV (pc := 49) mX6_readPart [_] _ rfl cvX6_readPart ml_6_215 sh_1 rfl rfl (Nat.le_of_ble_eq_true rfl) (Nat.le_of_ble_eq_true rfl) dX6_readProduct_49 ?_
  refine sp_X6_readPart hE ev6 ?_ (by omega) (by omega)
  refine fm_ret0 ?_
  refine fl_aload0 (pc := 52) dX6_readProduct_52 ?_
  obtain ⟨t8, et8, h⟩ := fm_ltp h
  obtain ⟨g9, h⟩ := fm_gdp h
  refine fm_getm (pc := 53) (fm_nn et8 g9) lk_6_26 sh_1 rfl dX6_readProduct_53 ?_
  refine fm_cgr et8 ?_
  refine fm_getr (pc := 56) lk_6_174 (shTd0 g9) rfl dX6_readProduct_56 ?_
  refine fl_iload3 (pc := 59) dX6_readProduct_59 ?_
  refine fm_iconstv (pc := 60) 0 (by decide) dX6_readProduct_60 ?_
  obtain ⟨v10, M11, ev10, h⟩ := fm_bdp h
  refine fm_callV (pc := 61) mX3_add [_, _] _ rfl cvX3_add ml_6_199 (shTd10 g9) rfl rfl (Nat.le_of_ble_eq_true rfl) (Nat.le_of_ble_eq_true rfl) dX6_readProduct_61 ?_
  refine sq_X3_add ev10 ?_ (by omega)
  refine fm_ret0 ?_
  refine fl_iinc2 (pc := 64) rfl 1 (by decide) (by decide) dX6_readProduct_64 ?_
  refine fm_goto (pc := 67) 7 (by decide) dX6_readProduct_67 ?_
  refine fm_fgt [some (.ref 1), some (.int l1), some (.int (l2 + 1)), none] (by simp [fm_sub]) ?_
  exact ih _ _ h
theorem lp_X6_readProduct_7 {d : Nat} {Q : Option Value → fm_M → Prop} {rE : Int32 → fm_M → Option (Unit × fm_M)} {ke : Nat} (hE : ∀ (a : Int32) {M : fm_M} {x : Unit × fm_M} {Q : Option Value → fm_M → Prop} {D : Nat}, rE a M = some x → Q none x.2 → ke ≤ D → fm_ct D mX6_readEither [.ref 1, .int a] M Q) (hd : ke + 1 ≤ d) (hK : 3 + 1 ≤ d) {l1 : Int32}   {x : (Int32) × fm_M} (k1 : ∀ (v : Int32) (M2 : fm_M), x = (v, M2) → fm_mw (d + 1) mX6_readProduct Q 70 [some (.ref 1), some (.int l1), some (.int v), none] [] M2) : ∀ (n : Nat) (l2 : Int32) (M : fm_M), G_X6_readProduct_7 rE n l1 l2 M = some x → fm_mw (d + 1) mX6_readProduct Q 7 [some (.ref 1), some (.int l1), some (.int l2), none] [] M := by
  intro n
  induction n with
  | zero => intro l2 M h; simp [G_X6_readProduct_7] at h
  | succ n ih =>
    intro l2 M h
    rw [G_X6_readProduct_7] at h
    refine fl_iload2 (pc := 7) dX6_readProduct_7 ?_
    refine fm_bipushv (pc := 8) 64 (by decide) dX6_readProduct_8 ?_
    refine fm_icmp_gt (pc := 10) 70 (by decide) dX6_readProduct_10 (fun c10 => ?_) (fun c10 => ?_)
    · replace h := fm_itp c10 h
      refine fm_fgt [some (.ref 1), some (.int l1), some (.int l2), none] (by simp [fm_sub]) ?_
      cases h
      exact k1 _ _ rfl
    · replace h := fm_itn c10 h
      refine fl_aload0 (pc := 13) dX6_readProduct_13 ?_
      refine fm_geti (pc := 14) lk_6_67 sh_1 rfl dX6_readProduct_14 ?_
      refine fm_if_ne (pc := 17) 70 (by decide) dX6_readProduct_17 (fun c17 => ?_) (fun c17 => ?_)
      · replace h := fm_itn c17 h
        refine fm_fgt [some (.ref 1), some (.int l1), some (.int l2), none] (by simp [fm_sub]) ?_
        cases h
        exact k1 _ _ rfl
      · replace h := fm_itp c17 h
        refine fl_aload0 (pc := 20) dX6_readProduct_20 ?_
        refine fm_geti (pc := 21) lk_6_73 sh_1 rfl dX6_readProduct_21 ?_
        refine fm_bipushv (pc := 24) 15 (by decide) dX6_readProduct_24 ?_
        refine fm_icmp_eq (pc := 26) 38 (by decide) dX6_readProduct_26 (fun c26 => ?_) (fun c26 => ?_)
        · replace h := fm_itp c26 h
          exact jn_X6_readProduct_38 hE hd hK _ _ _  ih k1 _ h
        · replace h := fm_itn c26 h
          refine fl_aload0 (pc := 29) dX6_readProduct_29 ?_
          refine fm_geti (pc := 30) lk_6_73 sh_1 rfl dX6_readProduct_30 ?_
          refine fm_bipushv (pc := 33) 16 (by decide) dX6_readProduct_33 ?_
          refine fm_icmp_ne (pc := 35) 70 (by decide) dX6_readProduct_35 (fun c35 => ?_) (fun c35 => ?_)
          · replace h := fm_itn c35 h
            refine fm_fgt [some (.ref 1), some (.int l1), some (.int l2), none] (by simp [fm_sub]) ?_
            cases h
            exact k1 _ _ rfl
          · replace h := fm_itp c35 h
            exact jn_X6_readProduct_38 hE hd hK _ _ _  ih k1 _ h
theorem sp_X6_readProduct {rE : Int32 → fm_M → Option (Unit × fm_M)} {ke : Nat} (hE : ∀ (a : Int32) {M : fm_M} {x : Unit × fm_M} {Q : Option Value → fm_M → Prop} {D : Nat}, rE a M = some x → Q none x.2 → ke ≤ D → fm_ct D mX6_readEither [.ref 1, .int a] M Q) {a1 : Int32} {M : fm_M} {x : Unit × fm_M} {Q : Option Value → fm_M → Prop} {D : Nat} (h : H_X6_readProduct rE a1 M = some x) (hq : Q none x.2) (hD : ke + 2 ≤ D) (hK : 3 + 2 ≤ D) : fm_ct D mX6_readProduct [.ref 1, .int a1] M Q := by
  rw [H_X6_readProduct] at h
  obtain ⟨d, rfl⟩ : ∃ d, D = d + 1 := ⟨D - 1, by omega⟩
  replace hD : ke + 1 ≤ d := by omega
  replace hK : 3 + 1 ≤ d := by omega
  have hd := hD
  show fm_mw (d + 1) mX6_readProduct Q 0 [some (.ref 1), some (.int a1), none, none] [] M
  refine fl_aload0 (pc := 0) dX6_readProduct_0 ?_
  refine fl_iload1 (pc := 1) dX6_readProduct_1 ?_
  obtain ⟨v1, M2, ev1, h⟩ := fm_bdp h
  refine fm_callV (pc := 2) mX6_readPart [_] _ rfl cvX6_readPart ml_6_215 sh_1 rfl rfl (Nat.le_of_ble_eq_true rfl) (Nat.le_of_ble_eq_true rfl) dX6_readProduct_2 ?_
  refine sp_X6_readPart hE ev1 ?_ (by omega) (by omega)
  refine fm_ret0 ?_
  refine fm_iconstv (pc := 5) 0 (by decide) dX6_readProduct_5 ?_
  refine fl_istore2 (pc := 6) rfl (by decide) dX6_readProduct_6 ?_
  obtain ⟨w12, M13, ew12, h⟩ := fm_bdp h
  refine lp_X6_readProduct_7 hE hd hK  ?_ _ _ _ ew12
  intro w129 M139 q9
  cases q9
  refine fm_vret (pc := 70) rfl ?_ dX6_readProduct_70
  cases h
  exact hq
/-! X6_readSum -/
def J_X6_readSum_38 (rE : Int32 → fm_M → Option (Unit × fm_M)) (rec : Int32 → fm_M → Option ((Int32) × fm_M)) (l1 : Int32) (l2 : Int32) (M : fm_M) : Option ((Int32) × fm_M) :=
    fm_lt ((M.1 1 8)) (fun x3 =>
    fm_bd (F_X6_passKnot M) (fun v4 M5 =>
    fm_bd (H_X6_readProduct rE l1 M5) (fun v6 M7 =>
    fm_lt (Int32.toNatClampNeg (M7.1 1 5)) (fun t8 =>
    fm_gd (fm_isTd t8) (
    fm_bd (F_X3_add (t8 + 10) x3 0 M7) (fun v10 M11 =>
    rec (l2 + 1) M11))))))
def G_X6_readSum_7 (rE : Int32 → fm_M → Option (Unit × fm_M)) : Nat → Int32 → Int32 → fm_M → Option ((Int32) × fm_M)
  | 0, _, _, _ => none
  | n + 1, l1, l2, M =>
    if 64 < l2 then (
      some (l2, M)
    ) else (
      if (M.1 1 3) = 0 then (
        if (M.1 1 8) = 13 then (
          J_X6_readSum_38 rE (G_X6_readSum_7 rE n l1) l1 l2 M
        ) else (
          if (M.1 1 8) = 14 then (
            J_X6_readSum_38 rE (G_X6_readSum_7 rE n l1) l1 l2 M
          ) else (
            some (l2, M)
          )
        )
      ) else (
        some (l2, M)
      )
    )
def H_X6_readSum (rE : Int32 → fm_M → Option (Unit × fm_M)) (a1 : Int32) (M : fm_M) : Option (Unit × fm_M) :=
    fm_bd (H_X6_readProduct rE a1 M) (fun v1 M2 =>
    fm_bd (G_X6_readSum_7 rE fm_fuel a1 0 M2) (fun w12 M13 =>
      some ((), M13)))
theorem jn_X6_readSum_38 {d : Nat} {Q : Option Value → fm_M → Prop} {rE : Int32 → fm_M → Option (Unit × fm_M)} {ke : Nat} (hE : ∀ (a : Int32) {M : fm_M} {x : Unit × fm_M} {Q : Option Value → fm_M → Prop} {D : Nat}, rE a M = some x → Q none x.2 → ke ≤ D → fm_ct D mX6_readEither [.ref 1, .int a] M Q) (hd : ke + 2 ≤ d) (hK : 3 + 2 ≤ d) (rec : Int32 → fm_M → Option ((Int32) × fm_M))  (l1 : Int32) (l2 : Int32) {x : (Int32) × fm_M}  (ih : ∀ (l2 : Int32) (M : fm_M), rec l2 M = some x → fm_mw (d + 1) mX6_readSum Q 7 [some (.ref 1), some (.int l1), some (.int l2), none] [] M) (k1 : ∀ (v : Int32) (M2 : fm_M), x = (v, M2) → fm_mw (d + 1) mX6_readSum Q 70 [some (.ref 1), some (.int l1), some (.int v), none] [] M2) (M : fm_M) (h : J_X6_readSum_38 rE rec l1 l2 M = some x) : fm_mw (d + 1) mX6_readSum Q 38 [some (.ref 1), some (.int l1), some (.int l2), none] [] M := by
  rw [J_X6_readSum_38] at h
  refine fl_aload0 (pc := 38) dX6_readSum_38 ?_
  refine fm_geti (pc := 39) lk_6_73 sh_1 rfl dX6_readSum_39 ?_
  obtain ⟨x3, ex3, h⟩ := fm_ltp h
  refine fm_cgi ex3 ?_
  refine fl_istore3 (pc := 42) rfl (by decide) dX6_readSum_42 ?_
  refine fl_aload0 (pc := 43) dX6_readSum_43 ?_
  obtain ⟨v4, M5, ev4, h⟩ := fm_bdp h
  refine fm_callV (pc := 44) mX6_passKnot [] _ rfl cvX6_passKnot ml_6_196 sh_1 rfl rfl (Nat.le_of_ble_eq_true rfl) (Nat.le_of_ble_eq_true rfl) dX6_readSum_44 ?_
  refine sq_X6_passKnot ev4 ?_ (by omega)
  refine fm_ret0 ?_
  refine fl_aload0 (pc := 47) dX6_readSum_47 ?_
  refine fl_iload1 (pc := 48) dX6_readSum_48 ?_
  obtain ⟨v6, M7, ev6, h⟩ := fm_bdp h
  refine fm_callV (pc := 49) mX6_readProduct [_] _ rfl cvX6_readProduct ml_6_212 sh_1 rfl rfl (Nat.le_of_ble_eq_true rfl) (Nat.le_of_ble_eq_true rfl) dX6_readSum_49 ?_
  refine sp_X6_readProduct hE ev6 ?_ (by omega) (by omega)
  refine fm_ret0 ?_
  refine fl_aload0 (pc := 52) dX6_readSum_52 ?_
  obtain ⟨t8, et8, h⟩ := fm_ltp h
  obtain ⟨g9, h⟩ := fm_gdp h
  refine fm_getm (pc := 53) (fm_nn et8 g9) lk_6_26 sh_1 rfl dX6_readSum_53 ?_
  refine fm_cgr et8 ?_
  refine fm_getr (pc := 56) lk_6_174 (shTd0 g9) rfl dX6_readSum_56 ?_
  refine fl_iload3 (pc := 59) dX6_readSum_59 ?_
  refine fm_iconstv (pc := 60) 0 (by decide) dX6_readSum_60 ?_
  obtain ⟨v10, M11, ev10, h⟩ := fm_bdp h
  refine fm_callV (pc := 61) mX3_add [_, _] _ rfl cvX3_add ml_6_199 (shTd10 g9) rfl rfl (Nat.le_of_ble_eq_true rfl) (Nat.le_of_ble_eq_true rfl) dX6_readSum_61 ?_
  refine sq_X3_add ev10 ?_ (by omega)
  refine fm_ret0 ?_
  refine fl_iinc2 (pc := 64) rfl 1 (by decide) (by decide) dX6_readSum_64 ?_
  refine fm_goto (pc := 67) 7 (by decide) dX6_readSum_67 ?_
  refine fm_fgt [some (.ref 1), some (.int l1), some (.int (l2 + 1)), none] (by simp [fm_sub]) ?_
  exact ih _ _ h
theorem lp_X6_readSum_7 {d : Nat} {Q : Option Value → fm_M → Prop} {rE : Int32 → fm_M → Option (Unit × fm_M)} {ke : Nat} (hE : ∀ (a : Int32) {M : fm_M} {x : Unit × fm_M} {Q : Option Value → fm_M → Prop} {D : Nat}, rE a M = some x → Q none x.2 → ke ≤ D → fm_ct D mX6_readEither [.ref 1, .int a] M Q) (hd : ke + 2 ≤ d) (hK : 3 + 2 ≤ d) {l1 : Int32}   {x : (Int32) × fm_M} (k1 : ∀ (v : Int32) (M2 : fm_M), x = (v, M2) → fm_mw (d + 1) mX6_readSum Q 70 [some (.ref 1), some (.int l1), some (.int v), none] [] M2) : ∀ (n : Nat) (l2 : Int32) (M : fm_M), G_X6_readSum_7 rE n l1 l2 M = some x → fm_mw (d + 1) mX6_readSum Q 7 [some (.ref 1), some (.int l1), some (.int l2), none] [] M := by
  intro n
  induction n with
  | zero => intro l2 M h; simp [G_X6_readSum_7] at h
  | succ n ih =>
    intro l2 M h
    rw [G_X6_readSum_7] at h
    refine fl_iload2 (pc := 7) dX6_readSum_7 ?_
    refine fm_bipushv (pc := 8) 64 (by decide) dX6_readSum_8 ?_
    refine fm_icmp_gt (pc := 10) 70 (by decide) dX6_readSum_10 (fun c10 => ?_) (fun c10 => ?_)
    · replace h := fm_itp c10 h
      refine fm_fgt [some (.ref 1), some (.int l1), some (.int l2), none] (by simp [fm_sub]) ?_
      cases h
      exact k1 _ _ rfl
    · replace h := fm_itn c10 h
      refine fl_aload0 (pc := 13) dX6_readSum_13 ?_
      refine fm_geti (pc := 14) lk_6_67 sh_1 rfl dX6_readSum_14 ?_
      refine fm_if_ne (pc := 17) 70 (by decide) dX6_readSum_17 (fun c17 => ?_) (fun c17 => ?_)
      · replace h := fm_itn c17 h
        refine fm_fgt [some (.ref 1), some (.int l1), some (.int l2), none] (by simp [fm_sub]) ?_
        cases h
        exact k1 _ _ rfl
      · replace h := fm_itp c17 h
        refine fl_aload0 (pc := 20) dX6_readSum_20 ?_
        refine fm_geti (pc := 21) lk_6_73 sh_1 rfl dX6_readSum_21 ?_
        refine fm_bipushv (pc := 24) 13 (by decide) dX6_readSum_24 ?_
        refine fm_icmp_eq (pc := 26) 38 (by decide) dX6_readSum_26 (fun c26 => ?_) (fun c26 => ?_)
        · replace h := fm_itp c26 h
          exact jn_X6_readSum_38 hE hd hK _ _ _  ih k1 _ h
        · replace h := fm_itn c26 h
          refine fl_aload0 (pc := 29) dX6_readSum_29 ?_
          refine fm_geti (pc := 30) lk_6_73 sh_1 rfl dX6_readSum_30 ?_
          refine fm_bipushv (pc := 33) 14 (by decide) dX6_readSum_33 ?_
          refine fm_icmp_ne (pc := 35) 70 (by decide) dX6_readSum_35 (fun c35 => ?_) (fun c35 => ?_)
          · replace h := fm_itn c35 h
            refine fm_fgt [some (.ref 1), some (.int l1), some (.int l2), none] (by simp [fm_sub]) ?_
            cases h
            exact k1 _ _ rfl
          · replace h := fm_itp c35 h
            exact jn_X6_readSum_38 hE hd hK _ _ _  ih k1 _ h
theorem sp_X6_readSum {rE : Int32 → fm_M → Option (Unit × fm_M)} {ke : Nat} (hE : ∀ (a : Int32) {M : fm_M} {x : Unit × fm_M} {Q : Option Value → fm_M → Prop} {D : Nat}, rE a M = some x → Q none x.2 → ke ≤ D → fm_ct D mX6_readEither [.ref 1, .int a] M Q) {a1 : Int32} {M : fm_M} {x : Unit × fm_M} {Q : Option Value → fm_M → Prop} {D : Nat} (h : H_X6_readSum rE a1 M = some x) (hq : Q none x.2) (hD : ke + 3 ≤ D) (hK : 3 + 3 ≤ D) : fm_ct D mX6_readSum [.ref 1, .int a1] M Q := by
  rw [H_X6_readSum] at h
  obtain ⟨d, rfl⟩ : ∃ d, D = d + 1 := ⟨D - 1, by omega⟩
  replace hD : ke + 2 ≤ d := by omega
  replace hK : 3 + 2 ≤ d := by omega
  have hd := hD
  show fm_mw (d + 1) mX6_readSum Q 0 [some (.ref 1), some (.int a1), none, none] [] M
  refine fl_aload0 (pc := 0) dX6_readSum_0 ?_
  refine fl_iload1 (pc := 1) dX6_readSum_1 ?_
  obtain ⟨v1, M2, ev1, h⟩ := fm_bdp h
  refine fm_callV (pc := 2) mX6_readProduct [_] _ rfl cvX6_readProduct ml_6_212 sh_1 rfl rfl (Nat.le_of_ble_eq_true rfl) (Nat.le_of_ble_eq_true rfl) dX6_readSum_2 ?_
  refine sp_X6_readProduct hE ev1 ?_ (by omega) (by omega)
  refine fm_ret0 ?_
  refine fm_iconstv (pc := 5) 0 (by decide) dX6_readSum_5 ?_
  refine fl_istore2 (pc := 6) rfl (by decide) dX6_readSum_6 ?_
  obtain ⟨w12, M13, ew12, h⟩ := fm_bdp h
  refine lp_X6_readSum_7 hE hd hK  ?_ _ _ _ ew12
  intro w129 M139 q9
  cases q9
  refine fm_vret (pc := 70) rfl ?_ dX6_readSum_70
  cases h
  exact hq
/-! X6_readComparison -/
def H_X6_readComparison (rE : Int32 → fm_M → Option (Unit × fm_M)) (a1 : Int32) (M : fm_M) : Option (Unit × fm_M) :=
    fm_bd (H_X6_readSum rE a1 M) (fun v1 M2 =>
    if (M2.1 1 3) = 0 then (
      if (M2.1 1 8) < 7 then (
        some ((), M2)
      ) else (
        if 12 < (M2.1 1 8) then (
          some ((), M2)
        ) else (
          fm_lt ((M2.1 1 8)) (fun x3 =>
          fm_bd (F_X6_passKnot M2) (fun v4 M5 =>
          fm_bd (H_X6_readSum rE a1 M5) (fun v6 M7 =>
          fm_lt (Int32.toNatClampNeg (M7.1 1 5)) (fun t8 =>
          fm_gd (fm_isTd t8) (
          fm_bd (F_X3_add (t8 + 10) x3 0 M7) (fun v10 M11 =>
          some ((), M11)))))))
        )
      )
    ) else (
      some ((), M2)
    ))
theorem sp_X6_readComparison {rE : Int32 → fm_M → Option (Unit × fm_M)} {ke : Nat} (hE : ∀ (a : Int32) {M : fm_M} {x : Unit × fm_M} {Q : Option Value → fm_M → Prop} {D : Nat}, rE a M = some x → Q none x.2 → ke ≤ D → fm_ct D mX6_readEither [.ref 1, .int a] M Q) {a1 : Int32} {M : fm_M} {x : Unit × fm_M} {Q : Option Value → fm_M → Prop} {D : Nat} (h : H_X6_readComparison rE a1 M = some x) (hq : Q none x.2) (hD : ke + 4 ≤ D) (hK : 3 + 4 ≤ D) : fm_ct D mX6_readComparison [.ref 1, .int a1] M Q := by
  rw [H_X6_readComparison] at h
  obtain ⟨d, rfl⟩ : ∃ d, D = d + 1 := ⟨D - 1, by omega⟩
  replace hD : ke + 3 ≤ d := by omega
  replace hK : 3 + 3 ≤ d := by omega
  have hd := hD
  show fm_mw (d + 1) mX6_readComparison Q 0 [some (.ref 1), some (.int a1), none] [] M
  refine fl_aload0 (pc := 0) dX6_readComparison_0 ?_
  refine fl_iload1 (pc := 1) dX6_readComparison_1 ?_
  obtain ⟨v1, M2, ev1, h⟩ := fm_bdp h
  refine fm_callV (pc := 2) mX6_readSum [_] _ rfl cvX6_readSum ml_6_209 sh_1 rfl rfl (Nat.le_of_ble_eq_true rfl) (Nat.le_of_ble_eq_true rfl) dX6_readComparison_2 ?_
  refine sp_X6_readSum hE ev1 ?_ (by omega) (by omega)
  refine fm_ret0 ?_
  refine fl_aload0 (pc := 5) dX6_readComparison_5 ?_
  refine fm_geti (pc := 6) lk_6_67 sh_1 rfl dX6_readComparison_6 ?_
  refine fm_if_ne (pc := 9) 56 (by decide) dX6_readComparison_9 (fun c9 => ?_) (fun c9 => ?_)
  · replace h := fm_itn c9 h
    refine fm_vret (pc := 56) rfl ?_ dX6_readComparison_56
    cases h
    exact hq
  · replace h := fm_itp c9 h
    refine fl_aload0 (pc := 12) dX6_readComparison_12 ?_
    refine fm_geti (pc := 13) lk_6_73 sh_1 rfl dX6_readComparison_13 ?_
    refine fm_bipushv (pc := 16) 7 (by decide) dX6_readComparison_16 ?_
    refine fm_icmp_lt (pc := 18) 56 (by decide) dX6_readComparison_18 (fun c18 => ?_) (fun c18 => ?_)
    · replace h := fm_itp c18 h
      refine fm_vret (pc := 56) rfl ?_ dX6_readComparison_56
      cases h
      exact hq
    · replace h := fm_itn c18 h
      refine fl_aload0 (pc := 21) dX6_readComparison_21 ?_
      refine fm_geti (pc := 22) lk_6_73 sh_1 rfl dX6_readComparison_22 ?_
      refine fm_bipushv (pc := 25) 12 (by decide) dX6_readComparison_25 ?_
      refine fm_icmp_gt (pc := 27) 56 (by decide) dX6_readComparison_27 (fun c27 => ?_) (fun c27 => ?_)
      · replace h := fm_itp c27 h
        refine fm_vret (pc := 56) rfl ?_ dX6_readComparison_56
        cases h
        exact hq
      · replace h := fm_itn c27 h
        refine fl_aload0 (pc := 30) dX6_readComparison_30 ?_
        refine fm_geti (pc := 31) lk_6_73 sh_1 rfl dX6_readComparison_31 ?_
        obtain ⟨x3, ex3, h⟩ := fm_ltp h
        refine fm_cgi ex3 ?_
        refine fl_istore2 (pc := 34) rfl (by decide) dX6_readComparison_34 ?_
        refine fl_aload0 (pc := 35) dX6_readComparison_35 ?_
        obtain ⟨v4, M5, ev4, h⟩ := fm_bdp h
        refine fm_callV (pc := 36) mX6_passKnot [] _ rfl cvX6_passKnot ml_6_196 sh_1 rfl rfl (Nat.le_of_ble_eq_true rfl) (Nat.le_of_ble_eq_true rfl) dX6_readComparison_36 ?_
        refine sq_X6_passKnot ev4 ?_ (by omega)
        refine fm_ret0 ?_
        refine fl_aload0 (pc := 39) dX6_readComparison_39 ?_
        refine fl_iload1 (pc := 40) dX6_readComparison_40 ?_
        obtain ⟨v6, M7, ev6, h⟩ := fm_bdp h
        refine fm_callV (pc := 41) mX6_readSum [_] _ rfl cvX6_readSum ml_6_209 sh_1 rfl rfl (Nat.le_of_ble_eq_true rfl) (Nat.le_of_ble_eq_true rfl) dX6_readComparison_41 ?_
        refine sp_X6_readSum hE ev6 ?_ (by omega) (by omega)
        refine fm_ret0 ?_
        refine fl_aload0 (pc := 44) dX6_readComparison_44 ?_
        obtain ⟨t8, et8, h⟩ := fm_ltp h
        obtain ⟨g9, h⟩ := fm_gdp h
        refine fm_getm (pc := 45) (fm_nn et8 g9) lk_6_26 sh_1 rfl dX6_readComparison_45 ?_
        refine fm_cgr et8 ?_
        refine fm_getr (pc := 48) lk_6_174 (shTd0 g9) rfl dX6_readComparison_48 ?_
        refine fl_iload2 (pc := 51) dX6_readComparison_51 ?_
        refine fm_iconstv (pc := 52) 0 (by decide) dX6_readComparison_52 ?_
        obtain ⟨v10, M11, ev10, h⟩ := fm_bdp h
        refine fm_callV (pc := 53) mX3_add [_, _] _ rfl cvX3_add ml_6_199 (shTd10 g9) rfl rfl (Nat.le_of_ble_eq_true rfl) (Nat.le_of_ble_eq_true rfl) dX6_readComparison_53 ?_
        refine sq_X3_add ev10 ?_ (by omega)
        refine fm_ret0 ?_
        refine fm_vret (pc := 56) rfl ?_ dX6_readComparison_56
        cases h
        exact hq
/-! X6_readDenial -/
def G_X6_readDenial_4 (rE : Int32 → fm_M → Option (Unit × fm_M)) : Nat → Int32 → Int32 → Int32 → fm_M → Option ((Int32 × Int32) × fm_M)
  | 0, _, _, _, _ => none
  | n + 1, l1, l2, l3, M =>
    if 64 < l3 then (
      some ((l2, l3), M)
    ) else (
      if (M.1 1 3) = 0 then (
        if (M.1 1 8) = 31 then (
          fm_bd (F_X6_passKnot M) (fun v1 M2 =>
          G_X6_readDenial_4 rE n l1 (l2 + 1) (l3 + 1) M2)
        ) else (
          some ((l2, l3), M)
        )
      ) else (
        some ((l2, l3), M)
      )
    )
def G_X6_readDenial_46 (rE : Int32 → fm_M → Option (Unit × fm_M)) : Nat → Int32 → Int32 → Int32 → fm_M → Option ((Int32) × fm_M)
  | 0, _, _, _, _ => none
  | n + 1, l1, l2, l3, M =>
    if l2 ≤ l3 then (
      some (l3, M)
    ) else (
      fm_lt (Int32.toNatClampNeg (M.1 1 5)) (fun t7 =>
      fm_gd (fm_isTd t7) (
      fm_bd (F_X3_add (t7 + 10) 31 0 M) (fun v9 M10 =>
      G_X6_readDenial_46 rE n l1 l2 (l3 + 1) M10)))
    )
def H_X6_readDenial (rE : Int32 → fm_M → Option (Unit × fm_M)) (a1 : Int32) (M : fm_M) : Option (Unit × fm_M) :=
    fm_bd (G_X6_readDenial_4 rE fm_fuel a1 0 0 M) (fun w3 M4 =>
      fm_bd (H_X6_readComparison rE a1 M4) (fun v5 M6 =>
      fm_bd (G_X6_readDenial_46 rE fm_fuel a1 w3.1 0 M6) (fun w11 M12 =>
        some ((), M12))))
theorem lp_X6_readDenial_4 {d : Nat} {Q : Option Value → fm_M → Prop} {rE : Int32 → fm_M → Option (Unit × fm_M)} {ke : Nat} (hE : ∀ (a : Int32) {M : fm_M} {x : Unit × fm_M} {Q : Option Value → fm_M → Prop} {D : Nat}, rE a M = some x → Q none x.2 → ke ≤ D → fm_ct D mX6_readEither [.ref 1, .int a] M Q) (hd : ke + 4 ≤ d) (hK : 3 + 4 ≤ d) {l1 : Int32}   {x : (Int32 × Int32) × fm_M} (k1 : ∀ (v : Int32 × Int32) (M2 : fm_M), x = (v, M2) → fm_mw (d + 1) mX6_readDenial Q 39 [some (.ref 1), some (.int l1), some (.int v.1), some (.int v.2)] [] M2) : ∀ (n : Nat) (l2 : Int32) (l3 : Int32) (M : fm_M), G_X6_readDenial_4 rE n l1 l2 l3 M = some x → fm_mw (d + 1) mX6_readDenial Q 4 [some (.ref 1), some (.int l1), some (.int l2), some (.int l3)] [] M := by
  intro n
  induction n with
  | zero => intro l2 l3 M h; simp [G_X6_readDenial_4] at h
  | succ n ih =>
    intro l2 l3 M h
    rw [G_X6_readDenial_4] at h
    refine fl_iload3 (pc := 4) dX6_readDenial_4 ?_
    refine fm_bipushv (pc := 5) 64 (by decide) dX6_readDenial_5 ?_
    refine fm_icmp_gt (pc := 7) 39 (by decide) dX6_readDenial_7 (fun c7 => ?_) (fun c7 => ?_)
    · replace h := fm_itp c7 h
      refine fm_fgt [some (.ref 1), some (.int l1), some (.int l2), some (.int l3)] (by simp [fm_sub]) ?_
      cases h
      exact k1 _ _ rfl
    · replace h := fm_itn c7 h
      refine fl_aload0 (pc := 10) dX6_readDenial_10 ?_
      refine fm_geti (pc := 11) lk_6_67 sh_1 rfl dX6_readDenial_11 ?_
      refine fm_if_ne (pc := 14) 39 (by decide) dX6_readDenial_14 (fun c14 => ?_) (fun c14 => ?_)
      · replace h := fm_itn c14 h
        refine fm_fgt [some (.ref 1), some (.int l1), some (.int l2), some (.int l3)] (by simp [fm_sub]) ?_
        cases h
        exact k1 _ _ rfl
      · replace h := fm_itp c14 h
        refine fl_aload0 (pc := 17) dX6_readDenial_17 ?_
        refine fm_geti (pc := 18) lk_6_73 sh_1 rfl dX6_readDenial_18 ?_
        refine fm_bipushv (pc := 21) 31 (by decide) dX6_readDenial_21 ?_
        refine fm_icmp_ne (pc := 23) 39 (by decide) dX6_readDenial_23 (fun c23 => ?_) (fun c23 => ?_)
        · replace h := fm_itn c23 h
          refine fm_fgt [some (.ref 1), some (.int l1), some (.int l2), some (.int l3)] (by simp [fm_sub]) ?_
          cases h
          exact k1 _ _ rfl
        · replace h := fm_itp c23 h
          refine fl_aload0 (pc := 26) dX6_readDenial_26 ?_
          obtain ⟨v1, M2, ev1, h⟩ := fm_bdp h
          refine fm_callV (pc := 27) mX6_passKnot [] _ rfl cvX6_passKnot ml_6_196 sh_1 rfl rfl (Nat.le_of_ble_eq_true rfl) (Nat.le_of_ble_eq_true rfl) dX6_readDenial_27 ?_
          refine sq_X6_passKnot ev1 ?_ (by omega)
          refine fm_ret0 ?_
          refine fl_iinc2 (pc := 30) rfl 1 (by decide) (by decide) dX6_readDenial_30 ?_
          refine fl_iinc3 (pc := 33) rfl 1 (by decide) (by decide) dX6_readDenial_33 ?_
          refine fm_goto (pc := 36) 4 (by decide) dX6_readDenial_36 ?_
          refine fm_fgt [some (.ref 1), some (.int l1), some (.int (l2 + 1)), some (.int (l3 + 1))] (by simp [fm_sub]) ?_
          exact ih _ _ _ h
theorem lp_X6_readDenial_46 {d : Nat} {Q : Option Value → fm_M → Prop} {rE : Int32 → fm_M → Option (Unit × fm_M)} {ke : Nat} (hE : ∀ (a : Int32) {M : fm_M} {x : Unit × fm_M} {Q : Option Value → fm_M → Prop} {D : Nat}, rE a M = some x → Q none x.2 → ke ≤ D → fm_ct D mX6_readEither [.ref 1, .int a] M Q) (hd : ke + 4 ≤ d) (hK : 3 + 4 ≤ d) {l1 : Int32} {l2 : Int32}   {x : (Int32) × fm_M} (k1 : ∀ (v : Int32) (M2 : fm_M), x = (v, M2) → fm_mw (d + 1) mX6_readDenial Q 70 [some (.ref 1), some (.int l1), some (.int l2), some (.int v)] [] M2) : ∀ (n : Nat) (l3 : Int32) (M : fm_M), G_X6_readDenial_46 rE n l1 l2 l3 M = some x → fm_mw (d + 1) mX6_readDenial Q 46 [some (.ref 1), some (.int l1), some (.int l2), some (.int l3)] [] M := by
  intro n
  induction n with
  | zero => intro l3 M h; simp [G_X6_readDenial_46] at h
  | succ n ih =>
    intro l3 M h
    rw [G_X6_readDenial_46] at h
    refine fl_iload3 (pc := 46) dX6_readDenial_46 ?_
    refine fl_iload2 (pc := 47) dX6_readDenial_47 ?_
    refine fm_icmp_ge (pc := 48) 70 (by decide) dX6_readDenial_48 (fun c48 => ?_) (fun c48 => ?_)
    · replace h := fm_itp c48 h
      refine fm_fgt [some (.ref 1), some (.int l1), some (.int l2), some (.int l3)] (by simp [fm_sub]) ?_
      cases h
      exact k1 _ _ rfl
    · replace h := fm_itn c48 h
      refine fl_aload0 (pc := 51) dX6_readDenial_51 ?_
      obtain ⟨t7, et7, h⟩ := fm_ltp h
      obtain ⟨g8, h⟩ := fm_gdp h
      refine fm_getm (pc := 52) (fm_nn et7 g8) lk_6_26 sh_1 rfl dX6_readDenial_52 ?_
      refine fm_cgr et7 ?_
      refine fm_getr (pc := 55) lk_6_174 (shTd0 g8) rfl dX6_readDenial_55 ?_
      refine fm_bipushv (pc := 58) 31 (by decide) dX6_readDenial_58 ?_
      refine fm_iconstv (pc := 60) 0 (by decide) dX6_readDenial_60 ?_
      obtain ⟨v9, M10, ev9, h⟩ := fm_bdp h
      refine fm_callV (pc := 61) mX3_add [_, _] _ rfl cvX3_add ml_6_199 (shTd10 g8) rfl rfl (Nat.le_of_ble_eq_true rfl) (Nat.le_of_ble_eq_true rfl) dX6_readDenial_61 ?_
      refine sq_X3_add ev9 ?_ (by omega)
      refine fm_ret0 ?_
      refine fl_iinc3 (pc := 64) rfl 1 (by decide) (by decide) dX6_readDenial_64 ?_
      refine fm_goto (pc := 67) 46 (by decide) dX6_readDenial_67 ?_
      refine fm_fgt [some (.ref 1), some (.int l1), some (.int l2), some (.int (l3 + 1))] (by simp [fm_sub]) ?_
      exact ih _ _ h
theorem sp_X6_readDenial {rE : Int32 → fm_M → Option (Unit × fm_M)} {ke : Nat} (hE : ∀ (a : Int32) {M : fm_M} {x : Unit × fm_M} {Q : Option Value → fm_M → Prop} {D : Nat}, rE a M = some x → Q none x.2 → ke ≤ D → fm_ct D mX6_readEither [.ref 1, .int a] M Q) {a1 : Int32} {M : fm_M} {x : Unit × fm_M} {Q : Option Value → fm_M → Prop} {D : Nat} (h : H_X6_readDenial rE a1 M = some x) (hq : Q none x.2) (hD : ke + 5 ≤ D) (hK : 3 + 5 ≤ D) : fm_ct D mX6_readDenial [.ref 1, .int a1] M Q := by
  rw [H_X6_readDenial] at h
  obtain ⟨d, rfl⟩ : ∃ d, D = d + 1 := ⟨D - 1, by omega⟩
  replace hD : ke + 4 ≤ d := by omega
  replace hK : 3 + 4 ≤ d := by omega
  have hd := hD
  show fm_mw (d + 1) mX6_readDenial Q 0 [some (.ref 1), some (.int a1), none, none] [] M
  refine fm_iconstv (pc := 0) 0 (by decide) dX6_readDenial_0 ?_
  refine fl_istore2 (pc := 1) rfl (by decide) dX6_readDenial_1 ?_
  refine fm_iconstv (pc := 2) 0 (by decide) dX6_readDenial_2 ?_
  refine fl_istore3 (pc := 3) rfl (by decide) dX6_readDenial_3 ?_
  obtain ⟨w3, M4, ew3, h⟩ := fm_bdp h
  refine lp_X6_readDenial_4 hE hd hK  ?_ _ _ _ _ ew3
  intro w39 M49 q9
  cases q9
  refine fl_aload0 (pc := 39) dX6_readDenial_39 ?_
  refine fl_iload1 (pc := 40) dX6_readDenial_40 ?_
  obtain ⟨v5, M6, ev5, h⟩ := fm_bdp h
  refine fm_callV (pc := 41) mX6_readComparison [_] _ rfl cvX6_readComparison ml_6_206 sh_1 rfl rfl (Nat.le_of_ble_eq_true rfl) (Nat.le_of_ble_eq_true rfl) dX6_readDenial_41 ?_
  refine sp_X6_readComparison hE ev5 ?_ (by omega) (by omega)
  refine fm_ret0 ?_
  refine fm_iconstv (pc := 44) 0 (by decide) dX6_readDenial_44 ?_
  refine fl_istore3 (pc := 45) rfl (by decide) dX6_readDenial_45 ?_
  obtain ⟨w11, M12, ew11, h⟩ := fm_bdp h
  refine lp_X6_readDenial_46 hE hd hK  ?_ _ _ _ ew11
  intro w119 M129 q9
  cases q9
  refine fm_vret (pc := 70) rfl ?_ dX6_readDenial_70
  cases h
  exact hq
/-! X6_readBoth -/
def G_X6_readBoth_7 (rE : Int32 → fm_M → Option (Unit × fm_M)) : Nat → Int32 → Int32 → fm_M → Option ((Int32) × fm_M)
  | 0, _, _, _ => none
  | n + 1, l1, l2, M =>
    if 64 < l2 then (
      some (l2, M)
    ) else (
      if (M.1 1 3) = 0 then (
        if (M.1 1 8) = 30 then (
          fm_bd (F_X6_passKnot M) (fun v3 M4 =>
          fm_bd (H_X6_readDenial rE l1 M4) (fun v5 M6 =>
          fm_lt (Int32.toNatClampNeg (M6.1 1 5)) (fun t7 =>
          fm_gd (fm_isTd t7) (
          fm_bd (F_X3_add (t7 + 10) 30 0 M6) (fun v9 M10 =>
          G_X6_readBoth_7 rE n l1 (l2 + 1) M10)))))
        ) else (
          some (l2, M)
        )
      ) else (
        some (l2, M)
      )
    )
def H_X6_readBoth (rE : Int32 → fm_M → Option (Unit × fm_M)) (a1 : Int32) (M : fm_M) : Option (Unit × fm_M) :=
    fm_bd (H_X6_readDenial rE a1 M) (fun v1 M2 =>
    fm_bd (G_X6_readBoth_7 rE fm_fuel a1 0 M2) (fun w11 M12 =>
      some ((), M12)))
theorem lp_X6_readBoth_7 {d : Nat} {Q : Option Value → fm_M → Prop} {rE : Int32 → fm_M → Option (Unit × fm_M)} {ke : Nat} (hE : ∀ (a : Int32) {M : fm_M} {x : Unit × fm_M} {Q : Option Value → fm_M → Prop} {D : Nat}, rE a M = some x → Q none x.2 → ke ≤ D → fm_ct D mX6_readEither [.ref 1, .int a] M Q) (hd : ke + 5 ≤ d) (hK : 3 + 5 ≤ d) {l1 : Int32}   {x : (Int32) × fm_M} (k1 : ∀ (v : Int32) (M2 : fm_M), x = (v, M2) → fm_mw (d + 1) mX6_readBoth Q 57 [some (.ref 1), some (.int l1), some (.int v)] [] M2) : ∀ (n : Nat) (l2 : Int32) (M : fm_M), G_X6_readBoth_7 rE n l1 l2 M = some x → fm_mw (d + 1) mX6_readBoth Q 7 [some (.ref 1), some (.int l1), some (.int l2)] [] M := by
  intro n
  induction n with
  | zero => intro l2 M h; simp [G_X6_readBoth_7] at h
  | succ n ih =>
    intro l2 M h
    rw [G_X6_readBoth_7] at h
    refine fl_iload2 (pc := 7) dX6_readBoth_7 ?_
    refine fm_bipushv (pc := 8) 64 (by decide) dX6_readBoth_8 ?_
    refine fm_icmp_gt (pc := 10) 57 (by decide) dX6_readBoth_10 (fun c10 => ?_) (fun c10 => ?_)
    · replace h := fm_itp c10 h
      refine fm_fgt [some (.ref 1), some (.int l1), some (.int l2)] (by simp [fm_sub]) ?_
      cases h
      exact k1 _ _ rfl
    · replace h := fm_itn c10 h
      refine fl_aload0 (pc := 13) dX6_readBoth_13 ?_
      refine fm_geti (pc := 14) lk_6_67 sh_1 rfl dX6_readBoth_14 ?_
      refine fm_if_ne (pc := 17) 57 (by decide) dX6_readBoth_17 (fun c17 => ?_) (fun c17 => ?_)
      · replace h := fm_itn c17 h
        refine fm_fgt [some (.ref 1), some (.int l1), some (.int l2)] (by simp [fm_sub]) ?_
        cases h
        exact k1 _ _ rfl
      · replace h := fm_itp c17 h
        refine fl_aload0 (pc := 20) dX6_readBoth_20 ?_
        refine fm_geti (pc := 21) lk_6_73 sh_1 rfl dX6_readBoth_21 ?_
        refine fm_bipushv (pc := 24) 30 (by decide) dX6_readBoth_24 ?_
        refine fm_icmp_ne (pc := 26) 57 (by decide) dX6_readBoth_26 (fun c26 => ?_) (fun c26 => ?_)
        · replace h := fm_itn c26 h
          refine fm_fgt [some (.ref 1), some (.int l1), some (.int l2)] (by simp [fm_sub]) ?_
          cases h
          exact k1 _ _ rfl
        · replace h := fm_itp c26 h
          refine fl_aload0 (pc := 29) dX6_readBoth_29 ?_
          obtain ⟨v3, M4, ev3, h⟩ := fm_bdp h
          refine fm_callV (pc := 30) mX6_passKnot [] _ rfl cvX6_passKnot ml_6_196 sh_1 rfl rfl (Nat.le_of_ble_eq_true rfl) (Nat.le_of_ble_eq_true rfl) dX6_readBoth_30 ?_
          refine sq_X6_passKnot ev3 ?_ (by omega)
          refine fm_ret0 ?_
          refine fl_aload0 (pc := 33) dX6_readBoth_33 ?_
          refine fl_iload1 (pc := 34) dX6_readBoth_34 ?_
          obtain ⟨v5, M6, ev5, h⟩ := fm_bdp h
          refine fm_callV (pc := 35) mX6_readDenial [_] _ rfl cvX6_readDenial ml_6_203 sh_1 rfl rfl (Nat.le_of_ble_eq_true rfl) (Nat.le_of_ble_eq_true rfl) dX6_readBoth_35 ?_
          refine sp_X6_readDenial hE ev5 ?_ (by omega) (by omega)
          refine fm_ret0 ?_
          refine fl_aload0 (pc := 38) dX6_readBoth_38 ?_
          obtain ⟨t7, et7, h⟩ := fm_ltp h
          obtain ⟨g8, h⟩ := fm_gdp h
          refine fm_getm (pc := 39) (fm_nn et7 g8) lk_6_26 sh_1 rfl dX6_readBoth_39 ?_
          refine fm_cgr et7 ?_
          refine fm_getr (pc := 42) lk_6_174 (shTd0 g8) rfl dX6_readBoth_42 ?_
          refine fm_bipushv (pc := 45) 30 (by decide) dX6_readBoth_45 ?_
          refine fm_iconstv (pc := 47) 0 (by decide) dX6_readBoth_47 ?_
          obtain ⟨v9, M10, ev9, h⟩ := fm_bdp h
          refine fm_callV (pc := 48) mX3_add [_, _] _ rfl cvX3_add ml_6_199 (shTd10 g8) rfl rfl (Nat.le_of_ble_eq_true rfl) (Nat.le_of_ble_eq_true rfl) dX6_readBoth_48 ?_
          refine sq_X3_add ev9 ?_ (by omega)
          refine fm_ret0 ?_
          refine fl_iinc2 (pc := 51) rfl 1 (by decide) (by decide) dX6_readBoth_51 ?_
          refine fm_goto (pc := 54) 7 (by decide) dX6_readBoth_54 ?_
          refine fm_fgt [some (.ref 1), some (.int l1), some (.int (l2 + 1))] (by simp [fm_sub]) ?_
          exact ih _ _ h
theorem sp_X6_readBoth {rE : Int32 → fm_M → Option (Unit × fm_M)} {ke : Nat} (hE : ∀ (a : Int32) {M : fm_M} {x : Unit × fm_M} {Q : Option Value → fm_M → Prop} {D : Nat}, rE a M = some x → Q none x.2 → ke ≤ D → fm_ct D mX6_readEither [.ref 1, .int a] M Q) {a1 : Int32} {M : fm_M} {x : Unit × fm_M} {Q : Option Value → fm_M → Prop} {D : Nat} (h : H_X6_readBoth rE a1 M = some x) (hq : Q none x.2) (hD : ke + 6 ≤ D) (hK : 3 + 6 ≤ D) : fm_ct D mX6_readBoth [.ref 1, .int a1] M Q := by
  rw [H_X6_readBoth] at h
  obtain ⟨d, rfl⟩ : ∃ d, D = d + 1 := ⟨D - 1, by omega⟩
  replace hD : ke + 5 ≤ d := by omega
  replace hK : 3 + 5 ≤ d := by omega
  have hd := hD
  show fm_mw (d + 1) mX6_readBoth Q 0 [some (.ref 1), some (.int a1), none] [] M
  refine fl_aload0 (pc := 0) dX6_readBoth_0 ?_
  refine fl_iload1 (pc := 1) dX6_readBoth_1 ?_
  obtain ⟨v1, M2, ev1, h⟩ := fm_bdp h
  refine fm_callV (pc := 2) mX6_readDenial [_] _ rfl cvX6_readDenial ml_6_203 sh_1 rfl rfl (Nat.le_of_ble_eq_true rfl) (Nat.le_of_ble_eq_true rfl) dX6_readBoth_2 ?_
  refine sp_X6_readDenial hE ev1 ?_ (by omega) (by omega)
  refine fm_ret0 ?_
  refine fm_iconstv (pc := 5) 0 (by decide) dX6_readBoth_5 ?_
  refine fl_istore2 (pc := 6) rfl (by decide) dX6_readBoth_6 ?_
  obtain ⟨w11, M12, ew11, h⟩ := fm_bdp h
  refine lp_X6_readBoth_7 hE hd hK  ?_ _ _ _ ew11
  intro w119 M129 q9
  cases q9
  refine fm_vret (pc := 57) rfl ?_ dX6_readBoth_57
  cases h
  exact hq
/-! X6_readEither -/
def G_X6_readEither_7 (rE : Int32 → fm_M → Option (Unit × fm_M)) : Nat → Int32 → Int32 → fm_M → Option ((Int32) × fm_M)
  | 0, _, _, _ => none
  | n + 1, l1, l2, M =>
    if 64 < l2 then (
      some (l2, M)
    ) else (
      if (M.1 1 3) = 0 then (
        if (M.1 1 8) = 29 then (
          fm_bd (F_X6_passKnot M) (fun v3 M4 =>
          fm_bd (H_X6_readBoth rE l1 M4) (fun v5 M6 =>
          fm_lt (Int32.toNatClampNeg (M6.1 1 5)) (fun t7 =>
          fm_gd (fm_isTd t7) (
          fm_bd (F_X3_add (t7 + 10) 29 0 M6) (fun v9 M10 =>
          G_X6_readEither_7 rE n l1 (l2 + 1) M10)))))
        ) else (
          some (l2, M)
        )
      ) else (
        some (l2, M)
      )
    )
def H_X6_readEither (rE : Int32 → fm_M → Option (Unit × fm_M)) (a1 : Int32) (M : fm_M) : Option (Unit × fm_M) :=
    fm_bd (H_X6_readBoth rE a1 M) (fun v1 M2 =>
    fm_bd (G_X6_readEither_7 rE fm_fuel a1 0 M2) (fun w11 M12 =>
      some ((), M12)))
theorem lp_X6_readEither_7 {d : Nat} {Q : Option Value → fm_M → Prop} {rE : Int32 → fm_M → Option (Unit × fm_M)} {ke : Nat} (hE : ∀ (a : Int32) {M : fm_M} {x : Unit × fm_M} {Q : Option Value → fm_M → Prop} {D : Nat}, rE a M = some x → Q none x.2 → ke ≤ D → fm_ct D mX6_readEither [.ref 1, .int a] M Q) (hd : ke + 6 ≤ d) (hK : 3 + 6 ≤ d) {l1 : Int32}   {x : (Int32) × fm_M} (k1 : ∀ (v : Int32) (M2 : fm_M), x = (v, M2) → fm_mw (d + 1) mX6_readEither Q 57 [some (.ref 1), some (.int l1), some (.int v)] [] M2) : ∀ (n : Nat) (l2 : Int32) (M : fm_M), G_X6_readEither_7 rE n l1 l2 M = some x → fm_mw (d + 1) mX6_readEither Q 7 [some (.ref 1), some (.int l1), some (.int l2)] [] M := by
  intro n
  induction n with
  | zero => intro l2 M h; simp [G_X6_readEither_7] at h
  | succ n ih =>
    intro l2 M h
    rw [G_X6_readEither_7] at h
    refine fl_iload2 (pc := 7) dX6_readEither_7 ?_
    refine fm_bipushv (pc := 8) 64 (by decide) dX6_readEither_8 ?_
    refine fm_icmp_gt (pc := 10) 57 (by decide) dX6_readEither_10 (fun c10 => ?_) (fun c10 => ?_)
    · replace h := fm_itp c10 h
      refine fm_fgt [some (.ref 1), some (.int l1), some (.int l2)] (by simp [fm_sub]) ?_
      cases h
      exact k1 _ _ rfl
    · replace h := fm_itn c10 h
      refine fl_aload0 (pc := 13) dX6_readEither_13 ?_
      refine fm_geti (pc := 14) lk_6_67 sh_1 rfl dX6_readEither_14 ?_
      refine fm_if_ne (pc := 17) 57 (by decide) dX6_readEither_17 (fun c17 => ?_) (fun c17 => ?_)
      · replace h := fm_itn c17 h
        refine fm_fgt [some (.ref 1), some (.int l1), some (.int l2)] (by simp [fm_sub]) ?_
        cases h
        exact k1 _ _ rfl
      · replace h := fm_itp c17 h
        refine fl_aload0 (pc := 20) dX6_readEither_20 ?_
        refine fm_geti (pc := 21) lk_6_73 sh_1 rfl dX6_readEither_21 ?_
        refine fm_bipushv (pc := 24) 29 (by decide) dX6_readEither_24 ?_
        refine fm_icmp_ne (pc := 26) 57 (by decide) dX6_readEither_26 (fun c26 => ?_) (fun c26 => ?_)
        · replace h := fm_itn c26 h
          refine fm_fgt [some (.ref 1), some (.int l1), some (.int l2)] (by simp [fm_sub]) ?_
          cases h
          exact k1 _ _ rfl
        · replace h := fm_itp c26 h
          refine fl_aload0 (pc := 29) dX6_readEither_29 ?_
          obtain ⟨v3, M4, ev3, h⟩ := fm_bdp h
          refine fm_callV (pc := 30) mX6_passKnot [] _ rfl cvX6_passKnot ml_6_196 sh_1 rfl rfl (Nat.le_of_ble_eq_true rfl) (Nat.le_of_ble_eq_true rfl) dX6_readEither_30 ?_
          refine sq_X6_passKnot ev3 ?_ (by omega)
          refine fm_ret0 ?_
          refine fl_aload0 (pc := 33) dX6_readEither_33 ?_
          refine fl_iload1 (pc := 34) dX6_readEither_34 ?_
          obtain ⟨v5, M6, ev5, h⟩ := fm_bdp h
          refine fm_callV (pc := 35) mX6_readBoth [_] _ rfl cvX6_readBoth ml_6_193 sh_1 rfl rfl (Nat.le_of_ble_eq_true rfl) (Nat.le_of_ble_eq_true rfl) dX6_readEither_35 ?_
          refine sp_X6_readBoth hE ev5 ?_ (by omega) (by omega)
          refine fm_ret0 ?_
          refine fl_aload0 (pc := 38) dX6_readEither_38 ?_
          obtain ⟨t7, et7, h⟩ := fm_ltp h
          obtain ⟨g8, h⟩ := fm_gdp h
          refine fm_getm (pc := 39) (fm_nn et7 g8) lk_6_26 sh_1 rfl dX6_readEither_39 ?_
          refine fm_cgr et7 ?_
          refine fm_getr (pc := 42) lk_6_174 (shTd0 g8) rfl dX6_readEither_42 ?_
          refine fm_bipushv (pc := 45) 29 (by decide) dX6_readEither_45 ?_
          refine fm_iconstv (pc := 47) 0 (by decide) dX6_readEither_47 ?_
          obtain ⟨v9, M10, ev9, h⟩ := fm_bdp h
          refine fm_callV (pc := 48) mX3_add [_, _] _ rfl cvX3_add ml_6_199 (shTd10 g8) rfl rfl (Nat.le_of_ble_eq_true rfl) (Nat.le_of_ble_eq_true rfl) dX6_readEither_48 ?_
          refine sq_X3_add ev9 ?_ (by omega)
          refine fm_ret0 ?_
          refine fl_iinc2 (pc := 51) rfl 1 (by decide) (by decide) dX6_readEither_51 ?_
          refine fm_goto (pc := 54) 7 (by decide) dX6_readEither_54 ?_
          refine fm_fgt [some (.ref 1), some (.int l1), some (.int (l2 + 1))] (by simp [fm_sub]) ?_
          exact ih _ _ h
theorem sp_X6_readEither {rE : Int32 → fm_M → Option (Unit × fm_M)} {ke : Nat} (hE : ∀ (a : Int32) {M : fm_M} {x : Unit × fm_M} {Q : Option Value → fm_M → Prop} {D : Nat}, rE a M = some x → Q none x.2 → ke ≤ D → fm_ct D mX6_readEither [.ref 1, .int a] M Q) {a1 : Int32} {M : fm_M} {x : Unit × fm_M} {Q : Option Value → fm_M → Prop} {D : Nat} (h : H_X6_readEither rE a1 M = some x) (hq : Q none x.2) (hD : ke + 7 ≤ D) (hK : 3 + 7 ≤ D) : fm_ct D mX6_readEither [.ref 1, .int a1] M Q := by
  rw [H_X6_readEither] at h
  obtain ⟨d, rfl⟩ : ∃ d, D = d + 1 := ⟨D - 1, by omega⟩
  replace hD : ke + 6 ≤ d := by omega
  replace hK : 3 + 6 ≤ d := by omega
  have hd := hD
  show fm_mw (d + 1) mX6_readEither Q 0 [some (.ref 1), some (.int a1), none] [] M
  refine fl_aload0 (pc := 0) dX6_readEither_0 ?_
  refine fl_iload1 (pc := 1) dX6_readEither_1 ?_
  obtain ⟨v1, M2, ev1, h⟩ := fm_bdp h
  refine fm_callV (pc := 2) mX6_readBoth [_] _ rfl cvX6_readBoth ml_6_193 sh_1 rfl rfl (Nat.le_of_ble_eq_true rfl) (Nat.le_of_ble_eq_true rfl) dX6_readEither_2 ?_
  refine sp_X6_readBoth hE ev1 ?_ (by omega) (by omega)
  refine fm_ret0 ?_
  refine fm_iconstv (pc := 5) 0 (by decide) dX6_readEither_5 ?_
  refine fl_istore2 (pc := 6) rfl (by decide) dX6_readEither_6 ?_
  obtain ⟨w11, M12, ew11, h⟩ := fm_bdp h
  refine lp_X6_readEither_7 hE hd hK  ?_ _ _ _ ew11
  intro w119 M129 q9
  cases q9
  refine fm_vret (pc := 57) rfl ?_ dX6_readEither_57
  cases h
  exact hq
/-- the expression reader, by the depth of its brackets -/
def E_X6 : Nat → Int32 → fm_M → Option (Unit × fm_M)
  | 0, _, _ => none
  | n + 1, a, M => H_X6_readEither (E_X6 n) a M
theorem sp_E_X6 : ∀ (n : Nat) (a : Int32) {M : fm_M} {x : Unit × fm_M} {Q : Option Value → fm_M → Prop} {D : Nat}, E_X6 n a M = some x → Q none x.2 → 7 * n + 3 ≤ D → fm_ct D mX6_readEither [.ref 1, .int a] M Q := by
  intro n
  induction n with
  | zero => intro a M x Q D h; simp [E_X6] at h
  | succ n ih =>
    intro a M x Q D h hq hD
    exact sp_X6_readEither (ke := 7 * n + 3) (fun a => ih a) h hq (by omega) (by omega)
def F_X6_readEither (a1 : Int32) (M : fm_M) : Option (Unit × fm_M) := E_X6 12 a1 M
theorem sx_X6_readEither {d : Nat} {a1 : Int32} {M : fm_M} {x : Unit × fm_M} {Q : Option Value → fm_M → Prop} (h : F_X6_readEither a1 M = some x) (hq : Q none x.2) : fm_ct (d + 87) mX6_readEither [.ref 1, .int a1] M Q := sp_E_X6 12 a1 h hq (by omega)
