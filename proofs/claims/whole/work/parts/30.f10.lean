/-! X10_isRest -/
def G_X10_isRest_2 : Nat → Int32 → Int32 → fm_M → Option (((Int32) ⊕ Int32) × fm_M)
  | 0, _, _, _ => none
  | n + 1, l1, l2, M =>
    if 5 ≤ l2 then (
      some (.inl l2, M)
    ) else (
      fm_gd (fm_inb ((5 * l2) + (i_rem l1 5)) 25) (
      fm_gd (fm_inb l1 25) (
      if (M.1 103 (Int32.toNatClampNeg l1)) < (M.1 103 (Int32.toNatClampNeg ((5 * l2) + (i_rem l1 5)))) then (
        some (.inr 0, M)
      ) else (
        fm_gd (fm_inb (((l1 / 5) * 5) + l2) 25) (
        fm_gd (fm_inb l1 25) (
        if (M.1 104 (Int32.toNatClampNeg (((l1 / 5) * 5) + l2))) ≤ (M.1 104 (Int32.toNatClampNeg l1)) then (
          G_X10_isRest_2 n l1 (l2 + 1) M
        ) else (
          some (.inr 0, M)
        )))
      )))
    )
def F_X10_isRest (a1 : Int32) (M : fm_M) : Option (Int32 × fm_M) :=
    fm_bs (G_X10_isRest_2 fm_fuel a1 0 M) (fun w5 M6 =>
      some (1, M6)) (fun r7 M => some (r7, M))
theorem lp_X10_isRest_2 {d : Nat} {Q : Option Value → fm_M → Prop} {l1 : Int32}   {x : ((Int32) ⊕ Int32) × fm_M} (k1 : ∀ (v : Int32) (M2 : fm_M), x = (.inl v, M2) → fm_mw d mX10_isRest Q 57 [some (.ref 76), some (.int l1), some (.int v)] [] M2) (k2 : ∀ (r : Int32) (M2 : fm_M), x = (.inr r, M2) → Q (some (.int r)) M2) : ∀ (n : Nat) (l2 : Int32) (M : fm_M), G_X10_isRest_2 n l1 l2 M = some x → fm_mw d mX10_isRest Q 2 [some (.ref 76), some (.int l1), some (.int l2)] [] M := by
  intro n
  induction n with
  | zero => intro l2 M h; simp [G_X10_isRest_2] at h
  | succ n ih =>
    intro l2 M h
    rw [G_X10_isRest_2] at h
    refine fl_iload2 (pc := 2) dX10_isRest_2 ?_
    refine fm_iconstv (pc := 3) 5 (by decide) dX10_isRest_3 ?_
    refine fm_icmp_ge (pc := 4) 57 (by decide) dX10_isRest_4 (fun c4 => ?_) (fun c4 => ?_)
    · replace h := fm_itp c4 h
      refine fm_fgt [some (.ref 76), some (.int l1), some (.int l2)] (by simp [fm_sub]) ?_
      cases h
      exact k1 _ _ rfl
    · replace h := fm_itn c4 h
      refine fl_aload0 (pc := 7) dX10_isRest_7 ?_
      refine fm_getr (pc := 8) lk_10_102 sh_76 rfl dX10_isRest_8 ?_
      refine fm_iconstv (pc := 11) 5 (by decide) dX10_isRest_11 ?_
      refine fl_iload2 (pc := 12) dX10_isRest_12 ?_
      refine fm_imul (pc := 13) dX10_isRest_13 ?_
      refine fl_iload1 (pc := 14) dX10_isRest_14 ?_
      refine fm_iconstv (pc := 15) 5 (by decide) dX10_isRest_15 ?_
      refine fq_irem (pc := 16) (by decide) dX10_isRest_16 ?_
      refine fm_iadd (pc := 17) dX10_isRest_17 ?_
      obtain ⟨g1, h⟩ := fm_gdp h
      refine fm_iald (pc := 18) sh_103 (fm_inb_ok g1) dX10_isRest_18 ?_
      refine fl_aload0 (pc := 19) dX10_isRest_19 ?_
      refine fm_getr (pc := 20) lk_10_102 sh_76 rfl dX10_isRest_20 ?_
      refine fl_iload1 (pc := 23) dX10_isRest_23 ?_
      obtain ⟨g2, h⟩ := fm_gdp h
      refine fm_iald (pc := 24) sh_103 (fm_inb_ok g2) dX10_isRest_24 ?_
      refine fm_icmp_gt (pc := 25) 49 (by decide) dX10_isRest_25 (fun c25 => ?_) (fun c25 => ?_)
      · replace h := fm_itp c25 h
        refine fm_iconstv (pc := 49) 0 (by decide) dX10_isRest_49 ?_
        refine fm_zret (pc := 50) rfl (by decide) ?_ dX10_isRest_50
        cases h
        exact k2 _ _ rfl
      · replace h := fm_itn c25 h
        refine fl_aload0 (pc := 28) dX10_isRest_28 ?_
        refine fm_getr (pc := 29) lk_10_105 sh_76 rfl dX10_isRest_29 ?_
        refine fl_iload1 (pc := 32) dX10_isRest_32 ?_
        refine fm_iconstv (pc := 33) 5 (by decide) dX10_isRest_33 ?_
        refine fm_idiv (pc := 34) (by decide) dX10_isRest_34 ?_
        refine fm_iconstv (pc := 35) 5 (by decide) dX10_isRest_35 ?_
        refine fm_imul (pc := 36) dX10_isRest_36 ?_
        refine fl_iload2 (pc := 37) dX10_isRest_37 ?_
        refine fm_iadd (pc := 38) dX10_isRest_38 ?_
        obtain ⟨g3, h⟩ := fm_gdp h
        refine fm_iald (pc := 39) sh_104 (fm_inb_ok g3) dX10_isRest_39 ?_
        refine fl_aload0 (pc := 40) dX10_isRest_40 ?_
        refine fm_getr (pc := 41) lk_10_105 sh_76 rfl dX10_isRest_41 ?_
        refine fl_iload1 (pc := 44) dX10_isRest_44 ?_
        obtain ⟨g4, h⟩ := fm_gdp h
        refine fm_iald (pc := 45) sh_104 (fm_inb_ok g4) dX10_isRest_45 ?_
        refine fm_icmp_le (pc := 46) 51 (by decide) dX10_isRest_46 (fun c46 => ?_) (fun c46 => ?_)
        · replace h := fm_itp c46 h
          refine fl_iinc2 (pc := 51) rfl 1 (by decide) (by decide) dX10_isRest_51 ?_
          refine fm_goto (pc := 54) 2 (by decide) dX10_isRest_54 ?_
          refine fm_fgt [some (.ref 76), some (.int l1), some (.int (l2 + 1))] (by simp [fm_sub]) ?_
          exact ih _ _ h
        · replace h := fm_itn c46 h
          refine fm_iconstv (pc := 49) 0 (by decide) dX10_isRest_49 ?_
          refine fm_zret (pc := 50) rfl (by decide) ?_ dX10_isRest_50
          cases h
          exact k2 _ _ rfl
theorem sp_X10_isRest {d : Nat} {a1 : Int32} {M : fm_M} {x : Int32 × fm_M} {Q : Option Value → fm_M → Prop} (h : F_X10_isRest a1 M = some x) (hq : Q (some (.int x.1)) x.2) : fm_ct d mX10_isRest [.ref 76, .int a1] M Q := by
  rw [F_X10_isRest] at h
  show fm_mw d mX10_isRest Q 0 [some (.ref 76), some (.int a1), none] [] M
  refine fm_iconstv (pc := 0) 0 (by decide) dX10_isRest_0 ?_
  refine fl_istore2 (pc := 1) rfl (by decide) dX10_isRest_1 ?_
  obtain ⟨w9, M6, ew5, hl9, hr9⟩ := fm_bsp h
  refine lp_X10_isRest_2  ?_ ?_ _ _ _ ew5
  · intro w5 M9 q9
    cases q9
    replace h := hl9 _ rfl
    refine fm_iconstv (pc := 57) 1 (by decide) dX10_isRest_57 ?_
    refine fm_zret (pc := 58) rfl (by decide) ?_ dX10_isRest_58
    cases h
    exact hq
  · intro r9 M9 q9
    cases q9
    replace h := hr9 _ rfl
    cases h
    exact hq
/-! X10_restOf -/
def G_X10_restOf_4 : Nat → Int32 → Int32 → Int32 → fm_M → Option (((Int32 × Int32) ⊕ Int32) × fm_M)
  | 0, _, _, _, _ => none
  | n + 1, l1, l2, l3, M =>
    if 25 ≤ l3 then (
      some (.inl (l2, l3), M)
    ) else (
      fm_bd (F_X10_isRest l3 M) (fun v1 M2 =>
      if v1 = 0 then (
        G_X10_restOf_4 n l1 l2 (l3 + 1) M2
      ) else (
        if l2 = l1 then (
          some (.inr ((10 * (l3 / 5)) + (i_rem l3 5)), M2)
        ) else (
          G_X10_restOf_4 n l1 (l2 + 1) (l3 + 1) M2
        )
      ))
    )
def F_X10_restOf (a1 : Int32) (M : fm_M) : Option (Int32 × fm_M) :=
    fm_bs (G_X10_restOf_4 fm_fuel a1 0 0 M) (fun w3 M4 =>
      if a1 = (-1) then (
        some (w3.1, M4)
      ) else (
        some ((-2), M4)
      )) (fun r5 M => some (r5, M))
theorem lp_X10_restOf_4 {d : Nat} {Q : Option Value → fm_M → Prop} {l1 : Int32}   {x : ((Int32 × Int32) ⊕ Int32) × fm_M} (k1 : ∀ (v : Int32 × Int32) (M2 : fm_M), x = (.inl v, M2) → fm_mw (d + 1) mX10_restOf Q 46 [some (.ref 76), some (.int l1), some (.int v.1), some (.int v.2)] [] M2) (k2 : ∀ (r : Int32) (M2 : fm_M), x = (.inr r, M2) → Q (some (.int r)) M2) : ∀ (n : Nat) (l2 : Int32) (l3 : Int32) (M : fm_M), G_X10_restOf_4 n l1 l2 l3 M = some x → fm_mw (d + 1) mX10_restOf Q 4 [some (.ref 76), some (.int l1), some (.int l2), some (.int l3)] [] M := by
  intro n
  induction n with
  | zero => intro l2 l3 M h; simp [G_X10_restOf_4] at h
  | succ n ih =>
    intro l2 l3 M h
    rw [G_X10_restOf_4] at h
    refine fl_iload3 (pc := 4) dX10_restOf_4 ?_
    refine fm_bipushv (pc := 5) 25 (by decide) dX10_restOf_5 ?_
    refine fm_icmp_ge (pc := 7) 46 (by decide) dX10_restOf_7 (fun c7 => ?_) (fun c7 => ?_)
    · replace h := fm_itp c7 h
      refine fm_fgt [some (.ref 76), some (.int l1), some (.int l2), some (.int l3)] (by simp [fm_sub]) ?_
      cases h
      exact k1 _ _ rfl
    · replace h := fm_itn c7 h
      refine fl_aload0 (pc := 10) dX10_restOf_10 ?_
      refine fl_iload3 (pc := 11) dX10_restOf_11 ?_
      obtain ⟨v1, M2, ev1, h⟩ := fm_bdp h
      refine fm_callV (pc := 12) mX10_isRest [_] _ rfl cvX10_isRest ml_10_444 sh_76 rfl rfl (Nat.le_of_ble_eq_true rfl) (Nat.le_of_ble_eq_true rfl) dX10_restOf_12 ?_
      refine sp_X10_isRest ev1 ?_
      refine fm_ret1 ?_
      refine fm_if_ne (pc := 15) 21 (by decide) dX10_restOf_15 (fun c15 => ?_) (fun c15 => ?_)
      · replace h := fm_itn c15 h
        refine fl_iload2 (pc := 21) dX10_restOf_21 ?_
        refine fl_iload1 (pc := 22) dX10_restOf_22 ?_
        refine fm_icmp_ne (pc := 23) 37 (by decide) dX10_restOf_23 (fun c23 => ?_) (fun c23 => ?_)
        · replace h := fm_itn c23 h
          refine fl_iinc2 (pc := 37) rfl 1 (by decide) (by decide) dX10_restOf_37 ?_
          refine fl_iinc3 (pc := 40) rfl 1 (by decide) (by decide) dX10_restOf_40 ?_
          refine fm_goto (pc := 43) 4 (by decide) dX10_restOf_43 ?_
          refine fm_fgt [some (.ref 76), some (.int l1), some (.int (l2 + 1)), some (.int (l3 + 1))] (by simp [fm_sub]) ?_
          exact ih _ _ _ h
        · replace h := fm_itp c23 h
          refine fm_bipushv (pc := 26) 10 (by decide) dX10_restOf_26 ?_
          refine fl_iload3 (pc := 28) dX10_restOf_28 ?_
          refine fm_iconstv (pc := 29) 5 (by decide) dX10_restOf_29 ?_
          refine fm_idiv (pc := 30) (by decide) dX10_restOf_30 ?_
          refine fm_imul (pc := 31) dX10_restOf_31 ?_
          refine fl_iload3 (pc := 32) dX10_restOf_32 ?_
          refine fm_iconstv (pc := 33) 5 (by decide) dX10_restOf_33 ?_
          refine fq_irem (pc := 34) (by decide) dX10_restOf_34 ?_
          refine fm_iadd (pc := 35) dX10_restOf_35 ?_
          refine fm_iret (pc := 36) rfl ?_ dX10_restOf_36
          cases h
          exact k2 _ _ rfl
      · replace h := fm_itp c15 h
        refine fm_goto (pc := 18) 40 (by decide) dX10_restOf_18 ?_
        refine fl_iinc3 (pc := 40) rfl 1 (by decide) (by decide) dX10_restOf_40 ?_
        refine fm_goto (pc := 43) 4 (by decide) dX10_restOf_43 ?_
        refine fm_fgt [some (.ref 76), some (.int l1), some (.int l2), some (.int (l3 + 1))] (by simp [fm_sub]) ?_
        exact ih _ _ _ h
theorem sp_X10_restOf {d : Nat} {a1 : Int32} {M : fm_M} {x : Int32 × fm_M} {Q : Option Value → fm_M → Prop} (h : F_X10_restOf a1 M = some x) (hq : Q (some (.int x.1)) x.2) : fm_ct (d + 1) mX10_restOf [.ref 76, .int a1] M Q := by
  rw [F_X10_restOf] at h
  show fm_mw (d + 1) mX10_restOf Q 0 [some (.ref 76), some (.int a1), none, none] [] M
  refine fm_iconstv (pc := 0) 0 (by decide) dX10_restOf_0 ?_
  refine fl_istore2 (pc := 1) rfl (by decide) dX10_restOf_1 ?_
  refine fm_iconstv (pc := 2) 0 (by decide) dX10_restOf_2 ?_
  refine fl_istore3 (pc := 3) rfl (by decide) dX10_restOf_3 ?_
  obtain ⟨w9, M4, ew3, hl9, hr9⟩ := fm_bsp h
  refine lp_X10_restOf_4  ?_ ?_ _ _ _ _ ew3
  · intro w3 M9 q9
    cases q9
    replace h := hl9 _ rfl
    refine fl_iload1 (pc := 46) dX10_restOf_46 ?_
    refine fm_iconstv (pc := 47) (-1) (by decide) dX10_restOf_47 ?_
    refine fm_icmp_ne (pc := 48) 55 (by decide) dX10_restOf_48 (fun c48 => ?_) (fun c48 => ?_)
    · replace h := fm_itn c48 h
      refine fm_bipushv (pc := 55) (-2) (by decide) dX10_restOf_55 ?_
      refine fm_iret (pc := 57) rfl ?_ dX10_restOf_57
      cases h
      exact hq
    · replace h := fm_itp c48 h
      refine fl_iload2 (pc := 51) dX10_restOf_51 ?_
      refine fm_goto (pc := 52) 57 (by decide) dX10_restOf_52 ?_
      refine fm_iret (pc := 57) rfl ?_ dX10_restOf_57
      cases h
      exact hq
  · intro r9 M9 q9
    cases q9
    replace h := hr9 _ rfl
    cases h
    exact hq
/-! X10_areAgainst -/
def F_X10_areAgainst (a1 : Int32) (a2 : Int32) (a3 : Int32) (M : fm_M) : Option (Int32 × fm_M) :=
    fm_bd (F_X10_isFork a1 M) (fun v1 M2 =>
    if v1 = 0 then (
      some (0, M2)
    ) else (
      fm_bd (F_X10_isFork a2 M2) (fun v3 M4 =>
      if v3 = 0 then (
        some (0, M4)
      ) else (
        if a1 = a2 then (
          some (0, M4)
        ) else (
          fm_bd (F_X10_isNote a3 M4) (fun v5 M6 =>
          if v5 = 0 then (
            some (0, M6)
          ) else (
            some (1, M6)
          ))
        )
      ))
    ))
theorem sp_X10_areAgainst {d : Nat} {a1 : Int32} {a2 : Int32} {a3 : Int32} {M : fm_M} {x : Int32 × fm_M} {Q : Option Value → fm_M → Prop} (h : F_X10_areAgainst a1 a2 a3 M = some x) (hq : Q (some (.int x.1)) x.2) : fm_ct (d + 1) mX10_areAgainst [.ref 76, .int a1, .int a2, .int a3] M Q := by
  rw [F_X10_areAgainst] at h
  show fm_mw (d + 1) mX10_areAgainst Q 0 [some (.ref 76), some (.int a1), some (.int a2), some (.int a3)] [] M
  refine fl_aload0 (pc := 0) dX10_areAgainst_0 ?_
  refine fl_iload1 (pc := 1) dX10_areAgainst_1 ?_
  obtain ⟨v1, M2, ev1, h⟩ := fm_bdp h
  refine fm_callV (pc := 2) mX10_isFork [_] _ rfl cvX10_isFork ml_10_404 sh_76 rfl rfl (Nat.le_of_ble_eq_true rfl) (Nat.le_of_ble_eq_true rfl) dX10_areAgainst_2 ?_
  refine sp_X10_isFork ev1 ?_
  refine fm_ret1 ?_
  refine fm_if_eq (pc := 5) 32 (by decide) dX10_areAgainst_5 (fun c5 => ?_) (fun c5 => ?_)
  · replace h := fm_itp c5 h
    refine fm_iconstv (pc := 32) 0 (by decide) dX10_areAgainst_32 ?_
    refine fm_zret (pc := 33) rfl (by decide) ?_ dX10_areAgainst_33
    cases h
    exact hq
  · replace h := fm_itn c5 h
    refine fl_aload0 (pc := 8) dX10_areAgainst_8 ?_
    refine fl_iload2 (pc := 9) dX10_areAgainst_9 ?_
    obtain ⟨v3, M4, ev3, h⟩ := fm_bdp h
    refine fm_callV (pc := 10) mX10_isFork [_] _ rfl cvX10_isFork ml_10_404 sh_76 rfl rfl (Nat.le_of_ble_eq_true rfl) (Nat.le_of_ble_eq_true rfl) dX10_areAgainst_10 ?_
    refine sp_X10_isFork ev3 ?_
    refine fm_ret1 ?_
    refine fm_if_eq (pc := 13) 32 (by decide) dX10_areAgainst_13 (fun c13 => ?_) (fun c13 => ?_)
    · replace h := fm_itp c13 h
      refine fm_iconstv (pc := 32) 0 (by decide) dX10_areAgainst_32 ?_
      refine fm_zret (pc := 33) rfl (by decide) ?_ dX10_areAgainst_33
      cases h
      exact hq
    · replace h := fm_itn c13 h
      refine fl_iload1 (pc := 16) dX10_areAgainst_16 ?_
      refine fl_iload2 (pc := 17) dX10_areAgainst_17 ?_
      refine fm_icmp_eq (pc := 18) 32 (by decide) dX10_areAgainst_18 (fun c18 => ?_) (fun c18 => ?_)
      · replace h := fm_itp c18 h
        refine fm_iconstv (pc := 32) 0 (by decide) dX10_areAgainst_32 ?_
        refine fm_zret (pc := 33) rfl (by decide) ?_ dX10_areAgainst_33
        cases h
        exact hq
      · replace h := fm_itn c18 h
        refine fl_iload3 (pc := 21) dX10_areAgainst_21 ?_
        obtain ⟨v5, M6, ev5, h⟩ := fm_bdp h
        refine fm_callS (pc := 22) mX10_isNote [_] _ rfl csX10_isNote ml_10_407 rfl (Nat.le_of_ble_eq_true rfl) (Nat.le_of_ble_eq_true rfl) dX10_areAgainst_22 ?_
        refine sp_X10_isNote ev5 ?_
        refine fm_ret1 ?_
        refine fm_if_eq (pc := 25) 32 (by decide) dX10_areAgainst_25 (fun c25 => ?_) (fun c25 => ?_)
        · replace h := fm_itp c25 h
          refine fm_iconstv (pc := 32) 0 (by decide) dX10_areAgainst_32 ?_
          refine fm_zret (pc := 33) rfl (by decide) ?_ dX10_areAgainst_33
          cases h
          exact hq
        · replace h := fm_itn c25 h
          refine fm_iconstv (pc := 28) 1 (by decide) dX10_areAgainst_28 ?_
          refine fm_goto (pc := 29) 33 (by decide) dX10_areAgainst_29 ?_
          refine fm_zret (pc := 33) rfl (by decide) ?_ dX10_areAgainst_33
          cases h
          exact hq
/-! X10_rests -/
def F_X10_rests (a1 : Int32) (a2 : Int32) (a3 : Int32) (M : fm_M) : Option (Int32 × fm_M) :=
    fm_lt (fm_up M 76 0 0) (fun M1 =>
    fm_bd (F_X10_areAgainst a1 a2 a3 M1) (fun v2 M3 =>
    if v2 = 0 then (
      some ((-1), M3)
    ) else (
      fm_bd (F_X10_layAgainst a1 a2 a3 M3) (fun v4 M5 =>
      fm_bd (F_X10_restOf (-1) M5) (fun v6 M7 =>
      some (v6, M7)))
    )))
theorem sp_X10_rests {d : Nat} {a1 : Int32} {a2 : Int32} {a3 : Int32} {M : fm_M} {x : Int32 × fm_M} {Q : Option Value → fm_M → Prop} (h : F_X10_rests a1 a2 a3 M = some x) (hq : Q (some (.int x.1)) x.2) : fm_ct (d + 9) mX10_rests [.ref 76, .int a1, .int a2, .int a3] M Q := by
  rw [F_X10_rests] at h
  show fm_mw (d + 9) mX10_rests Q 0 [some (.ref 76), some (.int a1), some (.int a2), some (.int a3)] [] M
  refine fl_aload0 (pc := 0) dX10_rests_0 ?_
  refine fm_iconstv (pc := 1) 0 (by decide) dX10_rests_1 ?_
  refine fm_puti (pc := 2) lp_10_130 sh_76 rfl dX10_rests_2 ?_
  obtain ⟨M1, eM1, h⟩ := fm_ltp h
  refine fm_cgm eM1 ?_
  refine fl_aload0 (pc := 5) dX10_rests_5 ?_
  refine fl_iload1 (pc := 6) dX10_rests_6 ?_
  refine fl_iload2 (pc := 7) dX10_rests_7 ?_
  refine fl_iload3 (pc := 8) dX10_rests_8 ?_
  obtain ⟨v2, M3, ev2, h⟩ := fm_bdp h
  refine fm_callV (pc := 9) mX10_areAgainst [_, _, _] _ rfl cvX10_areAgainst ml_10_447 sh_76 rfl rfl (Nat.le_of_ble_eq_true rfl) (Nat.le_of_ble_eq_true rfl) dX10_rests_9 ?_
  refine sp_X10_areAgainst ev2 ?_
  refine fm_ret1 ?_
  refine fm_if_ne (pc := 12) 17 (by decide) dX10_rests_12 (fun c12 => ?_) (fun c12 => ?_)
  · replace h := fm_itn c12 h
    refine fl_aload0 (pc := 17) dX10_rests_17 ?_
    refine fl_iload1 (pc := 18) dX10_rests_18 ?_
    refine fl_iload2 (pc := 19) dX10_rests_19 ?_
    refine fl_iload3 (pc := 20) dX10_rests_20 ?_
    obtain ⟨v4, M5, ev4, h⟩ := fm_bdp h
    refine fm_callV (pc := 21) mX10_layAgainst [_, _, _] _ rfl cvX10_layAgainst ml_10_450 sh_76 rfl rfl (Nat.le_of_ble_eq_true rfl) (Nat.le_of_ble_eq_true rfl) dX10_rests_21 ?_
    refine sp_X10_layAgainst ev4 ?_
    refine fm_ret0 ?_
    refine fl_aload0 (pc := 24) dX10_rests_24 ?_
    refine fm_iconstv (pc := 25) (-1) (by decide) dX10_rests_25 ?_
    obtain ⟨v6, M7, ev6, h⟩ := fm_bdp h
    refine fm_callV (pc := 26) mX10_restOf [_] _ rfl cvX10_restOf ml_10_454 sh_76 rfl rfl (Nat.le_of_ble_eq_true rfl) (Nat.le_of_ble_eq_true rfl) dX10_rests_26 ?_
    refine sp_X10_restOf ev6 ?_
    refine fm_ret1 ?_
    refine fm_iret (pc := 29) rfl ?_ dX10_rests_29
    cases h
    exact hq
  · replace h := fm_itp c12 h
    refine fm_iconstv (pc := 15) (-1) (by decide) dX10_rests_15 ?_
    refine fm_iret (pc := 16) rfl ?_ dX10_rests_16
    cases h
    exact hq
/-! X10_rest -/
def F_X10_rest (a1 : Int32) (a2 : Int32) (a3 : Int32) (a4 : Int32) (M : fm_M) : Option (Int32 × fm_M) :=
    fm_lt (fm_up M 76 0 0) (fun M1 =>
    fm_bd (F_X10_areAgainst a1 a2 a3 M1) (fun v2 M3 =>
    if v2 = 0 then (
      some ((-1), M3)
    ) else (
      if 0 ≤ a4 then (
        fm_bd (F_X10_layAgainst a1 a2 a3 M3) (fun v4 M5 =>
        fm_bd (F_X10_restOf a4 M5) (fun v6 M7 =>
        some (v6, M7)))
      ) else (
        some ((-1), M3)
      )
    )))
theorem sp_X10_rest {d : Nat} {a1 : Int32} {a2 : Int32} {a3 : Int32} {a4 : Int32} {M : fm_M} {x : Int32 × fm_M} {Q : Option Value → fm_M → Prop} (h : F_X10_rest a1 a2 a3 a4 M = some x) (hq : Q (some (.int x.1)) x.2) : fm_ct (d + 9) mX10_rest [.ref 76, .int a1, .int a2, .int a3, .int a4] M Q := by
  rw [F_X10_rest] at h
  show fm_mw (d + 9) mX10_rest Q 0 [some (.ref 76), some (.int a1), some (.int a2), some (.int a3), some (.int a4)] [] M
  refine fl_aload0 (pc := 0) dX10_rest_0 ?_
  refine fm_iconstv (pc := 1) 0 (by decide) dX10_rest_1 ?_
  refine fm_puti (pc := 2) lp_10_130 sh_76 rfl dX10_rest_2 ?_
  obtain ⟨M1, eM1, h⟩ := fm_ltp h
  refine fm_cgm eM1 ?_
  refine fl_aload0 (pc := 5) dX10_rest_5 ?_
  refine fl_iload1 (pc := 6) dX10_rest_6 ?_
  refine fl_iload2 (pc := 7) dX10_rest_7 ?_
  refine fl_iload3 (pc := 8) dX10_rest_8 ?_
  obtain ⟨v2, M3, ev2, h⟩ := fm_bdp h
  refine fm_callV (pc := 9) mX10_areAgainst [_, _, _] _ rfl cvX10_areAgainst ml_10_447 sh_76 rfl rfl (Nat.le_of_ble_eq_true rfl) (Nat.le_of_ble_eq_true rfl) dX10_rest_9 ?_
  refine sp_X10_areAgainst ev2 ?_
  refine fm_ret1 ?_
  refine fm_if_eq (pc := 12) 20 (by decide) dX10_rest_12 (fun c12 => ?_) (fun c12 => ?_)
  · replace h := fm_itp c12 h
    refine fm_iconstv (pc := 20) (-1) (by decide) dX10_rest_20 ?_
    refine fm_iret (pc := 21) rfl ?_ dX10_rest_21
    cases h
    exact hq
  · replace h := fm_itn c12 h
    refine fl_iload4 (pc := 15) dX10_rest_15 ?_
    refine fm_if_ge (pc := 17) 22 (by decide) dX10_rest_17 (fun c17 => ?_) (fun c17 => ?_)
    · replace h := fm_itp c17 h
      refine fl_aload0 (pc := 22) dX10_rest_22 ?_
      refine fl_iload1 (pc := 23) dX10_rest_23 ?_
      refine fl_iload2 (pc := 24) dX10_rest_24 ?_
      refine fl_iload3 (pc := 25) dX10_rest_25 ?_
      obtain ⟨v4, M5, ev4, h⟩ := fm_bdp h
      refine fm_callV (pc := 26) mX10_layAgainst [_, _, _] _ rfl cvX10_layAgainst ml_10_450 sh_76 rfl rfl (Nat.le_of_ble_eq_true rfl) (Nat.le_of_ble_eq_true rfl) dX10_rest_26 ?_
      refine sp_X10_layAgainst ev4 ?_
      refine fm_ret0 ?_
      refine fl_aload0 (pc := 29) dX10_rest_29 ?_
      refine fl_iload4 (pc := 30) dX10_rest_30 ?_
      obtain ⟨v6, M7, ev6, h⟩ := fm_bdp h
      refine fm_callV (pc := 32) mX10_restOf [_] _ rfl cvX10_restOf ml_10_454 sh_76 rfl rfl (Nat.le_of_ble_eq_true rfl) (Nat.le_of_ble_eq_true rfl) dX10_rest_32 ?_
      refine sp_X10_restOf ev6 ?_
      refine fm_ret1 ?_
      refine fm_iret (pc := 35) rfl ?_ dX10_rest_35
      cases h
      exact hq
    · replace h := fm_itn c17 h
      refine fm_iconstv (pc := 20) (-1) (by decide) dX10_rest_20 ?_
      refine fm_iret (pc := 21) rfl ?_ dX10_rest_21
      cases h
      exact hq
/-! X10_common -/
def G_X10_common_4 : Nat → Int32 → Int32 → Int32 → Int32 → fm_M → Option ((Int32 × Int32) × fm_M)
  | 0, _, _, _, _, _ => none
  | n + 1, l0, l1, l2, l3, M =>
    if l3 = 0 then (
      some ((l2, l3), M)
    ) else (
      fm_gd (fm_nz l3) (
      fm_lt ((i_rem l2 l3)) (fun x2 =>
      G_X10_common_4 n l0 l1 l3 x2 M))
    )
def F_X10_common (a0 : Int32) (a1 : Int32) (M : fm_M) : Option (Int32 × fm_M) :=
    fm_bd (G_X10_common_4 fm_fuel a0 a1 a0 a1 M) (fun w3 M4 =>
      some (w3.1, M4))
theorem lp_X10_common_4 {d : Nat} {Q : Option Value → fm_M → Prop} {l0 : Int32} {l1 : Int32}   {x : (Int32 × Int32) × fm_M} (k1 : ∀ (v : Int32 × Int32) (M2 : fm_M), x = (v, M2) → fm_mw d mX10_common Q 21 [some (.int l0), some (.int l1), some (.int v.1), some (.int v.2), none] [] M2) : ∀ (n : Nat) (l2 : Int32) (l3 : Int32) (M : fm_M), G_X10_common_4 n l0 l1 l2 l3 M = some x → fm_mw d mX10_common Q 4 [some (.int l0), some (.int l1), some (.int l2), some (.int l3), none] [] M := by
  intro n
  induction n with
  | zero => intro l2 l3 M h; simp [G_X10_common_4] at h
  | succ n ih =>
    intro l2 l3 M h
    rw [G_X10_common_4] at h
    refine fl_iload3 (pc := 4) dX10_common_4 ?_
    refine fm_if_eq (pc := 5) 21 (by decide) dX10_common_5 (fun c5 => ?_) (fun c5 => ?_)
    · replace h := fm_itp c5 h
      refine fm_fgt [some (.int l0), some (.int l1), some (.int l2), some (.int l3), none] (by simp [fm_sub]) ?_
      cases h
      exact k1 _ _ rfl
    · replace h := fm_itn c5 h
      refine fl_iload2 (pc := 8) dX10_common_8 ?_
      refine fl_iload3 (pc := 9) dX10_common_9 ?_
      obtain ⟨g1, h⟩ := fm_gdp h
      refine fq_irem (pc := 10) (fm_nz_ok g1) dX10_common_10 ?_
      obtain ⟨x2, ex2, h⟩ := fm_ltp h
      refine fm_cgi ex2 ?_
      refine fl_istore4 (pc := 11) rfl (by decide) dX10_common_11 ?_
      refine fl_iload3 (pc := 13) dX10_common_13 ?_
      refine fl_istore2 (pc := 14) rfl (by decide) dX10_common_14 ?_
      refine fl_iload4 (pc := 15) dX10_common_15 ?_
      refine fl_istore3 (pc := 17) rfl (by decide) dX10_common_17 ?_
      refine fm_goto (pc := 18) 4 (by decide) dX10_common_18 ?_
      refine fm_fgt [some (.int l0), some (.int l1), some (.int l3), some (.int x2), none] (by simp [fm_sub]) ?_
      exact ih _ _ _ h
theorem sp_X10_common {d : Nat} {a0 : Int32} {a1 : Int32} {M : fm_M} {x : Int32 × fm_M} {Q : Option Value → fm_M → Prop} (h : F_X10_common a0 a1 M = some x) (hq : Q (some (.int x.1)) x.2) : fm_ct d mX10_common [.int a0, .int a1] M Q := by
  rw [F_X10_common] at h
  show fm_mw d mX10_common Q 0 [some (.int a0), some (.int a1), none, none, none] [] M
  refine fl_iload0 (pc := 0) dX10_common_0 ?_
  refine fl_istore2 (pc := 1) rfl (by decide) dX10_common_1 ?_
  refine fl_iload1 (pc := 2) dX10_common_2 ?_
  refine fl_istore3 (pc := 3) rfl (by decide) dX10_common_3 ?_
  obtain ⟨w3, M4, ew3, h⟩ := fm_bdp h
  refine lp_X10_common_4  ?_ _ _ _ _ ew3
  intro w39 M49 q9
  cases q9
  refine fl_iload2 (pc := 21) dX10_common_21 ?_
  refine fm_iret (pc := 22) rfl ?_ dX10_common_22
  cases h
  exact hq
/-! X10_likely -/
def G_X10_likely_29 : Nat → Int32 → Int32 → Int32 → Int32 → fm_M → Option ((Int32 × Int32) × fm_M)
  | 0, _, _, _, _, _ => none
  | n + 1, l1, l2, l3, l4, M =>
    if 10 ≤ l4 then (
      some ((l3, l4), M)
    ) else (
      fm_lt (fm_up M 76 45 l4) (fun M4 =>
      fm_gd (fm_inb l1 20) (
      fm_gd (fm_inb l1 20) (
      fm_bd (F_X10_humAll 0 (M4.1 85 (Int32.toNatClampNeg l1)) M4) (fun v7 M8 =>
      fm_bd (F_X10_passes 0 (M4.1 85 (Int32.toNatClampNeg l1)) v7 M8) (fun v9 M10 =>
      if v9 = 0 then (
        fm_lt ((l3 + 0)) (fun x11 =>
        G_X10_likely_29 n l1 l2 x11 (l4 + 1) M10)
      ) else (
        fm_lt ((l3 + 1)) (fun x12 =>
        G_X10_likely_29 n l1 l2 x12 (l4 + 1) M10)
      ))))))
    )
def F_X10_likely (a1 : Int32) (a2 : Int32) (M : fm_M) : Option (Int32 × fm_M) :=
    fm_lt (fm_up M 76 0 0) (fun M1 =>
    fm_bd (F_X10_isMotion a1 M1) (fun v2 M3 =>
    if v2 = 0 then (
      some ((-1), M3)
    ) else (
      if a2 < 0 then (
        some ((-1), M3)
      ) else (
        if a2 ≤ 1 then (
          fm_bd (G_X10_likely_29 fm_fuel a1 a2 0 0 M3) (fun w13 M14 =>
            fm_lt (fm_up M14 76 45 (-1)) (fun M15 =>
            fm_bd (F_X10_common w13.1 10 M15) (fun v16 M17 =>
            if a2 = 0 then (
              fm_gd (fm_nz v16) (
              some ((w13.1 / v16), M17))
            ) else (
              fm_gd (fm_nz v16) (
              some ((10 / v16), M17))
            ))))
        ) else (
          some ((-1), M3)
        )
      )
    )))
theorem lp_X10_likely_29 {d : Nat} {Q : Option Value → fm_M → Prop} {l1 : Int32} {l2 : Int32}   {x : (Int32 × Int32) × fm_M} (k1 : ∀ (v : Int32 × Int32) (M2 : fm_M), x = (v, M2) → fm_mw (d + 8) mX10_likely Q 81 [some (.ref 76), some (.int l1), some (.int l2), some (.int v.1), some (.int v.2)] [] M2) : ∀ (n : Nat) (l3 : Int32) (l4 : Int32) (M : fm_M), G_X10_likely_29 n l1 l2 l3 l4 M = some x → fm_mw (d + 8) mX10_likely Q 29 [some (.ref 76), some (.int l1), some (.int l2), some (.int l3), some (.int l4)] [] M := by
  intro n
  induction n with
  | zero => intro l3 l4 M h; simp [G_X10_likely_29] at h
  | succ n ih =>
    intro l3 l4 M h
    rw [G_X10_likely_29] at h
    refine fl_iload4 (pc := 29) dX10_likely_29 ?_
    refine fm_bipushv (pc := 31) 10 (by decide) dX10_likely_31 ?_
    refine fm_icmp_ge (pc := 33) 81 (by decide) dX10_likely_33 (fun c33 => ?_) (fun c33 => ?_)
    · replace h := fm_itp c33 h
      refine fm_fgt [some (.ref 76), some (.int l1), some (.int l2), some (.int l3), some (.int l4)] (by simp [fm_sub]) ?_
      cases h
      exact k1 _ _ rfl
    · replace h := fm_itn c33 h
      refine fl_aload0 (pc := 36) dX10_likely_36 ?_
      refine fl_iload4 (pc := 37) dX10_likely_37 ?_
      refine fm_puti (pc := 39) lp_10_93 sh_76 rfl dX10_likely_39 ?_
      obtain ⟨M4, eM4, h⟩ := fm_ltp h
      refine fm_cgm eM4 ?_
      refine fl_iload3 (pc := 42) dX10_likely_42 ?_
      refine fl_aload0 (pc := 43) dX10_likely_43 ?_
      refine fm_iconstv (pc := 44) 0 (by decide) dX10_likely_44 ?_
      refine fl_aload0 (pc := 45) dX10_likely_45 ?_
      refine fm_getr (pc := 46) lk_10_34 sh_76 rfl dX10_likely_46 ?_
      refine fl_iload1 (pc := 49) dX10_likely_49 ?_
      obtain ⟨g5, h⟩ := fm_gdp h
      refine fm_iald (pc := 50) sh_85 (fm_inb_ok g5) dX10_likely_50 ?_
      refine fl_aload0 (pc := 51) dX10_likely_51 ?_
      refine fm_iconstv (pc := 52) 0 (by decide) dX10_likely_52 ?_
      refine fl_aload0 (pc := 53) dX10_likely_53 ?_
      refine fm_getr (pc := 54) lk_10_34 sh_76 rfl dX10_likely_54 ?_
      refine fl_iload1 (pc := 57) dX10_likely_57 ?_
      obtain ⟨g6, h⟩ := fm_gdp h
      refine fm_iald (pc := 58) sh_85 (fm_inb_ok g6) dX10_likely_58 ?_
      obtain ⟨v7, M8, ev7, h⟩ := fm_bdp h
      refine fm_callV (pc := 59) mX10_humAll [_, _] _ rfl cvX10_humAll ml_10_385 sh_76 rfl rfl (Nat.le_of_ble_eq_true rfl) (Nat.le_of_ble_eq_true rfl) dX10_likely_59 ?_
      refine sp_X10_humAll ev7 ?_
      refine fm_ret1 ?_
      obtain ⟨v9, M10, ev9, h⟩ := fm_bdp h
      refine fm_callV (pc := 62) mX10_passes [_, _, _] _ rfl cvX10_passes ml_10_388 sh_76 rfl rfl (Nat.le_of_ble_eq_true rfl) (Nat.le_of_ble_eq_true rfl) dX10_likely_62 ?_
      refine sp_X10_passes ev9 ?_
      refine fm_ret1 ?_
      refine fm_if_eq (pc := 65) 72 (by decide) dX10_likely_65 (fun c65 => ?_) (fun c65 => ?_)
      · replace h := fm_itp c65 h
        refine fm_iconstv (pc := 72) 0 (by decide) dX10_likely_72 ?_
        refine fm_iadd (pc := 73) dX10_likely_73 ?_
        obtain ⟨x11, ex11, h⟩ := fm_ltp h
        refine fm_cgi ex11 ?_
        refine fl_istore3 (pc := 74) rfl (by decide) dX10_likely_74 ?_
        refine fl_iinc4 (pc := 75) rfl 1 (by decide) (by decide) dX10_likely_75 ?_
        refine fm_goto (pc := 78) 29 (by decide) dX10_likely_78 ?_
        refine fm_fgt [some (.ref 76), some (.int l1), some (.int l2), some (.int x11), some (.int (l4 + 1))] (by simp [fm_sub]) ?_
        exact ih _ _ _ h
      · replace h := fm_itn c65 h
        refine fm_iconstv (pc := 68) 1 (by decide) dX10_likely_68 ?_
        refine fm_goto (pc := 69) 73 (by decide) dX10_likely_69 ?_
        refine fm_iadd (pc := 73) dX10_likely_73 ?_
        obtain ⟨x12, ex12, h⟩ := fm_ltp h
        refine fm_cgi ex12 ?_
        refine fl_istore3 (pc := 74) rfl (by decide) dX10_likely_74 ?_
        refine fl_iinc4 (pc := 75) rfl 1 (by decide) (by decide) dX10_likely_75 ?_
        refine fm_goto (pc := 78) 29 (by decide) dX10_likely_78 ?_
        refine fm_fgt [some (.ref 76), some (.int l1), some (.int l2), some (.int x12), some (.int (l4 + 1))] (by simp [fm_sub]) ?_
        exact ih _ _ _ h
theorem sp_X10_likely {d : Nat} {a1 : Int32} {a2 : Int32} {M : fm_M} {x : Int32 × fm_M} {Q : Option Value → fm_M → Prop} (h : F_X10_likely a1 a2 M = some x) (hq : Q (some (.int x.1)) x.2) : fm_ct (d + 8) mX10_likely [.ref 76, .int a1, .int a2] M Q := by
  rw [F_X10_likely] at h
  show fm_mw (d + 8) mX10_likely Q 0 [some (.ref 76), some (.int a1), some (.int a2), none, none] [] M
  refine fl_aload0 (pc := 0) dX10_likely_0 ?_
  refine fm_iconstv (pc := 1) 0 (by decide) dX10_likely_1 ?_
  refine fm_puti (pc := 2) lp_10_130 sh_76 rfl dX10_likely_2 ?_
  obtain ⟨M1, eM1, h⟩ := fm_ltp h
  refine fm_cgm eM1 ?_
  refine fl_aload0 (pc := 5) dX10_likely_5 ?_
  refine fl_iload1 (pc := 6) dX10_likely_6 ?_
  obtain ⟨v2, M3, ev2, h⟩ := fm_bdp h
  refine fm_callV (pc := 7) mX10_isMotion [_] _ rfl cvX10_isMotion ml_10_401 sh_76 rfl rfl (Nat.le_of_ble_eq_true rfl) (Nat.le_of_ble_eq_true rfl) dX10_likely_7 ?_
  refine sp_X10_isMotion ev2 ?_
  refine fm_ret1 ?_
  refine fm_if_eq (pc := 10) 22 (by decide) dX10_likely_10 (fun c10 => ?_) (fun c10 => ?_)
  · replace h := fm_itp c10 h
    refine fm_iconstv (pc := 22) (-1) (by decide) dX10_likely_22 ?_
    refine fm_iret (pc := 23) rfl ?_ dX10_likely_23
    cases h
    exact hq
  · replace h := fm_itn c10 h
    refine fl_iload2 (pc := 13) dX10_likely_13 ?_
    refine fm_if_lt (pc := 14) 22 (by decide) dX10_likely_14 (fun c14 => ?_) (fun c14 => ?_)
    · replace h := fm_itp c14 h
      refine fm_iconstv (pc := 22) (-1) (by decide) dX10_likely_22 ?_
      refine fm_iret (pc := 23) rfl ?_ dX10_likely_23
      cases h
      exact hq
    · replace h := fm_itn c14 h
      refine fl_iload2 (pc := 17) dX10_likely_17 ?_
      refine fm_iconstv (pc := 18) 1 (by decide) dX10_likely_18 ?_
      refine fm_icmp_le (pc := 19) 24 (by decide) dX10_likely_19 (fun c19 => ?_) (fun c19 => ?_)
      · replace h := fm_itp c19 h
        refine fm_iconstv (pc := 24) 0 (by decide) dX10_likely_24 ?_
        refine fl_istore3 (pc := 25) rfl (by decide) dX10_likely_25 ?_
        refine fm_iconstv (pc := 26) 0 (by decide) dX10_likely_26 ?_
        refine fl_istore4 (pc := 27) rfl (by decide) dX10_likely_27 ?_
        obtain ⟨w13, M14, ew13, h⟩ := fm_bdp h
        refine lp_X10_likely_29  ?_ _ _ _ _ ew13
        intro w139 M149 q9
        cases q9
        refine fl_aload0 (pc := 81) dX10_likely_81 ?_
        refine fm_iconstv (pc := 82) (-1) (by decide) dX10_likely_82 ?_
        refine fm_puti (pc := 83) lp_10_93 sh_76 rfl dX10_likely_83 ?_
        obtain ⟨M15, eM15, h⟩ := fm_ltp h
        refine fm_cgm eM15 ?_
        refine fl_iload3 (pc := 86) dX10_likely_86 ?_
        refine fm_bipushv (pc := 87) 10 (by decide) dX10_likely_87 ?_
        obtain ⟨v16, M17, ev16, h⟩ := fm_bdp h
        refine fm_callS (pc := 89) mX10_common [_, _] _ rfl csX10_common ml_10_457 rfl (Nat.le_of_ble_eq_true rfl) (Nat.le_of_ble_eq_true rfl) dX10_likely_89 ?_
        refine sp_X10_common ev16 ?_
        refine fm_ret1 ?_
        refine fl_istore4 (pc := 92) rfl (by decide) dX10_likely_92 ?_
        refine fl_iload2 (pc := 94) dX10_likely_94 ?_
        refine fm_if_ne (pc := 95) 105 (by decide) dX10_likely_95 (fun c95 => ?_) (fun c95 => ?_)
        · replace h := fm_itn c95 h
          refine fm_bipushv (pc := 105) 10 (by decide) dX10_likely_105 ?_
          refine fl_iload4 (pc := 107) dX10_likely_107 ?_
          obtain ⟨g18, h⟩ := fm_gdp h
          refine fm_idiv (pc := 109) (fm_nz_ok g18) dX10_likely_109 ?_
          refine fm_iret (pc := 110) rfl ?_ dX10_likely_110
          cases h
          exact hq
        · replace h := fm_itp c95 h
          refine fl_iload3 (pc := 98) dX10_likely_98 ?_
          refine fl_iload4 (pc := 99) dX10_likely_99 ?_
          obtain ⟨g19, h⟩ := fm_gdp h
          refine fm_idiv (pc := 101) (fm_nz_ok g19) dX10_likely_101 ?_
          refine fm_goto (pc := 102) 110 (by decide) dX10_likely_102 ?_
          refine fm_iret (pc := 110) rfl ?_ dX10_likely_110
          cases h
          exact hq
      · replace h := fm_itn c19 h
        refine fm_iconstv (pc := 22) (-1) (by decide) dX10_likely_22 ?_
        refine fm_iret (pc := 23) rfl ?_ dX10_likely_23
        cases h
        exact hq
/-! X10_power -/
def G_X10_power_4 : Nat → Int32 → Int32 → Int32 → Int32 → fm_M → Option ((Int32 × Int32) × fm_M)
  | 0, _, _, _, _, _ => none
  | n + 1, l0, l1, l2, l3, M =>
    if l1 ≤ l3 then (
      some ((l2, l3), M)
    ) else (
      fm_lt ((l2 * l0)) (fun x1 =>
      G_X10_power_4 n l0 l1 x1 (l3 + 1) M)
    )
def F_X10_power (a0 : Int32) (a1 : Int32) (M : fm_M) : Option (Int32 × fm_M) :=
    fm_bd (G_X10_power_4 fm_fuel a0 a1 1 0 M) (fun w2 M3 =>
      some (w2.1, M3))
theorem lp_X10_power_4 {d : Nat} {Q : Option Value → fm_M → Prop} {l0 : Int32} {l1 : Int32}   {x : (Int32 × Int32) × fm_M} (k1 : ∀ (v : Int32 × Int32) (M2 : fm_M), x = (v, M2) → fm_mw d mX10_power Q 19 [some (.int l0), some (.int l1), some (.int v.1), some (.int v.2)] [] M2) : ∀ (n : Nat) (l2 : Int32) (l3 : Int32) (M : fm_M), G_X10_power_4 n l0 l1 l2 l3 M = some x → fm_mw d mX10_power Q 4 [some (.int l0), some (.int l1), some (.int l2), some (.int l3)] [] M := by
  intro n
  induction n with
  | zero => intro l2 l3 M h; simp [G_X10_power_4] at h
  | succ n ih =>
    intro l2 l3 M h
    rw [G_X10_power_4] at h
    refine fl_iload3 (pc := 4) dX10_power_4 ?_
    refine fl_iload1 (pc := 5) dX10_power_5 ?_
    refine fm_icmp_ge (pc := 6) 19 (by decide) dX10_power_6 (fun c6 => ?_) (fun c6 => ?_)
    · replace h := fm_itp c6 h
      refine fm_fgt [some (.int l0), some (.int l1), some (.int l2), some (.int l3)] (by simp [fm_sub]) ?_
      cases h
      exact k1 _ _ rfl
    · replace h := fm_itn c6 h
      refine fl_iload2 (pc := 9) dX10_power_9 ?_
      refine fl_iload0 (pc := 10) dX10_power_10 ?_
      refine fm_imul (pc := 11) dX10_power_11 ?_
      obtain ⟨x1, ex1, h⟩ := fm_ltp h
      refine fm_cgi ex1 ?_
      refine fl_istore2 (pc := 12) rfl (by decide) dX10_power_12 ?_
      refine fl_iinc3 (pc := 13) rfl 1 (by decide) (by decide) dX10_power_13 ?_
      refine fm_goto (pc := 16) 4 (by decide) dX10_power_16 ?_
      refine fm_fgt [some (.int l0), some (.int l1), some (.int x1), some (.int (l3 + 1))] (by simp [fm_sub]) ?_
      exact ih _ _ _ h
theorem sp_X10_power {d : Nat} {a0 : Int32} {a1 : Int32} {M : fm_M} {x : Int32 × fm_M} {Q : Option Value → fm_M → Prop} (h : F_X10_power a0 a1 M = some x) (hq : Q (some (.int x.1)) x.2) : fm_ct d mX10_power [.int a0, .int a1] M Q := by
  rw [F_X10_power] at h
  show fm_mw d mX10_power Q 0 [some (.int a0), some (.int a1), none, none] [] M
  refine fm_iconstv (pc := 0) 1 (by decide) dX10_power_0 ?_
  refine fl_istore2 (pc := 1) rfl (by decide) dX10_power_1 ?_
  refine fm_iconstv (pc := 2) 0 (by decide) dX10_power_2 ?_
  refine fl_istore3 (pc := 3) rfl (by decide) dX10_power_3 ?_
  obtain ⟨w2, M3, ew2, h⟩ := fm_bdp h
  refine lp_X10_power_4  ?_ _ _ _ _ ew2
  intro w29 M39 q9
  cases q9
  refine fl_iload2 (pc := 19) dX10_power_19 ?_
  refine fm_iret (pc := 20) rfl ?_ dX10_power_20
  cases h
  exact hq
/-! X10_layOrder -/
def G_X10_layOrder_7 : Nat → Int32 → Int32 → fm_M → Option ((Int32) × fm_M)
  | 0, _, _, _ => none
  | n + 1, l1, l2, M =>
    fm_gd (fm_inb 1 20) (
    if (M.1 78 (Int32.toNatClampNeg 1)) ≤ l2 then (
      some (l2, M)
    ) else (
      if 4 ≤ (M.1 76 52) then (
        some (l2, M)
      ) else (
        fm_gd (fm_inb l2 230) (
        if (M.1 100 (Int32.toNatClampNeg l2)) = (-1) then (
          fm_gd (fm_inb (M.1 76 52) 4) (
          fm_lt (fm_up M 105 (Int32.toNatClampNeg (M.1 76 52)) l2) (fun M5 =>
          fm_lt (fm_up M5 76 52 ((M5.1 76 52) + 1)) (fun M6 =>
          G_X10_layOrder_7 n l1 (l2 + 1) M6)))
        ) else (
          G_X10_layOrder_7 n l1 (l2 + 1) M
        ))
      )
    ))
def G_X10_layOrder_91 : Nat → Int32 → Int32 → Int32 → fm_M → Option ((Int32) × fm_M)
  | 0, _, _, _, _ => none
  | n + 1, l1, l2, l3, M =>
    if (M.1 76 52) ≤ l3 then (
      some (l3, M)
    ) else (
      fm_gd (fm_inb l3 4) (
      fm_gd (fm_inb 0 23) (
      fm_bd (F_X10_power l1 (((M.1 76 52) - 1) - l3) M) (fun v16 M17 =>
      fm_gd (fm_nz v16) (
      fm_gd (fm_nz l1) (
      fm_gd (fm_inb (10 + (M.1 105 (Int32.toNatClampNeg l3))) 230) (
      fm_lt (fm_up M17 99 (Int32.toNatClampNeg (10 + (M.1 105 (Int32.toNatClampNeg l3)))) ((M.1 94 (Int32.toNatClampNeg 0)) + (i_rem (l2 / v16) l1))) (fun M21 =>
      G_X10_layOrder_91 n l1 l2 (l3 + 1) M21)))))))
    )
def G_X10_layOrder_71 : Nat → Int32 → Int32 → fm_M → Option ((Int32) × fm_M)
  | 0, _, _, _ => none
  | n + 1, l1, l2, M =>
    fm_bd (F_X10_power l1 (M.1 76 52) M) (fun v10 M11 =>
    if v10 ≤ l2 then (
      some (l2, M11)
    ) else (
      fm_bd (F_X10_copies 1 0 M11) (fun v12 M13 =>
      fm_bd (G_X10_layOrder_91 fm_fuel l1 l2 0 M13) (fun w22 M23 =>
        fm_bd (F_X10_goesOn l1 M23) (fun v24 M25 =>
        fm_bd (F_X10_manyOf 1 1 M25) (fun v26 M27 =>
        fm_bd (F_X10_manyOf 0 1 M27) (fun v28 M29 =>
        fm_lt ((v26 - v28)) (fun x30 =>
        if (M29.1 76 53) < x30 then (
          fm_lt (fm_up M29 76 53 x30) (fun M31 =>
          fm_lt (fm_up M31 76 54 l2) (fun M32 =>
          G_X10_layOrder_71 n l1 (l2 + 1) M32))
        ) else (
          G_X10_layOrder_71 n l1 (l2 + 1) M29
        )))))))
    ))
def F_X10_layOrder (a1 : Int32) (M : fm_M) : Option (Unit × fm_M) :=
    fm_lt (fm_up M 76 52 0) (fun M1 =>
    fm_bd (G_X10_layOrder_7 fm_fuel a1 0 M1) (fun w7 M8 =>
      fm_lt (fm_up M8 76 53 (-1)) (fun M9 =>
      fm_bd (G_X10_layOrder_71 fm_fuel a1 0 M9) (fun w33 M34 =>
        some ((), M34)))))
theorem lp_X10_layOrder_7 {d : Nat} {Q : Option Value → fm_M → Prop} {l1 : Int32}   {x : (Int32) × fm_M} (k1 : ∀ (v : Int32) (M2 : fm_M), x = (v, M2) → fm_mw (d + 11) mX10_layOrder Q 64 [some (.ref 76), some (.int l1), some (.int v), none] [] M2) : ∀ (n : Nat) (l2 : Int32) (M : fm_M), G_X10_layOrder_7 n l1 l2 M = some x → fm_mw (d + 11) mX10_layOrder Q 7 [some (.ref 76), some (.int l1), some (.int l2), none] [] M := by
  intro n
  induction n with
  | zero => intro l2 M h; simp [G_X10_layOrder_7] at h
  | succ n ih =>
    intro l2 M h
    rw [G_X10_layOrder_7] at h
    refine fl_iload2 (pc := 7) dX10_layOrder_7 ?_
    refine fl_aload0 (pc := 8) dX10_layOrder_8 ?_
    refine fm_getr (pc := 9) lk_10_13 sh_76 rfl dX10_layOrder_9 ?_
    refine fm_iconstv (pc := 12) 1 (by decide) dX10_layOrder_12 ?_
    obtain ⟨g2, h⟩ := fm_gdp h
    refine fm_iald (pc := 13) sh_78 (fm_inb_ok g2) dX10_layOrder_13 ?_
    refine fm_icmp_ge (pc := 14) 64 (by decide) dX10_layOrder_14 (fun c14 => ?_) (fun c14 => ?_)
    · replace h := fm_itp c14 h
      refine fm_fgt [some (.ref 76), some (.int l1), some (.int l2), none] (by simp [fm_sub]) ?_
      cases h
      exact k1 _ _ rfl
    · replace h := fm_itn c14 h
      refine fl_aload0 (pc := 17) dX10_layOrder_17 ?_
      refine fm_geti (pc := 18) lk_10_460 sh_76 rfl dX10_layOrder_18 ?_
      refine fm_iconstv (pc := 21) 4 (by decide) dX10_layOrder_21 ?_
      refine fm_icmp_ge (pc := 22) 64 (by decide) dX10_layOrder_22 (fun c22 => ?_) (fun c22 => ?_)
      · replace h := fm_itp c22 h
        refine fm_fgt [some (.ref 76), some (.int l1), some (.int l2), none] (by simp [fm_sub]) ?_
        cases h
        exact k1 _ _ rfl
      · replace h := fm_itn c22 h
        refine fl_aload0 (pc := 25) dX10_layOrder_25 ?_
        refine fm_getr (pc := 26) lk_10_84 sh_76 rfl dX10_layOrder_26 ?_
        refine fl_iload2 (pc := 29) dX10_layOrder_29 ?_
        obtain ⟨g3, h⟩ := fm_gdp h
        refine fm_iald (pc := 30) sh_100 (fm_inb_ok g3) dX10_layOrder_30 ?_
        refine fm_iconstv (pc := 31) (-1) (by decide) dX10_layOrder_31 ?_
        refine fm_icmp_eq (pc := 32) 38 (by decide) dX10_layOrder_32 (fun c32 => ?_) (fun c32 => ?_)
        · replace h := fm_itp c32 h
          refine fl_aload0 (pc := 38) dX10_layOrder_38 ?_
          refine fm_getr (pc := 39) lk_10_108 sh_76 rfl dX10_layOrder_39 ?_
          refine fl_aload0 (pc := 42) dX10_layOrder_42 ?_
          refine fm_geti (pc := 43) lk_10_460 sh_76 rfl dX10_layOrder_43 ?_
          refine fl_iload2 (pc := 46) dX10_layOrder_46 ?_
          obtain ⟨g4, h⟩ := fm_gdp h
          refine fm_iast (pc := 47) sh_105 (fm_inb_ok g4) dX10_layOrder_47 ?_
          obtain ⟨M5, eM5, h⟩ := fm_ltp h
          refine fm_cgm eM5 ?_
          refine fl_aload0 (pc := 48) dX10_layOrder_48 ?_
          refine fm_dup (pc := 49) rfl dX10_layOrder_49 ?_
          refine fm_geti (pc := 50) lk_10_460 sh_76 rfl dX10_layOrder_50 ?_
          refine fm_iconstv (pc := 53) 1 (by decide) dX10_layOrder_53 ?_
          refine fm_iadd (pc := 54) dX10_layOrder_54 ?_
          refine fm_puti (pc := 55) lp_10_460 sh_76 rfl dX10_layOrder_55 ?_
          obtain ⟨M6, eM6, h⟩ := fm_ltp h
          refine fm_cgm eM6 ?_
          refine fl_iinc2 (pc := 58) rfl 1 (by decide) (by decide) dX10_layOrder_58 ?_
          refine fm_goto (pc := 61) 7 (by decide) dX10_layOrder_61 ?_
          refine fm_fgt [some (.ref 76), some (.int l1), some (.int (l2 + 1)), none] (by simp [fm_sub]) ?_
          exact ih _ _ h
        · replace h := fm_itn c32 h
          refine fm_goto (pc := 35) 58 (by decide) dX10_layOrder_35 ?_
          refine fl_iinc2 (pc := 58) rfl 1 (by decide) (by decide) dX10_layOrder_58 ?_
          refine fm_goto (pc := 61) 7 (by decide) dX10_layOrder_61 ?_
          refine fm_fgt [some (.ref 76), some (.int l1), some (.int (l2 + 1)), none] (by simp [fm_sub]) ?_
          exact ih _ _ h
theorem lp_X10_layOrder_91 {d : Nat} {Q : Option Value → fm_M → Prop} {l1 : Int32} {l2 : Int32}   {x : (Int32) × fm_M} (k1 : ∀ (v : Int32) (M2 : fm_M), x = (v, M2) → fm_mw (d + 11) mX10_layOrder Q 142 [some (.ref 76), some (.int l1), some (.int l2), some (.int v)] [] M2) : ∀ (n : Nat) (l3 : Int32) (M : fm_M), G_X10_layOrder_91 n l1 l2 l3 M = some x → fm_mw (d + 11) mX10_layOrder Q 91 [some (.ref 76), some (.int l1), some (.int l2), some (.int l3)] [] M := by
  intro n
  induction n with
  | zero => intro l3 M h; simp [G_X10_layOrder_91] at h
  | succ n ih =>
    intro l3 M h
    rw [G_X10_layOrder_91] at h
    refine fl_iload3 (pc := 91) dX10_layOrder_91 ?_
    refine fl_aload0 (pc := 92) dX10_layOrder_92 ?_
    refine fm_geti (pc := 93) lk_10_460 sh_76 rfl dX10_layOrder_93 ?_
    refine fm_icmp_ge (pc := 96) 142 (by decide) dX10_layOrder_96 (fun c96 => ?_) (fun c96 => ?_)
    · replace h := fm_itp c96 h
      refine fm_fgt [some (.ref 76), some (.int l1), some (.int l2), some (.int l3)] (by simp [fm_sub]) ?_
      cases h
      exact k1 _ _ rfl
    · replace h := fm_itn c96 h
      refine fl_aload0 (pc := 99) dX10_layOrder_99 ?_
      refine fm_getr (pc := 100) lk_10_81 sh_76 rfl dX10_layOrder_100 ?_
      refine fm_bipushv (pc := 103) 10 (by decide) dX10_layOrder_103 ?_
      refine fl_aload0 (pc := 105) dX10_layOrder_105 ?_
      refine fm_getr (pc := 106) lk_10_108 sh_76 rfl dX10_layOrder_106 ?_
      refine fl_iload3 (pc := 109) dX10_layOrder_109 ?_
      obtain ⟨g14, h⟩ := fm_gdp h
      refine fm_iald (pc := 110) sh_105 (fm_inb_ok g14) dX10_layOrder_110 ?_
      refine fm_iadd (pc := 111) dX10_layOrder_111 ?_
      refine fl_aload0 (pc := 112) dX10_layOrder_112 ?_
      refine fm_getr (pc := 113) lk_10_66 sh_76 rfl dX10_layOrder_113 ?_
      refine fm_iconstv (pc := 116) 0 (by decide) dX10_layOrder_116 ?_
      obtain ⟨g15, h⟩ := fm_gdp h
      refine fm_iald (pc := 117) sh_94 (fm_inb_ok g15) dX10_layOrder_117 ?_
      refine fl_iload2 (pc := 118) dX10_layOrder_118 ?_
      refine fl_iload1 (pc := 119) dX10_layOrder_119 ?_
      refine fl_aload0 (pc := 120) dX10_layOrder_120 ?_
      refine fm_geti (pc := 121) lk_10_460 sh_76 rfl dX10_layOrder_121 ?_
      refine fm_iconstv (pc := 124) 1 (by decide) dX10_layOrder_124 ?_
      refine fm_isub (pc := 125) dX10_layOrder_125 ?_
      refine fl_iload3 (pc := 126) dX10_layOrder_126 ?_
      refine fm_isub (pc := 127) dX10_layOrder_127 ?_
      obtain ⟨v16, M17, ev16, h⟩ := fm_bdp h
      refine fm_callS (pc := 128) mX10_power [_, _] _ rfl csX10_power ml_10_466 rfl (Nat.le_of_ble_eq_true rfl) (Nat.le_of_ble_eq_true rfl) dX10_layOrder_128 ?_
      refine sp_X10_power ev16 ?_
      refine fm_ret1 ?_
      obtain ⟨g18, h⟩ := fm_gdp h
      refine fm_idiv (pc := 131) (fm_nz_ok g18) dX10_layOrder_131 ?_
      refine fl_iload1 (pc := 132) dX10_layOrder_132 ?_
      obtain ⟨g19, h⟩ := fm_gdp h
      refine fq_irem (pc := 133) (fm_nz_ok g19) dX10_layOrder_133 ?_
      refine fm_iadd (pc := 134) dX10_layOrder_134 ?_
      obtain ⟨g20, h⟩ := fm_gdp h
      refine fm_iast (pc := 135) sh_99 (fm_inb_ok g20) dX10_layOrder_135 ?_
      obtain ⟨M21, eM21, h⟩ := fm_ltp h
      refine fm_cgm eM21 ?_
      refine fl_iinc3 (pc := 136) rfl 1 (by decide) (by decide) dX10_layOrder_136 ?_
      refine fm_goto (pc := 139) 91 (by decide) dX10_layOrder_139 ?_
      refine fm_fgt [some (.ref 76), some (.int l1), some (.int l2), some (.int (l3 + 1))] (by simp [fm_sub]) ?_
      exact ih _ _ h
theorem lp_X10_layOrder_71 {d : Nat} {Q : Option Value → fm_M → Prop} {l1 : Int32}   {x : (Int32) × fm_M} (k1 : ∀ (v : Int32) (M2 : fm_M), x = (v, M2) → fm_mw (d + 11) mX10_layOrder Q 188 [some (.ref 76), some (.int l1), some (.int v), none] [] M2) : ∀ (n : Nat) (l2 : Int32) (M : fm_M), G_X10_layOrder_71 n l1 l2 M = some x → fm_mw (d + 11) mX10_layOrder Q 71 [some (.ref 76), some (.int l1), some (.int l2), none] [] M := by
  intro n
  induction n with
  | zero => intro l2 M h; simp [G_X10_layOrder_71] at h
  | succ n ih =>
    intro l2 M h
    rw [G_X10_layOrder_71] at h
    refine fl_iload2 (pc := 71) dX10_layOrder_71 ?_
    refine fl_iload1 (pc := 72) dX10_layOrder_72 ?_
    refine fl_aload0 (pc := 73) dX10_layOrder_73 ?_
    refine fm_geti (pc := 74) lk_10_460 sh_76 rfl dX10_layOrder_74 ?_
    obtain ⟨v10, M11, ev10, h⟩ := fm_bdp h
    refine fm_callS (pc := 77) mX10_power [_, _] _ rfl csX10_power ml_10_466 rfl (Nat.le_of_ble_eq_true rfl) (Nat.le_of_ble_eq_true rfl) dX10_layOrder_77 ?_
    refine sp_X10_power ev10 ?_
    refine fm_ret1 ?_
    refine fm_icmp_ge (pc := 80) 188 (by decide) dX10_layOrder_80 (fun c80 => ?_) (fun c80 => ?_)
    · replace h := fm_itp c80 h
      refine fm_fgt [some (.ref 76), some (.int l1), some (.int l2), none] (by simp [fm_sub]) ?_
      cases h
      exact k1 _ _ rfl
    · replace h := fm_itn c80 h
      refine fl_aload0 (pc := 83) dX10_layOrder_83 ?_
      refine fm_iconstv (pc := 84) 1 (by decide) dX10_layOrder_84 ?_
      refine fm_iconstv (pc := 85) 0 (by decide) dX10_layOrder_85 ?_
      obtain ⟨v12, M13, ev12, h⟩ := fm_bdp h
      refine fm_callV (pc := 86) mX10_copies [_, _] _ rfl cvX10_copies ml_10_414 sh_76 rfl rfl (Nat.le_of_ble_eq_true rfl) (Nat.le_of_ble_eq_true rfl) dX10_layOrder_86 ?_
      refine sp_X10_copies ev12 ?_
      refine fm_ret0 ?_
      refine fm_iconstv (pc := 89) 0 (by decide) dX10_layOrder_89 ?_
      refine fl_istore3 (pc := 90) rfl (by decide) dX10_layOrder_90 ?_
      obtain ⟨w22, M23, ew22, h⟩ := fm_bdp h
      refine lp_X10_layOrder_91  ?_ _ _ _ ew22
      intro w229 M239 q9
      cases q9
      refine fl_aload0 (pc := 142) dX10_layOrder_142 ?_
      refine fl_iload1 (pc := 143) dX10_layOrder_143 ?_
      obtain ⟨v24, M25, ev24, h⟩ := fm_bdp h
      refine fm_callV (pc := 144) mX10_goesOn [_] _ rfl cvX10_goesOn ml_10_420 sh_76 rfl rfl (Nat.le_of_ble_eq_true rfl) (Nat.le_of_ble_eq_true rfl) dX10_layOrder_144 ?_
      refine sp_X10_goesOn ev24 ?_
      refine fm_ret0 ?_
      refine fl_aload0 (pc := 147) dX10_layOrder_147 ?_
      refine fm_iconstv (pc := 148) 1 (by decide) dX10_layOrder_148 ?_
      refine fm_iconstv (pc := 149) 1 (by decide) dX10_layOrder_149 ?_
      obtain ⟨v26, M27, ev26, h⟩ := fm_bdp h
      refine fm_callV (pc := 150) mX10_manyOf [_, _] _ rfl cvX10_manyOf ml_10_423 sh_76 rfl rfl (Nat.le_of_ble_eq_true rfl) (Nat.le_of_ble_eq_true rfl) dX10_layOrder_150 ?_
      refine sp_X10_manyOf ev26 ?_
      refine fm_ret1 ?_
      refine fl_aload0 (pc := 153) dX10_layOrder_153 ?_
      refine fm_iconstv (pc := 154) 0 (by decide) dX10_layOrder_154 ?_
      refine fm_iconstv (pc := 155) 1 (by decide) dX10_layOrder_155 ?_
      obtain ⟨v28, M29, ev28, h⟩ := fm_bdp h
      refine fm_callV (pc := 156) mX10_manyOf [_, _] _ rfl cvX10_manyOf ml_10_423 sh_76 rfl rfl (Nat.le_of_ble_eq_true rfl) (Nat.le_of_ble_eq_true rfl) dX10_layOrder_156 ?_
      refine sp_X10_manyOf ev28 ?_
      refine fm_ret1 ?_
      refine fm_isub (pc := 159) dX10_layOrder_159 ?_
      obtain ⟨x30, ex30, h⟩ := fm_ltp h
      refine fm_cgi ex30 ?_
      refine fl_istore3 (pc := 160) rfl (by decide) dX10_layOrder_160 ?_
      refine fl_iload3 (pc := 161) dX10_layOrder_161 ?_
      refine fl_aload0 (pc := 162) dX10_layOrder_162 ?_
      refine fm_geti (pc := 163) lk_10_463 sh_76 rfl dX10_layOrder_163 ?_
      refine fm_icmp_gt (pc := 166) 172 (by decide) dX10_layOrder_166 (fun c166 => ?_) (fun c166 => ?_)
      · replace h := fm_itp c166 h
        refine fl_aload0 (pc := 172) dX10_layOrder_172 ?_
        refine fl_iload3 (pc := 173) dX10_layOrder_173 ?_
        refine fm_puti (pc := 174) lp_10_463 sh_76 rfl dX10_layOrder_174 ?_
        obtain ⟨M31, eM31, h⟩ := fm_ltp h
        refine fm_cgm eM31 ?_
        refine fl_aload0 (pc := 177) dX10_layOrder_177 ?_
        refine fl_iload2 (pc := 178) dX10_layOrder_178 ?_
        refine fm_puti (pc := 179) lp_10_469 sh_76 rfl dX10_layOrder_179 ?_
        obtain ⟨M32, eM32, h⟩ := fm_ltp h
        refine fm_cgm eM32 ?_
        refine fl_iinc2 (pc := 182) rfl 1 (by decide) (by decide) dX10_layOrder_182 ?_
        refine fm_goto (pc := 185) 71 (by decide) dX10_layOrder_185 ?_
        refine fm_fgt [some (.ref 76), some (.int l1), some (.int (l2 + 1)), none] (by simp [fm_sub]) ?_
        exact ih _ _ h
      · replace h := fm_itn c166 h
        refine fm_goto (pc := 169) 182 (by decide) dX10_layOrder_169 ?_
        refine fl_iinc2 (pc := 182) rfl 1 (by decide) (by decide) dX10_layOrder_182 ?_
        refine fm_goto (pc := 185) 71 (by decide) dX10_layOrder_185 ?_
        refine fm_fgt [some (.ref 76), some (.int l1), some (.int (l2 + 1)), none] (by simp [fm_sub]) ?_
        exact ih _ _ h
theorem sp_X10_layOrder {d : Nat} {a1 : Int32} {M : fm_M} {x : Unit × fm_M} {Q : Option Value → fm_M → Prop} (h : F_X10_layOrder a1 M = some x) (hq : Q none x.2) : fm_ct (d + 11) mX10_layOrder [.ref 76, .int a1] M Q := by
  rw [F_X10_layOrder] at h
  show fm_mw (d + 11) mX10_layOrder Q 0 [some (.ref 76), some (.int a1), none, none] [] M
  refine fl_aload0 (pc := 0) dX10_layOrder_0 ?_
  refine fm_iconstv (pc := 1) 0 (by decide) dX10_layOrder_1 ?_
  refine fm_puti (pc := 2) lp_10_460 sh_76 rfl dX10_layOrder_2 ?_
  obtain ⟨M1, eM1, h⟩ := fm_ltp h
  refine fm_cgm eM1 ?_
  refine fm_iconstv (pc := 5) 0 (by decide) dX10_layOrder_5 ?_
  refine fl_istore2 (pc := 6) rfl (by decide) dX10_layOrder_6 ?_
  obtain ⟨w7, M8, ew7, h⟩ := fm_bdp h
  refine lp_X10_layOrder_7  ?_ _ _ _ ew7
  intro w79 M89 q9
  cases q9
  refine fl_aload0 (pc := 64) dX10_layOrder_64 ?_
  refine fm_iconstv (pc := 65) (-1) (by decide) dX10_layOrder_65 ?_
  refine fm_puti (pc := 66) lp_10_463 sh_76 rfl dX10_layOrder_66 ?_
  obtain ⟨M9, eM9, h⟩ := fm_ltp h
  refine fm_cgm eM9 ?_
  refine fm_iconstv (pc := 69) 0 (by decide) dX10_layOrder_69 ?_
  refine fl_istore2 (pc := 70) rfl (by decide) dX10_layOrder_70 ?_
  obtain ⟨w33, M34, ew33, h⟩ := fm_bdp h
  refine lp_X10_layOrder_71  ?_ _ _ _ ew33
  intro w339 M349 q9
  cases q9
  refine fm_vret (pc := 188) rfl ?_ dX10_layOrder_188
  cases h
  exact hq
/-! X10_order -/
def F_X10_order (a1 : Int32) (a2 : Int32) (M : fm_M) : Option (Int32 × fm_M) :=
    fm_lt (fm_up M 76 0 0) (fun M1 =>
    if a1 < 1 then (
      some ((-1), M1)
    ) else (
      if 4 < a1 then (
        some ((-1), M1)
      ) else (
        if a2 < 0 then (
          some ((-1), M1)
        ) else (
          if a2 ≤ 4 then (
            fm_bd (F_X10_layOrder a1 M1) (fun v2 M3 =>
            if a2 = 4 then (
              some ((M3.1 76 53), M3)
            ) else (
              if (M3.1 76 52) ≤ a2 then (
                some ((-2), M3)
              ) else (
                fm_bd (F_X10_power a1 (((M3.1 76 52) - 1) - a2) M3) (fun v4 M5 =>
                fm_gd (fm_nz v4) (
                fm_gd (fm_nz a1) (
                some ((i_rem ((M3.1 76 54) / v4) a1), M5))))
              )
            ))
          ) else (
            some ((-1), M1)
          )
        )
      )
    ))
theorem sp_X10_order {d : Nat} {a1 : Int32} {a2 : Int32} {M : fm_M} {x : Int32 × fm_M} {Q : Option Value → fm_M → Prop} (h : F_X10_order a1 a2 M = some x) (hq : Q (some (.int x.1)) x.2) : fm_ct (d + 12) mX10_order [.ref 76, .int a1, .int a2] M Q := by
  rw [F_X10_order] at h
  show fm_mw (d + 12) mX10_order Q 0 [some (.ref 76), some (.int a1), some (.int a2)] [] M
  refine fl_aload0 (pc := 0) dX10_order_0 ?_
  refine fm_iconstv (pc := 1) 0 (by decide) dX10_order_1 ?_
  refine fm_puti (pc := 2) lp_10_130 sh_76 rfl dX10_order_2 ?_
  obtain ⟨M1, eM1, h⟩ := fm_ltp h
  refine fm_cgm eM1 ?_
  refine fl_iload1 (pc := 5) dX10_order_5 ?_
  refine fm_iconstv (pc := 6) 1 (by decide) dX10_order_6 ?_
  refine fm_icmp_lt (pc := 7) 24 (by decide) dX10_order_7 (fun c7 => ?_) (fun c7 => ?_)
  · replace h := fm_itp c7 h
    refine fm_iconstv (pc := 24) (-1) (by decide) dX10_order_24 ?_
    refine fm_iret (pc := 25) rfl ?_ dX10_order_25
    cases h
    exact hq
  · replace h := fm_itn c7 h
    refine fl_iload1 (pc := 10) dX10_order_10 ?_
    refine fm_iconstv (pc := 11) 4 (by decide) dX10_order_11 ?_
    refine fm_icmp_gt (pc := 12) 24 (by decide) dX10_order_12 (fun c12 => ?_) (fun c12 => ?_)
    · replace h := fm_itp c12 h
      refine fm_iconstv (pc := 24) (-1) (by decide) dX10_order_24 ?_
      refine fm_iret (pc := 25) rfl ?_ dX10_order_25
      cases h
      exact hq
    · replace h := fm_itn c12 h
      refine fl_iload2 (pc := 15) dX10_order_15 ?_
      refine fm_if_lt (pc := 16) 24 (by decide) dX10_order_16 (fun c16 => ?_) (fun c16 => ?_)
      · replace h := fm_itp c16 h
        refine fm_iconstv (pc := 24) (-1) (by decide) dX10_order_24 ?_
        refine fm_iret (pc := 25) rfl ?_ dX10_order_25
        cases h
        exact hq
      · replace h := fm_itn c16 h
        refine fl_iload2 (pc := 19) dX10_order_19 ?_
        refine fm_iconstv (pc := 20) 4 (by decide) dX10_order_20 ?_
        refine fm_icmp_le (pc := 21) 26 (by decide) dX10_order_21 (fun c21 => ?_) (fun c21 => ?_)
        · replace h := fm_itp c21 h
          refine fl_aload0 (pc := 26) dX10_order_26 ?_
          refine fl_iload1 (pc := 27) dX10_order_27 ?_
          obtain ⟨v2, M3, ev2, h⟩ := fm_bdp h
          refine fm_callV (pc := 28) mX10_layOrder [_] _ rfl cvX10_layOrder ml_10_472 sh_76 rfl rfl (Nat.le_of_ble_eq_true rfl) (Nat.le_of_ble_eq_true rfl) dX10_order_28 ?_
          refine sp_X10_layOrder ev2 ?_
          refine fm_ret0 ?_
          refine fl_iload2 (pc := 31) dX10_order_31 ?_
          refine fm_iconstv (pc := 32) 4 (by decide) dX10_order_32 ?_
          refine fm_icmp_ne (pc := 33) 41 (by decide) dX10_order_33 (fun c33 => ?_) (fun c33 => ?_)
          · replace h := fm_itn c33 h
            refine fl_iload2 (pc := 41) dX10_order_41 ?_
            refine fl_aload0 (pc := 42) dX10_order_42 ?_
            refine fm_geti (pc := 43) lk_10_460 sh_76 rfl dX10_order_43 ?_
            refine fm_icmp_ge (pc := 46) 71 (by decide) dX10_order_46 (fun c46 => ?_) (fun c46 => ?_)
            · replace h := fm_itp c46 h
              refine fm_bipushv (pc := 71) (-2) (by decide) dX10_order_71 ?_
              refine fm_iret (pc := 73) rfl ?_ dX10_order_73
              cases h
              exact hq
            · replace h := fm_itn c46 h
              refine fl_aload0 (pc := 49) dX10_order_49 ?_
              refine fm_geti (pc := 50) lk_10_469 sh_76 rfl dX10_order_50 ?_
              refine fl_iload1 (pc := 53) dX10_order_53 ?_
              refine fl_aload0 (pc := 54) dX10_order_54 ?_
              refine fm_geti (pc := 55) lk_10_460 sh_76 rfl dX10_order_55 ?_
              refine fm_iconstv (pc := 58) 1 (by decide) dX10_order_58 ?_
              refine fm_isub (pc := 59) dX10_order_59 ?_
              refine fl_iload2 (pc := 60) dX10_order_60 ?_
              refine fm_isub (pc := 61) dX10_order_61 ?_
              obtain ⟨v4, M5, ev4, h⟩ := fm_bdp h
              refine fm_callS (pc := 62) mX10_power [_, _] _ rfl csX10_power ml_10_466 rfl (Nat.le_of_ble_eq_true rfl) (Nat.le_of_ble_eq_true rfl) dX10_order_62 ?_
              refine sp_X10_power ev4 ?_
              refine fm_ret1 ?_
              obtain ⟨g6, h⟩ := fm_gdp h
              refine fm_idiv (pc := 65) (fm_nz_ok g6) dX10_order_65 ?_
              refine fl_iload1 (pc := 66) dX10_order_66 ?_
              obtain ⟨g7, h⟩ := fm_gdp h
              refine fq_irem (pc := 67) (fm_nz_ok g7) dX10_order_67 ?_
              refine fm_goto (pc := 68) 73 (by decide) dX10_order_68 ?_
              refine fm_iret (pc := 73) rfl ?_ dX10_order_73
              cases h
              exact hq
          · replace h := fm_itp c33 h
            refine fl_aload0 (pc := 36) dX10_order_36 ?_
            refine fm_geti (pc := 37) lk_10_463 sh_76 rfl dX10_order_37 ?_
            refine fm_iret (pc := 40) rfl ?_ dX10_order_40
            cases h
            exact hq
        · replace h := fm_itn c21 h
          refine fm_iconstv (pc := 24) (-1) (by decide) dX10_order_24 ?_
          refine fm_iret (pc := 25) rfl ?_ dX10_order_25
          cases h
          exact hq
/-! X10_room -/
def G_X10_room_34 : Nat → Int32 → Int32 → Int32 → Int32 → fm_M → Option (((Int32) ⊕ Int32) × fm_M)
  | 0, _, _, _, _, _ => none
  | n + 1, l1, l2, l3, l4, M =>
    if 2 ≤ l4 then (
      some (.inl l4, M)
    ) else (
      fm_gd (fm_inb l1 184) (
      fm_lt (((M.1 98 (Int32.toNatClampNeg l1)) + (l4 * l3))) (fun x7 =>
      fm_bd (F_X10_isNote x7 M) (fun v8 M9 =>
      if v8 = 0 then (
        G_X10_room_34 n l1 l2 l3 (l4 + 2) M9
      ) else (
        fm_bd (F_X10_beatsOf 0 x7 l2 M9) (fun v10 M11 =>
        fm_gd (fm_inb l1 16) (
        if (M11.1 81 (Int32.toNatClampNeg l1)) < v10 then (
          G_X10_room_34 n l1 l2 l3 (l4 + 2) M11
        ) else (
          some (.inr l3, M11)
        )))
      ))))
    )
def G_X10_room_24 : Nat → Int32 → Int32 → Int32 → fm_M → Option (((Int32) ⊕ Int32) × fm_M)
  | 0, _, _, _, _ => none
  | n + 1, l1, l2, l3, M =>
    if 900 ≤ l3 then (
      some (.inl l3, M)
    ) else (
      fm_bs (G_X10_room_34 fm_fuel l1 l2 l3 (-1) M) (fun w13 M14 =>
        G_X10_room_24 n l1 l2 (l3 + 1) M14) (fun r15 M => some (.inr r15, M))
    )
def F_X10_room (a1 : Int32) (a2 : Int32) (M : fm_M) : Option (Int32 × fm_M) :=
    fm_lt (fm_up M 76 0 0) (fun M1 =>
    fm_bd (F_X10_isFork a1 M1) (fun v2 M3 =>
    if v2 = 0 then (
      some ((-1), M3)
    ) else (
      fm_bd (F_X10_isNote a2 M3) (fun v4 M5 =>
      if v4 = 0 then (
        some ((-1), M5)
      ) else (
        fm_bs (G_X10_room_24 fm_fuel a1 a2 0 M5) (fun w16 M17 =>
          some ((-2), M17)) (fun r18 M => some (r18, M))
      ))
    )))
theorem lp_X10_room_34 {d : Nat} {Q : Option Value → fm_M → Prop} {l1 : Int32} {l2 : Int32} {l3 : Int32}   {x : ((Int32) ⊕ Int32) × fm_M} (k1 : ∀ (v : Int32) (M2 : fm_M), x = (.inl v, M2) → fm_mw (d + 4) mX10_room Q 86 [some (.ref 76), some (.int l1), some (.int l2), some (.int l3), some (.int v), none] [] M2) (k2 : ∀ (r : Int32) (M2 : fm_M), x = (.inr r, M2) → Q (some (.int r)) M2) : ∀ (n : Nat) (l4 : Int32) (M : fm_M), G_X10_room_34 n l1 l2 l3 l4 M = some x → fm_mw (d + 4) mX10_room Q 34 [some (.ref 76), some (.int l1), some (.int l2), some (.int l3), some (.int l4), none] [] M := by
  intro n
  induction n with
  | zero => intro l4 M h; simp [G_X10_room_34] at h
  | succ n ih =>
    intro l4 M h
    rw [G_X10_room_34] at h
    refine fl_iload4 (pc := 34) dX10_room_34 ?_
    refine fm_iconstv (pc := 36) 2 (by decide) dX10_room_36 ?_
    refine fm_icmp_ge (pc := 37) 86 (by decide) dX10_room_37 (fun c37 => ?_) (fun c37 => ?_)
    · replace h := fm_itp c37 h
      refine fm_fgt [some (.ref 76), some (.int l1), some (.int l2), some (.int l3), some (.int l4), none] (by simp [fm_sub]) ?_
      cases h
      exact k1 _ _ rfl
    · replace h := fm_itn c37 h
      refine fl_aload0 (pc := 40) dX10_room_40 ?_
      refine fm_getr (pc := 41) lk_10_78 sh_76 rfl dX10_room_41 ?_
      refine fl_iload1 (pc := 44) dX10_room_44 ?_
      obtain ⟨g6, h⟩ := fm_gdp h
      refine fm_iald (pc := 45) sh_98 (fm_inb_ok g6) dX10_room_45 ?_
      refine fl_iload4 (pc := 46) dX10_room_46 ?_
      refine fl_iload3 (pc := 48) dX10_room_48 ?_
      refine fm_imul (pc := 49) dX10_room_49 ?_
      refine fm_iadd (pc := 50) dX10_room_50 ?_
      obtain ⟨x7, ex7, h⟩ := fm_ltp h
      refine fm_cgi ex7 ?_
      refine fl_istore5 (pc := 51) rfl (by decide) dX10_room_51 ?_
      refine fl_iload5 (pc := 53) dX10_room_53 ?_
      obtain ⟨v8, M9, ev8, h⟩ := fm_bdp h
      refine fm_callS (pc := 55) mX10_isNote [_] _ rfl csX10_isNote ml_10_407 rfl (Nat.le_of_ble_eq_true rfl) (Nat.le_of_ble_eq_true rfl) dX10_room_55 ?_
      refine sp_X10_isNote ev8 ?_
      refine fm_ret1 ?_
      refine fm_if_eq (pc := 58) 80 (by decide) dX10_room_58 (fun c58 => ?_) (fun c58 => ?_)
      · replace h := fm_itp c58 h
        refine fl_iinc4 (pc := 80) rfl 2 (by decide) (by decide) dX10_room_80 ?_
        refine fm_goto (pc := 83) 34 (by decide) dX10_room_83 ?_
        refine fm_fgt [some (.ref 76), some (.int l1), some (.int l2), some (.int l3), some (.int (l4 + 2)), none] (by simp [fm_sub]) ?_
        exact ih _ _ h
      · replace h := fm_itn c58 h
        refine fl_aload0 (pc := 61) dX10_room_61 ?_
        refine fm_iconstv (pc := 62) 0 (by decide) dX10_room_62 ?_
        refine fl_iload5 (pc := 63) dX10_room_63 ?_
        refine fl_iload2 (pc := 65) dX10_room_65 ?_
        obtain ⟨v10, M11, ev10, h⟩ := fm_bdp h
        refine fm_callV (pc := 66) mX10_beatsOf [_, _, _] _ rfl cvX10_beatsOf ml_10_342 sh_76 rfl rfl (Nat.le_of_ble_eq_true rfl) (Nat.le_of_ble_eq_true rfl) dX10_room_66 ?_
        refine sp_X10_beatsOf ev10 ?_
        refine fm_ret1 ?_
        refine fl_aload0 (pc := 69) dX10_room_69 ?_
        refine fm_getr (pc := 70) lk_10_22 sh_76 rfl dX10_room_70 ?_
        refine fl_iload1 (pc := 73) dX10_room_73 ?_
        obtain ⟨g12, h⟩ := fm_gdp h
        refine fm_iald (pc := 74) sh_81 (fm_inb_ok g12) dX10_room_74 ?_
        refine fm_icmp_gt (pc := 75) 80 (by decide) dX10_room_75 (fun c75 => ?_) (fun c75 => ?_)
        · replace h := fm_itp c75 h
          refine fl_iinc4 (pc := 80) rfl 2 (by decide) (by decide) dX10_room_80 ?_
          refine fm_goto (pc := 83) 34 (by decide) dX10_room_83 ?_
          refine fm_fgt [some (.ref 76), some (.int l1), some (.int l2), some (.int l3), some (.int (l4 + 2)), none] (by simp [fm_sub]) ?_
          exact ih _ _ h
        · replace h := fm_itn c75 h
          refine fl_iload3 (pc := 78) dX10_room_78 ?_
          refine fm_iret (pc := 79) rfl ?_ dX10_room_79
          cases h
          exact k2 _ _ rfl
theorem lp_X10_room_24 {d : Nat} {Q : Option Value → fm_M → Prop} {l1 : Int32} {l2 : Int32}   {x : ((Int32) ⊕ Int32) × fm_M} (k1 : ∀ (v : Int32) (M2 : fm_M), x = (.inl v, M2) → fm_mw (d + 4) mX10_room Q 92 [some (.ref 76), some (.int l1), some (.int l2), some (.int v), none, none] [] M2) (k2 : ∀ (r : Int32) (M2 : fm_M), x = (.inr r, M2) → Q (some (.int r)) M2) : ∀ (n : Nat) (l3 : Int32) (M : fm_M), G_X10_room_24 n l1 l2 l3 M = some x → fm_mw (d + 4) mX10_room Q 24 [some (.ref 76), some (.int l1), some (.int l2), some (.int l3), none, none] [] M := by
  intro n
  induction n with
  | zero => intro l3 M h; simp [G_X10_room_24] at h
  | succ n ih =>
    intro l3 M h
    rw [G_X10_room_24] at h
    refine fl_iload3 (pc := 24) dX10_room_24 ?_
    refine fm_sipushv (pc := 25) 900 (by decide) dX10_room_25 ?_
    refine fm_icmp_ge (pc := 28) 92 (by decide) dX10_room_28 (fun c28 => ?_) (fun c28 => ?_)
    · replace h := fm_itp c28 h
      refine fm_fgt [some (.ref 76), some (.int l1), some (.int l2), some (.int l3), none, none] (by simp [fm_sub]) ?_
      cases h
      exact k1 _ _ rfl
    · replace h := fm_itn c28 h
      refine fm_iconstv (pc := 31) (-1) (by decide) dX10_room_31 ?_
      refine fl_istore4 (pc := 32) rfl (by decide) dX10_room_32 ?_
      obtain ⟨w9, M14, ew13, hl9, hr9⟩ := fm_bsp h
      refine lp_X10_room_34  ?_ ?_ _ _ _ ew13
      · intro w13 M9 q9
        cases q9
        replace h := hl9 _ rfl
        refine fl_iinc3 (pc := 86) rfl 1 (by decide) (by decide) dX10_room_86 ?_
        refine fm_goto (pc := 89) 24 (by decide) dX10_room_89 ?_
        refine fm_fgt [some (.ref 76), some (.int l1), some (.int l2), some (.int (l3 + 1)), none, none] (by simp [fm_sub]) ?_
        exact ih _ _ h
      · intro r9 M9 q9
        cases q9
        replace h := hr9 _ rfl
        cases h
        exact k2 _ _ rfl
theorem sp_X10_room {d : Nat} {a1 : Int32} {a2 : Int32} {M : fm_M} {x : Int32 × fm_M} {Q : Option Value → fm_M → Prop} (h : F_X10_room a1 a2 M = some x) (hq : Q (some (.int x.1)) x.2) : fm_ct (d + 4) mX10_room [.ref 76, .int a1, .int a2] M Q := by
  rw [F_X10_room] at h
  show fm_mw (d + 4) mX10_room Q 0 [some (.ref 76), some (.int a1), some (.int a2), none, none, none] [] M
  refine fl_aload0 (pc := 0) dX10_room_0 ?_
  refine fm_iconstv (pc := 1) 0 (by decide) dX10_room_1 ?_
  refine fm_puti (pc := 2) lp_10_130 sh_76 rfl dX10_room_2 ?_
  obtain ⟨M1, eM1, h⟩ := fm_ltp h
  refine fm_cgm eM1 ?_
  refine fl_aload0 (pc := 5) dX10_room_5 ?_
  refine fl_iload1 (pc := 6) dX10_room_6 ?_
  obtain ⟨v2, M3, ev2, h⟩ := fm_bdp h
  refine fm_callV (pc := 7) mX10_isFork [_] _ rfl cvX10_isFork ml_10_404 sh_76 rfl rfl (Nat.le_of_ble_eq_true rfl) (Nat.le_of_ble_eq_true rfl) dX10_room_7 ?_
  refine sp_X10_isFork ev2 ?_
  refine fm_ret1 ?_
  refine fm_if_eq (pc := 10) 20 (by decide) dX10_room_10 (fun c10 => ?_) (fun c10 => ?_)
  · replace h := fm_itp c10 h
    refine fm_iconstv (pc := 20) (-1) (by decide) dX10_room_20 ?_
    refine fm_iret (pc := 21) rfl ?_ dX10_room_21
    cases h
    exact hq
  · replace h := fm_itn c10 h
    refine fl_iload2 (pc := 13) dX10_room_13 ?_
    obtain ⟨v4, M5, ev4, h⟩ := fm_bdp h
    refine fm_callS (pc := 14) mX10_isNote [_] _ rfl csX10_isNote ml_10_407 rfl (Nat.le_of_ble_eq_true rfl) (Nat.le_of_ble_eq_true rfl) dX10_room_14 ?_
    refine sp_X10_isNote ev4 ?_
    refine fm_ret1 ?_
    refine fm_if_ne (pc := 17) 22 (by decide) dX10_room_17 (fun c17 => ?_) (fun c17 => ?_)
    · replace h := fm_itn c17 h
      refine fm_iconstv (pc := 22) 0 (by decide) dX10_room_22 ?_
      refine fl_istore3 (pc := 23) rfl (by decide) dX10_room_23 ?_
      obtain ⟨w9, M17, ew16, hl9, hr9⟩ := fm_bsp h
      refine lp_X10_room_24  ?_ ?_ _ _ _ ew16
      · intro w16 M9 q9
        cases q9
        replace h := hl9 _ rfl
        refine fm_bipushv (pc := 92) (-2) (by decide) dX10_room_92 ?_
        refine fm_iret (pc := 94) rfl ?_ dX10_room_94
        cases h
        exact hq
      · intro r9 M9 q9
        cases q9
        replace h := hr9 _ rfl
        cases h
        exact hq
    · replace h := fm_itp c17 h
      refine fm_iconstv (pc := 20) (-1) (by decide) dX10_room_20 ?_
      refine fm_iret (pc := 21) rfl ?_ dX10_room_21
      cases h
      exact hq
/-! X10_minute -/
def F_X10_minute (a1 : Int32) (a2 : Int32) (M : fm_M) : Option (Int32 × fm_M) :=
    fm_lt (fm_up M 76 0 0) (fun M1 =>
    fm_bd (F_X10_isMotion a1 M1) (fun v2 M3 =>
    if v2 = 0 then (
      some ((-1), M3)
    ) else (
      if (M3.1 76 55) = 24 then (
        some ((-1), M3)
      ) else (
        fm_gd (fm_inb (M3.1 76 55) 24) (
        fm_lt (fm_up M3 106 (Int32.toNatClampNeg (M3.1 76 55)) a1) (fun M5 =>
        fm_gd (fm_inb (M5.1 76 55) 24) (
        fm_lt (fm_up M5 107 (Int32.toNatClampNeg (M5.1 76 55)) (vp_nar .boolean a2)) (fun M7 =>
        fm_gd (fm_inb (M7.1 76 55) 24) (
        fm_lt (fm_up M7 108 (Int32.toNatClampNeg (M7.1 76 55)) (-1)) (fun M9 =>
        fm_lt (fm_up M9 76 55 ((M9.1 76 55) + 1)) (fun M10 =>
        some (((M10.1 76 55) - 1), M10))))))))
      )
    )))
theorem sp_X10_minute {d : Nat} {a1 : Int32} {a2 : Int32} {M : fm_M} {x : Int32 × fm_M} {Q : Option Value → fm_M → Prop} (h : F_X10_minute a1 a2 M = some x) (hq : Q (some (.int x.1)) x.2) : fm_ct (d + 1) mX10_minute [.ref 76, .int a1, .int a2] M Q := by
  rw [F_X10_minute] at h
  show fm_mw (d + 1) mX10_minute Q 0 [some (.ref 76), some (.int a1), some (.int a2)] [] M
  refine fl_aload0 (pc := 0) dX10_minute_0 ?_
  refine fm_iconstv (pc := 1) 0 (by decide) dX10_minute_1 ?_
  refine fm_puti (pc := 2) lp_10_130 sh_76 rfl dX10_minute_2 ?_
  obtain ⟨M1, eM1, h⟩ := fm_ltp h
  refine fm_cgm eM1 ?_
  refine fl_aload0 (pc := 5) dX10_minute_5 ?_
  refine fl_iload1 (pc := 6) dX10_minute_6 ?_
  obtain ⟨v2, M3, ev2, h⟩ := fm_bdp h
  refine fm_callV (pc := 7) mX10_isMotion [_] _ rfl cvX10_isMotion ml_10_401 sh_76 rfl rfl (Nat.le_of_ble_eq_true rfl) (Nat.le_of_ble_eq_true rfl) dX10_minute_7 ?_
  refine sp_X10_isMotion ev2 ?_
  refine fm_ret1 ?_
  refine fm_if_eq (pc := 10) 22 (by decide) dX10_minute_10 (fun c10 => ?_) (fun c10 => ?_)
  · replace h := fm_itp c10 h
    refine fm_iconstv (pc := 22) (-1) (by decide) dX10_minute_22 ?_
    refine fm_iret (pc := 23) rfl ?_ dX10_minute_23
    cases h
    exact hq
  · replace h := fm_itn c10 h
    refine fl_aload0 (pc := 13) dX10_minute_13 ?_
    refine fm_geti (pc := 14) lk_10_283 sh_76 rfl dX10_minute_14 ?_
    refine fm_bipushv (pc := 17) 24 (by decide) dX10_minute_17 ?_
    refine fm_icmp_ne (pc := 19) 24 (by decide) dX10_minute_19 (fun c19 => ?_) (fun c19 => ?_)
    · replace h := fm_itn c19 h
      refine fl_aload0 (pc := 24) dX10_minute_24 ?_
      refine fm_getr (pc := 25) lk_10_114 sh_76 rfl dX10_minute_25 ?_
      refine fl_aload0 (pc := 28) dX10_minute_28 ?_
      refine fm_geti (pc := 29) lk_10_283 sh_76 rfl dX10_minute_29 ?_
      refine fl_iload1 (pc := 32) dX10_minute_32 ?_
      obtain ⟨g4, h⟩ := fm_gdp h
      refine fm_iast (pc := 33) sh_106 (fm_inb_ok g4) dX10_minute_33 ?_
      obtain ⟨M5, eM5, h⟩ := fm_ltp h
      refine fm_cgm eM5 ?_
      refine fl_aload0 (pc := 34) dX10_minute_34 ?_
      refine fm_getr (pc := 35) lk_10_117 sh_76 rfl dX10_minute_35 ?_
      refine fl_aload0 (pc := 38) dX10_minute_38 ?_
      refine fm_geti (pc := 39) lk_10_283 sh_76 rfl dX10_minute_39 ?_
      refine fl_iload2 (pc := 42) dX10_minute_42 ?_
      obtain ⟨g6, h⟩ := fm_gdp h
      refine fm_zast (pc := 43) sh_107 (fm_inb_ok g6) dX10_minute_43 ?_
      obtain ⟨M7, eM7, h⟩ := fm_ltp h
      refine fm_cgm eM7 ?_
      refine fl_aload0 (pc := 44) dX10_minute_44 ?_
      refine fm_getr (pc := 45) lk_10_121 sh_76 rfl dX10_minute_45 ?_
      refine fl_aload0 (pc := 48) dX10_minute_48 ?_
      refine fm_geti (pc := 49) lk_10_283 sh_76 rfl dX10_minute_49 ?_
      refine fm_iconstv (pc := 52) (-1) (by decide) dX10_minute_52 ?_
      obtain ⟨g8, h⟩ := fm_gdp h
      refine fm_iast (pc := 53) sh_108 (fm_inb_ok g8) dX10_minute_53 ?_
      obtain ⟨M9, eM9, h⟩ := fm_ltp h
      refine fm_cgm eM9 ?_
      refine fl_aload0 (pc := 54) dX10_minute_54 ?_
      refine fm_dup (pc := 55) rfl dX10_minute_55 ?_
      refine fm_geti (pc := 56) lk_10_283 sh_76 rfl dX10_minute_56 ?_
      refine fm_iconstv (pc := 59) 1 (by decide) dX10_minute_59 ?_
      refine fm_iadd (pc := 60) dX10_minute_60 ?_
      refine fm_puti (pc := 61) lp_10_283 sh_76 rfl dX10_minute_61 ?_
      obtain ⟨M10, eM10, h⟩ := fm_ltp h
      refine fm_cgm eM10 ?_
      refine fl_aload0 (pc := 64) dX10_minute_64 ?_
      refine fm_geti (pc := 65) lk_10_283 sh_76 rfl dX10_minute_65 ?_
      refine fm_iconstv (pc := 68) 1 (by decide) dX10_minute_68 ?_
      refine fm_isub (pc := 69) dX10_minute_69 ?_
      refine fm_iret (pc := 70) rfl ?_ dX10_minute_70
      cases h
      exact hq
    · replace h := fm_itp c19 h
      refine fm_iconstv (pc := 22) (-1) (by decide) dX10_minute_22 ?_
      refine fm_iret (pc := 23) rfl ?_ dX10_minute_23
      cases h
      exact hq
/-! X10_out -/
def F_X10_out (a1 : Int32) (M : fm_M) : Option (Int32 × fm_M) :=
    fm_lt (fm_up M 76 0 0) (fun M1 =>
    if a1 < 0 then (
      some ((-1), M1)
    ) else (
      if (M1.1 76 55) ≤ a1 then (
        some ((-1), M1)
      ) else (
        if (M1.1 76 55) = 24 then (
          some ((-1), M1)
        ) else (
          fm_gd (fm_inb (M1.1 76 55) 24) (
          fm_lt (fm_up M1 108 (Int32.toNatClampNeg (M1.1 76 55)) a1) (fun M3 =>
          fm_lt (fm_up M3 76 55 ((M3.1 76 55) + 1)) (fun M4 =>
          some (((M4.1 76 55) - 1), M4))))
        )
      )
    ))
theorem sp_X10_out {d : Nat} {a1 : Int32} {M : fm_M} {x : Int32 × fm_M} {Q : Option Value → fm_M → Prop} (h : F_X10_out a1 M = some x) (hq : Q (some (.int x.1)) x.2) : fm_ct d mX10_out [.ref 76, .int a1] M Q := by
  rw [F_X10_out] at h
  show fm_mw d mX10_out Q 0 [some (.ref 76), some (.int a1)] [] M
  refine fl_aload0 (pc := 0) dX10_out_0 ?_
  refine fm_iconstv (pc := 1) 0 (by decide) dX10_out_1 ?_
  refine fm_puti (pc := 2) lp_10_130 sh_76 rfl dX10_out_2 ?_
  obtain ⟨M1, eM1, h⟩ := fm_ltp h
  refine fm_cgm eM1 ?_
  refine fl_iload1 (pc := 5) dX10_out_5 ?_
  refine fm_if_lt (pc := 6) 26 (by decide) dX10_out_6 (fun c6 => ?_) (fun c6 => ?_)
  · replace h := fm_itp c6 h
    refine fm_iconstv (pc := 26) (-1) (by decide) dX10_out_26 ?_
    refine fm_iret (pc := 27) rfl ?_ dX10_out_27
    cases h
    exact hq
  · replace h := fm_itn c6 h
    refine fl_iload1 (pc := 9) dX10_out_9 ?_
    refine fl_aload0 (pc := 10) dX10_out_10 ?_
    refine fm_geti (pc := 11) lk_10_283 sh_76 rfl dX10_out_11 ?_
    refine fm_icmp_ge (pc := 14) 26 (by decide) dX10_out_14 (fun c14 => ?_) (fun c14 => ?_)
    · replace h := fm_itp c14 h
      refine fm_iconstv (pc := 26) (-1) (by decide) dX10_out_26 ?_
      refine fm_iret (pc := 27) rfl ?_ dX10_out_27
      cases h
      exact hq
    · replace h := fm_itn c14 h
      refine fl_aload0 (pc := 17) dX10_out_17 ?_
      refine fm_geti (pc := 18) lk_10_283 sh_76 rfl dX10_out_18 ?_
      refine fm_bipushv (pc := 21) 24 (by decide) dX10_out_21 ?_
      refine fm_icmp_ne (pc := 23) 28 (by decide) dX10_out_23 (fun c23 => ?_) (fun c23 => ?_)
      · replace h := fm_itn c23 h
        refine fl_aload0 (pc := 28) dX10_out_28 ?_
        refine fm_getr (pc := 29) lk_10_121 sh_76 rfl dX10_out_29 ?_
        refine fl_aload0 (pc := 32) dX10_out_32 ?_
        refine fm_geti (pc := 33) lk_10_283 sh_76 rfl dX10_out_33 ?_
        refine fl_iload1 (pc := 36) dX10_out_36 ?_
        obtain ⟨g2, h⟩ := fm_gdp h
        refine fm_iast (pc := 37) sh_108 (fm_inb_ok g2) dX10_out_37 ?_
        obtain ⟨M3, eM3, h⟩ := fm_ltp h
        refine fm_cgm eM3 ?_
        refine fl_aload0 (pc := 38) dX10_out_38 ?_
        refine fm_dup (pc := 39) rfl dX10_out_39 ?_
        refine fm_geti (pc := 40) lk_10_283 sh_76 rfl dX10_out_40 ?_
        refine fm_iconstv (pc := 43) 1 (by decide) dX10_out_43 ?_
        refine fm_iadd (pc := 44) dX10_out_44 ?_
        refine fm_puti (pc := 45) lp_10_283 sh_76 rfl dX10_out_45 ?_
        obtain ⟨M4, eM4, h⟩ := fm_ltp h
        refine fm_cgm eM4 ?_
        refine fl_aload0 (pc := 48) dX10_out_48 ?_
        refine fm_geti (pc := 49) lk_10_283 sh_76 rfl dX10_out_49 ?_
        refine fm_iconstv (pc := 52) 1 (by decide) dX10_out_52 ?_
        refine fm_isub (pc := 53) dX10_out_53 ?_
        refine fm_iret (pc := 54) rfl ?_ dX10_out_54
        cases h
        exact hq
      · replace h := fm_itp c23 h
        refine fm_iconstv (pc := 26) (-1) (by decide) dX10_out_26 ?_
        refine fm_iret (pc := 27) rfl ?_ dX10_out_27
        cases h
        exact hq
/-! X10_known -/
def F_X10_known (a1 : Int32) (M : fm_M) : Option (Int32 × fm_M) :=
    fm_lt (fm_up M 76 0 0) (fun M1 =>
    if a1 < (-1) then (
      some (0, M1)
    ) else (
      if a1 ≤ (M1.1 76 55) then (
        fm_lt (fm_up M1 76 56 a1) (fun M2 =>
        some (1, M2))
      ) else (
        some (0, M1)
      )
    ))
theorem sp_X10_known {d : Nat} {a1 : Int32} {M : fm_M} {x : Int32 × fm_M} {Q : Option Value → fm_M → Prop} (h : F_X10_known a1 M = some x) (hq : Q (some (.int x.1)) x.2) : fm_ct d mX10_known [.ref 76, .int a1] M Q := by
  rw [F_X10_known] at h
  show fm_mw d mX10_known Q 0 [some (.ref 76), some (.int a1)] [] M
  refine fl_aload0 (pc := 0) dX10_known_0 ?_
  refine fm_iconstv (pc := 1) 0 (by decide) dX10_known_1 ?_
  refine fm_puti (pc := 2) lp_10_130 sh_76 rfl dX10_known_2 ?_
  obtain ⟨M1, eM1, h⟩ := fm_ltp h
  refine fm_cgm eM1 ?_
  refine fl_iload1 (pc := 5) dX10_known_5 ?_
  refine fm_iconstv (pc := 6) (-1) (by decide) dX10_known_6 ?_
  refine fm_icmp_lt (pc := 7) 18 (by decide) dX10_known_7 (fun c7 => ?_) (fun c7 => ?_)
  · replace h := fm_itp c7 h
    refine fm_iconstv (pc := 18) 0 (by decide) dX10_known_18 ?_
    refine fm_zret (pc := 19) rfl (by decide) ?_ dX10_known_19
    cases h
    exact hq
  · replace h := fm_itn c7 h
    refine fl_iload1 (pc := 10) dX10_known_10 ?_
    refine fl_aload0 (pc := 11) dX10_known_11 ?_
    refine fm_geti (pc := 12) lk_10_283 sh_76 rfl dX10_known_12 ?_
    refine fm_icmp_le (pc := 15) 20 (by decide) dX10_known_15 (fun c15 => ?_) (fun c15 => ?_)
    · replace h := fm_itp c15 h
      refine fl_aload0 (pc := 20) dX10_known_20 ?_
      refine fl_iload1 (pc := 21) dX10_known_21 ?_
      refine fm_puti (pc := 22) lp_10_111 sh_76 rfl dX10_known_22 ?_
      obtain ⟨M2, eM2, h⟩ := fm_ltp h
      refine fm_cgm eM2 ?_
      refine fm_iconstv (pc := 25) 1 (by decide) dX10_known_25 ?_
      refine fm_zret (pc := 26) rfl (by decide) ?_ dX10_known_26
      cases h
      exact hq
    · replace h := fm_itn c15 h
      refine fm_iconstv (pc := 18) 0 (by decide) dX10_known_18 ?_
      refine fm_zret (pc := 19) rfl (by decide) ?_ dX10_known_19
      cases h
      exact hq
/-! X10_knownMany -/
def F_X10_knownMany  (M : fm_M) : Option (Int32 × fm_M) :=
    if (M.1 76 56) = (-1) then (
      some ((M.1 76 55), M)
    ) else (
      some ((M.1 76 56), M)
    )
theorem sp_X10_knownMany {d : Nat}  {M : fm_M} {x : Int32 × fm_M} {Q : Option Value → fm_M → Prop} (h : F_X10_knownMany  M = some x) (hq : Q (some (.int x.1)) x.2) : fm_ct d mX10_knownMany [.ref 76] M Q := by
  rw [F_X10_knownMany] at h
  show fm_mw d mX10_knownMany Q 0 [some (.ref 76)] [] M
  refine fl_aload0 (pc := 0) dX10_knownMany_0 ?_
  refine fm_geti (pc := 1) lk_10_111 sh_76 rfl dX10_knownMany_1 ?_
  refine fm_iconstv (pc := 4) (-1) (by decide) dX10_knownMany_4 ?_
  refine fm_icmp_ne (pc := 5) 15 (by decide) dX10_knownMany_5 (fun c5 => ?_) (fun c5 => ?_)
  · replace h := fm_itn c5 h
    refine fl_aload0 (pc := 15) dX10_knownMany_15 ?_
    refine fm_geti (pc := 16) lk_10_111 sh_76 rfl dX10_knownMany_16 ?_
    refine fm_iret (pc := 19) rfl ?_ dX10_knownMany_19
    cases h
    exact hq
  · replace h := fm_itp c5 h
    refine fl_aload0 (pc := 8) dX10_knownMany_8 ?_
    refine fm_geti (pc := 9) lk_10_283 sh_76 rfl dX10_knownMany_9 ?_
    refine fm_goto (pc := 12) 19 (by decide) dX10_knownMany_12 ?_
    refine fm_iret (pc := 19) rfl ?_ dX10_knownMany_19
    cases h
    exact hq
/-! X10_fitsWidth -/
def J_X10_fitsWidth_67 (rec : Int32 → fm_M → Option (((Int32) ⊕ Int32) × fm_M)) (l1 : Int32) (l2 : Int32) (s0 : Int32) (M : fm_M) : Option (((Int32) ⊕ Int32) × fm_M) :=
    fm_gd (fm_inb l2 24) (
    if s0 = (M.1 107 (Int32.toNatClampNeg l2)) then (
      rec (l2 + 1) M
    ) else (
      some (.inr 0, M)
    ))
def G_X10_fitsWidth_14 : Nat → Int32 → Int32 → fm_M → Option (((Int32) ⊕ Int32) × fm_M)
  | 0, _, _, _ => none
  | n + 1, l1, l2, M =>
    fm_bd (F_X10_knownMany M) (fun v5 M6 =>
    if v5 ≤ l2 then (
      some (.inl l2, M6)
    ) else (
      fm_gd (fm_inb l2 24) (
      if (M6.1 109 (Int32.toNatClampNeg l2)) = 0 then (
        fm_gd (fm_inb l2 24) (
        if (M6.1 108 (Int32.toNatClampNeg l2)) = (-1) then (
          fm_gd (fm_inb l2 24) (
          fm_gd (fm_inb (10 + (M6.1 106 (Int32.toNatClampNeg l2))) 230) (
          if (M6.1 100 (Int32.toNatClampNeg (10 + (M6.1 106 (Int32.toNatClampNeg l2))))) = 1 then (
            J_X10_fitsWidth_67 (G_X10_fitsWidth_14 n l1) l1 l2 1 M6
          ) else (
            J_X10_fitsWidth_67 (G_X10_fitsWidth_14 n l1) l1 l2 0 M6
          )))
        ) else (
          G_X10_fitsWidth_14 n l1 (l2 + 1) M6
        ))
      ) else (
        G_X10_fitsWidth_14 n l1 (l2 + 1) M6
      ))
    ))
def F_X10_fitsWidth (a1 : Int32) (M : fm_M) : Option (Int32 × fm_M) :=
    fm_bd (F_X10_starts 1 M) (fun v1 M2 =>
    fm_bd (F_X10_goesOn (a1 + 1) M2) (fun v3 M4 =>
    fm_bs (G_X10_fitsWidth_14 fm_fuel a1 0 M4) (fun w12 M13 =>
      some (1, M13)) (fun r14 M => some (r14, M))))
theorem jn_X10_fitsWidth_67 {d : Nat} {Q : Option Value → fm_M → Prop} (rec : Int32 → fm_M → Option (((Int32) ⊕ Int32) × fm_M))  (l1 : Int32) (l2 : Int32) (s0 : Int32) {x : ((Int32) ⊕ Int32) × fm_M}  (ih : ∀ (l2 : Int32) (M : fm_M), rec l2 M = some x → fm_mw (d + 11) mX10_fitsWidth Q 14 [some (.ref 76), some (.int l1), some (.int l2)] [] M) (k1 : ∀ (v : Int32) (M2 : fm_M), x = (.inl v, M2) → fm_mw (d + 11) mX10_fitsWidth Q 84 [some (.ref 76), some (.int l1), some (.int v)] [] M2) (k2 : ∀ (r : Int32) (M2 : fm_M), x = (.inr r, M2) → Q (some (.int r)) M2) (M : fm_M) (h : J_X10_fitsWidth_67 rec l1 l2 s0 M = some x) : fm_mw (d + 11) mX10_fitsWidth Q 67 [some (.ref 76), some (.int l1), some (.int l2)] [(.int s0)] M := by
  rw [J_X10_fitsWidth_67] at h
  refine fl_aload0 (pc := 67) dX10_fitsWidth_67 ?_
  refine fm_getr (pc := 68) lk_10_117 sh_76 rfl dX10_fitsWidth_68 ?_
  refine fl_iload2 (pc := 71) dX10_fitsWidth_71 ?_
  obtain ⟨g11, h⟩ := fm_gdp h
  refine fm_zald (pc := 72) sh_107 (fm_inb_ok g11) dX10_fitsWidth_72 ?_
  refine fm_icmp_eq (pc := 73) 78 (by decide) dX10_fitsWidth_73 (fun c73 => ?_) (fun c73 => ?_)
  · replace h := fm_itp c73 h
    refine fl_iinc2 (pc := 78) rfl 1 (by decide) (by decide) dX10_fitsWidth_78 ?_
    refine fm_goto (pc := 81) 14 (by decide) dX10_fitsWidth_81 ?_
    refine fm_fgt [some (.ref 76), some (.int l1), some (.int (l2 + 1))] (by simp [fm_sub]) ?_
    exact ih _ _ h
  · replace h := fm_itn c73 h
    refine fm_iconstv (pc := 76) 0 (by decide) dX10_fitsWidth_76 ?_
    refine fm_zret (pc := 77) rfl (by decide) ?_ dX10_fitsWidth_77
    cases h
    exact k2 _ _ rfl
theorem lp_X10_fitsWidth_14 {d : Nat} {Q : Option Value → fm_M → Prop} {l1 : Int32}   {x : ((Int32) ⊕ Int32) × fm_M} (k1 : ∀ (v : Int32) (M2 : fm_M), x = (.inl v, M2) → fm_mw (d + 11) mX10_fitsWidth Q 84 [some (.ref 76), some (.int l1), some (.int v)] [] M2) (k2 : ∀ (r : Int32) (M2 : fm_M), x = (.inr r, M2) → Q (some (.int r)) M2) : ∀ (n : Nat) (l2 : Int32) (M : fm_M), G_X10_fitsWidth_14 n l1 l2 M = some x → fm_mw (d + 11) mX10_fitsWidth Q 14 [some (.ref 76), some (.int l1), some (.int l2)] [] M := by
  intro n
  induction n with
  | zero => intro l2 M h; simp [G_X10_fitsWidth_14] at h
  | succ n ih =>
    intro l2 M h
    rw [G_X10_fitsWidth_14] at h
    refine fl_iload2 (pc := 14) dX10_fitsWidth_14 ?_
    refine fl_aload0 (pc := 15) dX10_fitsWidth_15 ?_
    obtain ⟨v5, M6, ev5, h⟩ := fm_bdp h
    refine fm_callV (pc := 16) mX10_knownMany [] _ rfl cvX10_knownMany ml_10_475 sh_76 rfl rfl (Nat.le_of_ble_eq_true rfl) (Nat.le_of_ble_eq_true rfl) dX10_fitsWidth_16 ?_
    refine sp_X10_knownMany ev5 ?_
    refine fm_ret1 ?_
    refine fm_icmp_ge (pc := 19) 84 (by decide) dX10_fitsWidth_19 (fun c19 => ?_) (fun c19 => ?_)
    · replace h := fm_itp c19 h
      refine fm_fgt [some (.ref 76), some (.int l1), some (.int l2)] (by simp [fm_sub]) ?_
      cases h
      exact k1 _ _ rfl
    · replace h := fm_itn c19 h
      refine fl_aload0 (pc := 22) dX10_fitsWidth_22 ?_
      refine fm_getr (pc := 23) lk_10_124 sh_76 rfl dX10_fitsWidth_23 ?_
      refine fl_iload2 (pc := 26) dX10_fitsWidth_26 ?_
      obtain ⟨g7, h⟩ := fm_gdp h
      refine fm_zald (pc := 27) sh_109 (fm_inb_ok g7) dX10_fitsWidth_27 ?_
      refine fm_if_ne (pc := 28) 78 (by decide) dX10_fitsWidth_28 (fun c28 => ?_) (fun c28 => ?_)
      · replace h := fm_itn c28 h
        refine fl_iinc2 (pc := 78) rfl 1 (by decide) (by decide) dX10_fitsWidth_78 ?_
        refine fm_goto (pc := 81) 14 (by decide) dX10_fitsWidth_81 ?_
        refine fm_fgt [some (.ref 76), some (.int l1), some (.int (l2 + 1))] (by simp [fm_sub]) ?_
        exact ih _ _ h
      · replace h := fm_itp c28 h
        refine fl_aload0 (pc := 31) dX10_fitsWidth_31 ?_
        refine fm_getr (pc := 32) lk_10_121 sh_76 rfl dX10_fitsWidth_32 ?_
        refine fl_iload2 (pc := 35) dX10_fitsWidth_35 ?_
        obtain ⟨g8, h⟩ := fm_gdp h
        refine fm_iald (pc := 36) sh_108 (fm_inb_ok g8) dX10_fitsWidth_36 ?_
        refine fm_iconstv (pc := 37) (-1) (by decide) dX10_fitsWidth_37 ?_
        refine fm_icmp_eq (pc := 38) 44 (by decide) dX10_fitsWidth_38 (fun c38 => ?_) (fun c38 => ?_)
        · replace h := fm_itp c38 h
          refine fl_aload0 (pc := 44) dX10_fitsWidth_44 ?_
          refine fm_getr (pc := 45) lk_10_84 sh_76 rfl dX10_fitsWidth_45 ?_
          refine fm_bipushv (pc := 48) 10 (by decide) dX10_fitsWidth_48 ?_
          refine fl_aload0 (pc := 50) dX10_fitsWidth_50 ?_
          refine fm_getr (pc := 51) lk_10_114 sh_76 rfl dX10_fitsWidth_51 ?_
          refine fl_iload2 (pc := 54) dX10_fitsWidth_54 ?_
          obtain ⟨g9, h⟩ := fm_gdp h
          refine fm_iald (pc := 55) sh_106 (fm_inb_ok g9) dX10_fitsWidth_55 ?_
          refine fm_iadd (pc := 56) dX10_fitsWidth_56 ?_
          obtain ⟨g10, h⟩ := fm_gdp h
          refine fm_iald (pc := 57) sh_100 (fm_inb_ok g10) dX10_fitsWidth_57 ?_
          refine fm_iconstv (pc := 58) 1 (by decide) dX10_fitsWidth_58 ?_
          refine fm_icmp_ne (pc := 59) 66 (by decide) dX10_fitsWidth_59 (fun c59 => ?_) (fun c59 => ?_)
          · replace h := fm_itn c59 h
            refine fm_iconstv (pc := 66) 0 (by decide) dX10_fitsWidth_66 ?_
            exact jn_X10_fitsWidth_67 _ _ _ _  ih k1 k2 _ h
          · replace h := fm_itp c59 h
            refine fm_iconstv (pc := 62) 1 (by decide) dX10_fitsWidth_62 ?_
            refine fm_goto (pc := 63) 67 (by decide) dX10_fitsWidth_63 ?_
            exact jn_X10_fitsWidth_67 _ _ _ _  ih k1 k2 _ h
        · replace h := fm_itn c38 h
          refine fm_goto (pc := 41) 78 (by decide) dX10_fitsWidth_41 ?_
          refine fl_iinc2 (pc := 78) rfl 1 (by decide) (by decide) dX10_fitsWidth_78 ?_
          refine fm_goto (pc := 81) 14 (by decide) dX10_fitsWidth_81 ?_
          refine fm_fgt [some (.ref 76), some (.int l1), some (.int (l2 + 1))] (by simp [fm_sub]) ?_
          exact ih _ _ h
theorem sp_X10_fitsWidth {d : Nat} {a1 : Int32} {M : fm_M} {x : Int32 × fm_M} {Q : Option Value → fm_M → Prop} (h : F_X10_fitsWidth a1 M = some x) (hq : Q (some (.int x.1)) x.2) : fm_ct (d + 11) mX10_fitsWidth [.ref 76, .int a1] M Q := by
  rw [F_X10_fitsWidth] at h
  show fm_mw (d + 11) mX10_fitsWidth Q 0 [some (.ref 76), some (.int a1), none] [] M
  refine fl_aload0 (pc := 0) dX10_fitsWidth_0 ?_
  refine fm_iconstv (pc := 1) 1 (by decide) dX10_fitsWidth_1 ?_
  obtain ⟨v1, M2, ev1, h⟩ := fm_bdp h
  refine fm_callV (pc := 2) mX10_starts [_] _ rfl cvX10_starts ml_10_313 sh_76 rfl rfl (Nat.le_of_ble_eq_true rfl) (Nat.le_of_ble_eq_true rfl) dX10_fitsWidth_2 ?_
  refine sp_X10_starts ev1 ?_
  refine fm_ret0 ?_
  refine fl_aload0 (pc := 5) dX10_fitsWidth_5 ?_
  refine fl_iload1 (pc := 6) dX10_fitsWidth_6 ?_
  refine fm_iconstv (pc := 7) 1 (by decide) dX10_fitsWidth_7 ?_
  refine fm_iadd (pc := 8) dX10_fitsWidth_8 ?_
  obtain ⟨v3, M4, ev3, h⟩ := fm_bdp h
  refine fm_callV (pc := 9) mX10_goesOn [_] _ rfl cvX10_goesOn ml_10_420 sh_76 rfl rfl (Nat.le_of_ble_eq_true rfl) (Nat.le_of_ble_eq_true rfl) dX10_fitsWidth_9 ?_
  refine sp_X10_goesOn ev3 ?_
  refine fm_ret0 ?_
  refine fm_iconstv (pc := 12) 0 (by decide) dX10_fitsWidth_12 ?_
  refine fl_istore2 (pc := 13) rfl (by decide) dX10_fitsWidth_13 ?_
  obtain ⟨w9, M13, ew12, hl9, hr9⟩ := fm_bsp h
  refine lp_X10_fitsWidth_14  ?_ ?_ _ _ _ ew12
  · intro w12 M9 q9
    cases q9
    replace h := hl9 _ rfl
    refine fm_iconstv (pc := 84) 1 (by decide) dX10_fitsWidth_84 ?_
    refine fm_zret (pc := 85) rfl (by decide) ?_ dX10_fitsWidth_85
    cases h
    exact hq
  · intro r9 M9 q9
    cases q9
    replace h := hr9 _ rfl
    cases h
    exact hq
/-! X10_widths -/
def G_X10_widths_19 : Nat → Int32 → Int32 → Int32 → fm_M → Option ((Int32) × fm_M)
  | 0, _, _, _, _ => none
  | n + 1, l1, l2, l3, M =>
    fm_bd (F_X10_knownMany M) (fun v4 M5 =>
    if v4 ≤ l3 then (
      some (l3, M5)
    ) else (
      fm_gd (fm_inb l3 24) (
      fm_lt (fm_up M5 109 (Int32.toNatClampNeg l3) (vp_nar .boolean 0)) (fun M7 =>
      G_X10_widths_19 n l1 l2 (l3 + 1) M7))
    ))
def G_X10_widths_47 : Nat → Int32 → Int32 → Int32 → fm_M → Option ((Int32) × fm_M)
  | 0, _, _, _, _ => none
  | n + 1, l1, l2, l3, M =>
    if l3 < 0 then (
      some (l3, M)
    ) else (
      fm_gd (fm_inb l3 24) (
      if (M.1 109 (Int32.toNatClampNeg l3)) = 0 then (
        fm_gd (fm_inb l3 24) (
        if (M.1 108 (Int32.toNatClampNeg l3)) = (-1) then (
          G_X10_widths_47 n l1 l2 (l3 + (-1)) M
        ) else (
          fm_gd (fm_inb l3 24) (
          fm_gd (fm_inb (M.1 108 (Int32.toNatClampNeg l3)) 24) (
          fm_lt (fm_up M 109 (Int32.toNatClampNeg (M.1 108 (Int32.toNatClampNeg l3))) (vp_nar .boolean 1)) (fun M17 =>
          G_X10_widths_47 n l1 l2 (l3 + (-1)) M17)))
        ))
      ) else (
        G_X10_widths_47 n l1 l2 (l3 + (-1)) M
      ))
    )
def G_X10_widths_90 : Nat → Int32 → Int32 → Int32 → fm_M → Option ((Int32 × Int32) × fm_M)
  | 0, _, _, _, _ => none
  | n + 1, l1, l2, l3, M =>
    fm_bd (F_X10_knownMany M) (fun v20 M21 =>
    if v20 ≤ l3 then (
      some ((l2, l3), M21)
    ) else (
      fm_gd (fm_inb l3 24) (
      if (M21.1 109 (Int32.toNatClampNeg l3)) = 0 then (
        fm_gd (fm_inb l3 24) (
        if (M21.1 108 (Int32.toNatClampNeg l3)) = (-1) then (
          fm_gd (fm_inb l3 24) (
          fm_gd (fm_inb (M21.1 106 (Int32.toNatClampNeg l3)) 20) (
          fm_lt ((i_max l2 (M21.1 86 (Int32.toNatClampNeg (M21.1 106 (Int32.toNatClampNeg l3)))))) (fun x26 =>
          G_X10_widths_90 n l1 x26 (l3 + 1) M21)))
        ) else (
          G_X10_widths_90 n l1 l2 (l3 + 1) M21
        ))
      ) else (
        G_X10_widths_90 n l1 l2 (l3 + 1) M21
      ))
    ))
def G_X10_widths_149 : Nat → Int32 → Int32 → Int32 → Int32 → fm_M → Option ((Int32 × Int32) × fm_M)
  | 0, _, _, _, _, _ => none
  | n + 1, l1, l2, l3, l4, M =>
    if 10 ≤ l4 then (
      some ((l3, l4), M)
    ) else (
      fm_lt (fm_up M 76 47 (10 * l4)) (fun M30 =>
      fm_bd (F_X10_fitsWidth l2 M30) (fun v31 M32 =>
      if v31 = 0 then (
        fm_lt ((l3 ||| 0)) (fun x33 =>
        G_X10_widths_149 n l1 l2 x33 (l4 + 1) M32)
      ) else (
        fm_lt ((l3 ||| (1 <<< (l4 &&& 31)))) (fun x34 =>
        G_X10_widths_149 n l1 l2 x34 (l4 + 1) M32)
      )))
    )
def F_X10_widths (a1 : Int32) (M : fm_M) : Option (Int32 × fm_M) :=
    fm_lt (fm_up M 76 0 0) (fun M1 =>
    fm_bd (F_X10_isFork a1 M1) (fun v2 M3 =>
    if v2 = 0 then (
      some ((-1), M3)
    ) else (
      fm_bd (G_X10_widths_19 fm_fuel a1 (-1) 0 M3) (fun w8 M9 =>
        fm_bd (F_X10_knownMany M9) (fun v10 M11 =>
        fm_lt ((v10 - 1)) (fun x12 =>
        fm_bd (G_X10_widths_47 fm_fuel a1 (-1) x12 M11) (fun w18 M19 =>
          fm_bd (G_X10_widths_90 fm_fuel a1 (-1) 0 M19) (fun w27 M28 =>
            fm_lt (fm_up M28 76 46 a1) (fun M29 =>
            fm_bd (G_X10_widths_149 fm_fuel a1 w27.1 0 0 M29) (fun w35 M36 =>
              fm_lt (fm_up M36 76 46 (-1)) (fun M37 =>
              some (w35.1, M37)))))))))
    )))
theorem lp_X10_widths_19 {d : Nat} {Q : Option Value → fm_M → Prop} {l1 : Int32} {l2 : Int32}   {x : (Int32) × fm_M} (k1 : ∀ (v : Int32) (M2 : fm_M), x = (v, M2) → fm_mw (d + 12) mX10_widths Q 40 [some (.ref 76), some (.int l1), some (.int l2), some (.int v), none] [] M2) : ∀ (n : Nat) (l3 : Int32) (M : fm_M), G_X10_widths_19 n l1 l2 l3 M = some x → fm_mw (d + 12) mX10_widths Q 19 [some (.ref 76), some (.int l1), some (.int l2), some (.int l3), none] [] M := by
  intro n
  induction n with
  | zero => intro l3 M h; simp [G_X10_widths_19] at h
  | succ n ih =>
    intro l3 M h
    rw [G_X10_widths_19] at h
    refine fl_iload3 (pc := 19) dX10_widths_19 ?_
    refine fl_aload0 (pc := 20) dX10_widths_20 ?_
    obtain ⟨v4, M5, ev4, h⟩ := fm_bdp h
    refine fm_callV (pc := 21) mX10_knownMany [] _ rfl cvX10_knownMany ml_10_475 sh_76 rfl rfl (Nat.le_of_ble_eq_true rfl) (Nat.le_of_ble_eq_true rfl) dX10_widths_21 ?_
    refine sp_X10_knownMany ev4 ?_
    refine fm_ret1 ?_
    refine fm_icmp_ge (pc := 24) 40 (by decide) dX10_widths_24 (fun c24 => ?_) (fun c24 => ?_)
    · replace h := fm_itp c24 h
      refine fm_fgt [some (.ref 76), some (.int l1), some (.int l2), some (.int l3), none] (by simp [fm_sub]) ?_
      cases h
      exact k1 _ _ rfl
    · replace h := fm_itn c24 h
      refine fl_aload0 (pc := 27) dX10_widths_27 ?_
      refine fm_getr (pc := 28) lk_10_124 sh_76 rfl dX10_widths_28 ?_
      refine fl_iload3 (pc := 31) dX10_widths_31 ?_
      refine fm_iconstv (pc := 32) 0 (by decide) dX10_widths_32 ?_
      obtain ⟨g6, h⟩ := fm_gdp h
      refine fm_zast (pc := 33) sh_109 (fm_inb_ok g6) dX10_widths_33 ?_
      obtain ⟨M7, eM7, h⟩ := fm_ltp h
      refine fm_cgm eM7 ?_
      refine fl_iinc3 (pc := 34) rfl 1 (by decide) (by decide) dX10_widths_34 ?_
      refine fm_goto (pc := 37) 19 (by decide) dX10_widths_37 ?_
      refine fm_fgt [some (.ref 76), some (.int l1), some (.int l2), some (.int (l3 + 1)), none] (by simp [fm_sub]) ?_
      exact ih _ _ h
theorem lp_X10_widths_47 {d : Nat} {Q : Option Value → fm_M → Prop} {l1 : Int32} {l2 : Int32}   {x : (Int32) × fm_M} (k1 : ∀ (v : Int32) (M2 : fm_M), x = (v, M2) → fm_mw (d + 12) mX10_widths Q 88 [some (.ref 76), some (.int l1), some (.int l2), some (.int v), none] [] M2) : ∀ (n : Nat) (l3 : Int32) (M : fm_M), G_X10_widths_47 n l1 l2 l3 M = some x → fm_mw (d + 12) mX10_widths Q 47 [some (.ref 76), some (.int l1), some (.int l2), some (.int l3), none] [] M := by
  intro n
  induction n with
  | zero => intro l3 M h; simp [G_X10_widths_47] at h
  | succ n ih =>
    intro l3 M h
    rw [G_X10_widths_47] at h
    refine fl_iload3 (pc := 47) dX10_widths_47 ?_
    refine fm_if_lt (pc := 48) 88 (by decide) dX10_widths_48 (fun c48 => ?_) (fun c48 => ?_)
    · replace h := fm_itp c48 h
      refine fm_fgt [some (.ref 76), some (.int l1), some (.int l2), some (.int l3), none] (by simp [fm_sub]) ?_
      cases h
      exact k1 _ _ rfl
    · replace h := fm_itn c48 h
      refine fl_aload0 (pc := 51) dX10_widths_51 ?_
      refine fm_getr (pc := 52) lk_10_124 sh_76 rfl dX10_widths_52 ?_
      refine fl_iload3 (pc := 55) dX10_widths_55 ?_
      obtain ⟨g13, h⟩ := fm_gdp h
      refine fm_zald (pc := 56) sh_109 (fm_inb_ok g13) dX10_widths_56 ?_
      refine fm_if_ne (pc := 57) 82 (by decide) dX10_widths_57 (fun c57 => ?_) (fun c57 => ?_)
      · replace h := fm_itn c57 h
        refine fl_iinc3 (pc := 82) rfl (-1) (by decide) (by decide) dX10_widths_82 ?_
        refine fm_goto (pc := 85) 47 (by decide) dX10_widths_85 ?_
        refine fm_fgt [some (.ref 76), some (.int l1), some (.int l2), some (.int (l3 + (-1))), none] (by simp [fm_sub]) ?_
        exact ih _ _ h
      · replace h := fm_itp c57 h
        refine fl_aload0 (pc := 60) dX10_widths_60 ?_
        refine fm_getr (pc := 61) lk_10_121 sh_76 rfl dX10_widths_61 ?_
        refine fl_iload3 (pc := 64) dX10_widths_64 ?_
        obtain ⟨g14, h⟩ := fm_gdp h
        refine fm_iald (pc := 65) sh_108 (fm_inb_ok g14) dX10_widths_65 ?_
        refine fm_iconstv (pc := 66) (-1) (by decide) dX10_widths_66 ?_
        refine fm_icmp_eq (pc := 67) 82 (by decide) dX10_widths_67 (fun c67 => ?_) (fun c67 => ?_)
        · replace h := fm_itp c67 h
          refine fl_iinc3 (pc := 82) rfl (-1) (by decide) (by decide) dX10_widths_82 ?_
          refine fm_goto (pc := 85) 47 (by decide) dX10_widths_85 ?_
          refine fm_fgt [some (.ref 76), some (.int l1), some (.int l2), some (.int (l3 + (-1))), none] (by simp [fm_sub]) ?_
          exact ih _ _ h
        · replace h := fm_itn c67 h
          refine fl_aload0 (pc := 70) dX10_widths_70 ?_
          refine fm_getr (pc := 71) lk_10_124 sh_76 rfl dX10_widths_71 ?_
          refine fl_aload0 (pc := 74) dX10_widths_74 ?_
          refine fm_getr (pc := 75) lk_10_121 sh_76 rfl dX10_widths_75 ?_
          refine fl_iload3 (pc := 78) dX10_widths_78 ?_
          obtain ⟨g15, h⟩ := fm_gdp h
          refine fm_iald (pc := 79) sh_108 (fm_inb_ok g15) dX10_widths_79 ?_
          refine fm_iconstv (pc := 80) 1 (by decide) dX10_widths_80 ?_
          obtain ⟨g16, h⟩ := fm_gdp h
          refine fm_zast (pc := 81) sh_109 (fm_inb_ok g16) dX10_widths_81 ?_
          obtain ⟨M17, eM17, h⟩ := fm_ltp h
          refine fm_cgm eM17 ?_
          refine fl_iinc3 (pc := 82) rfl (-1) (by decide) (by decide) dX10_widths_82 ?_
          refine fm_goto (pc := 85) 47 (by decide) dX10_widths_85 ?_
          refine fm_fgt [some (.ref 76), some (.int l1), some (.int l2), some (.int (l3 + (-1))), none] (by simp [fm_sub]) ?_
          exact ih _ _ h
theorem lp_X10_widths_90 {d : Nat} {Q : Option Value → fm_M → Prop} {l1 : Int32}   {x : (Int32 × Int32) × fm_M} (k1 : ∀ (v : Int32 × Int32) (M2 : fm_M), x = (v, M2) → fm_mw (d + 12) mX10_widths Q 139 [some (.ref 76), some (.int l1), some (.int v.1), some (.int v.2), none] [] M2) : ∀ (n : Nat) (l2 : Int32) (l3 : Int32) (M : fm_M), G_X10_widths_90 n l1 l2 l3 M = some x → fm_mw (d + 12) mX10_widths Q 90 [some (.ref 76), some (.int l1), some (.int l2), some (.int l3), none] [] M := by
  intro n
  induction n with
  | zero => intro l2 l3 M h; simp [G_X10_widths_90] at h
  | succ n ih =>
    intro l2 l3 M h
    rw [G_X10_widths_90] at h
    refine fl_iload3 (pc := 90) dX10_widths_90 ?_
    refine fl_aload0 (pc := 91) dX10_widths_91 ?_
    obtain ⟨v20, M21, ev20, h⟩ := fm_bdp h
    refine fm_callV (pc := 92) mX10_knownMany [] _ rfl cvX10_knownMany ml_10_475 sh_76 rfl rfl (Nat.le_of_ble_eq_true rfl) (Nat.le_of_ble_eq_true rfl) dX10_widths_92 ?_
    refine sp_X10_knownMany ev20 ?_
    refine fm_ret1 ?_
    refine fm_icmp_ge (pc := 95) 139 (by decide) dX10_widths_95 (fun c95 => ?_) (fun c95 => ?_)
    · replace h := fm_itp c95 h
      refine fm_fgt [some (.ref 76), some (.int l1), some (.int l2), some (.int l3), none] (by simp [fm_sub]) ?_
      cases h
      exact k1 _ _ rfl
    · replace h := fm_itn c95 h
      refine fl_aload0 (pc := 98) dX10_widths_98 ?_
      refine fm_getr (pc := 99) lk_10_124 sh_76 rfl dX10_widths_99 ?_
      refine fl_iload3 (pc := 102) dX10_widths_102 ?_
      obtain ⟨g22, h⟩ := fm_gdp h
      refine fm_zald (pc := 103) sh_109 (fm_inb_ok g22) dX10_widths_103 ?_
      refine fm_if_ne (pc := 104) 133 (by decide) dX10_widths_104 (fun c104 => ?_) (fun c104 => ?_)
      · replace h := fm_itn c104 h
        refine fl_iinc3 (pc := 133) rfl 1 (by decide) (by decide) dX10_widths_133 ?_
        refine fm_goto (pc := 136) 90 (by decide) dX10_widths_136 ?_
        refine fm_fgt [some (.ref 76), some (.int l1), some (.int l2), some (.int (l3 + 1)), none] (by simp [fm_sub]) ?_
        exact ih _ _ _ h
      · replace h := fm_itp c104 h
        refine fl_aload0 (pc := 107) dX10_widths_107 ?_
        refine fm_getr (pc := 108) lk_10_121 sh_76 rfl dX10_widths_108 ?_
        refine fl_iload3 (pc := 111) dX10_widths_111 ?_
        obtain ⟨g23, h⟩ := fm_gdp h
        refine fm_iald (pc := 112) sh_108 (fm_inb_ok g23) dX10_widths_112 ?_
        refine fm_iconstv (pc := 113) (-1) (by decide) dX10_widths_113 ?_
        refine fm_icmp_ne (pc := 114) 133 (by decide) dX10_widths_114 (fun c114 => ?_) (fun c114 => ?_)
        · replace h := fm_itn c114 h
          refine fl_iinc3 (pc := 133) rfl 1 (by decide) (by decide) dX10_widths_133 ?_
          refine fm_goto (pc := 136) 90 (by decide) dX10_widths_136 ?_
          refine fm_fgt [some (.ref 76), some (.int l1), some (.int l2), some (.int (l3 + 1)), none] (by simp [fm_sub]) ?_
          exact ih _ _ _ h
        · replace h := fm_itp c114 h
          refine fl_iload2 (pc := 117) dX10_widths_117 ?_
          refine fl_aload0 (pc := 118) dX10_widths_118 ?_
          refine fm_getr (pc := 119) lk_10_37 sh_76 rfl dX10_widths_119 ?_
          refine fl_aload0 (pc := 122) dX10_widths_122 ?_
          refine fm_getr (pc := 123) lk_10_114 sh_76 rfl dX10_widths_123 ?_
          refine fl_iload3 (pc := 126) dX10_widths_126 ?_
          obtain ⟨g24, h⟩ := fm_gdp h
          refine fm_iald (pc := 127) sh_106 (fm_inb_ok g24) dX10_widths_127 ?_
          obtain ⟨g25, h⟩ := fm_gdp h
          refine fm_iald (pc := 128) sh_86 (fm_inb_ok g25) dX10_widths_128 ?_
          refine fq_mmax (pc := 129) ml_10_328 (Nat.le_of_ble_eq_true rfl) dX10_widths_129 ?_
          obtain ⟨x26, ex26, h⟩ := fm_ltp h
          refine fm_cgi ex26 ?_
          refine fl_istore2 (pc := 132) rfl (by decide) dX10_widths_132 ?_
          refine fl_iinc3 (pc := 133) rfl 1 (by decide) (by decide) dX10_widths_133 ?_
          refine fm_goto (pc := 136) 90 (by decide) dX10_widths_136 ?_
          refine fm_fgt [some (.ref 76), some (.int l1), some (.int x26), some (.int (l3 + 1)), none] (by simp [fm_sub]) ?_
          exact ih _ _ _ h
theorem lp_X10_widths_149 {d : Nat} {Q : Option Value → fm_M → Prop} {l1 : Int32} {l2 : Int32}   {x : (Int32 × Int32) × fm_M} (k1 : ∀ (v : Int32 × Int32) (M2 : fm_M), x = (v, M2) → fm_mw (d + 12) mX10_widths Q 190 [some (.ref 76), some (.int l1), some (.int l2), some (.int v.1), some (.int v.2)] [] M2) : ∀ (n : Nat) (l3 : Int32) (l4 : Int32) (M : fm_M), G_X10_widths_149 n l1 l2 l3 l4 M = some x → fm_mw (d + 12) mX10_widths Q 149 [some (.ref 76), some (.int l1), some (.int l2), some (.int l3), some (.int l4)] [] M := by
  intro n
  induction n with
  | zero => intro l3 l4 M h; simp [G_X10_widths_149] at h
  | succ n ih =>
    intro l3 l4 M h
    rw [G_X10_widths_149] at h
    refine fl_iload4 (pc := 149) dX10_widths_149 ?_
    refine fm_bipushv (pc := 151) 10 (by decide) dX10_widths_151 ?_
    refine fm_icmp_ge (pc := 153) 190 (by decide) dX10_widths_153 (fun c153 => ?_) (fun c153 => ?_)
    · replace h := fm_itp c153 h
      refine fm_fgt [some (.ref 76), some (.int l1), some (.int l2), some (.int l3), some (.int l4)] (by simp [fm_sub]) ?_
      cases h
      exact k1 _ _ rfl
    · replace h := fm_itn c153 h
      refine fl_aload0 (pc := 156) dX10_widths_156 ?_
      refine fm_bipushv (pc := 157) 10 (by decide) dX10_widths_157 ?_
      refine fl_iload4 (pc := 159) dX10_widths_159 ?_
      refine fm_imul (pc := 161) dX10_widths_161 ?_
      refine fm_puti (pc := 162) lp_10_322 sh_76 rfl dX10_widths_162 ?_
      obtain ⟨M30, eM30, h⟩ := fm_ltp h
      refine fm_cgm eM30 ?_
      refine fl_iload3 (pc := 165) dX10_widths_165 ?_
      refine fl_aload0 (pc := 166) dX10_widths_166 ?_
      refine fl_iload2 (pc := 167) dX10_widths_167 ?_
      obtain ⟨v31, M32, ev31, h⟩ := fm_bdp h
      refine fm_callV (pc := 168) mX10_fitsWidth [_] _ rfl cvX10_fitsWidth ml_10_478 sh_76 rfl rfl (Nat.le_of_ble_eq_true rfl) (Nat.le_of_ble_eq_true rfl) dX10_widths_168 ?_
      refine sp_X10_fitsWidth ev31 ?_
      refine fm_ret1 ?_
      refine fm_if_eq (pc := 171) 181 (by decide) dX10_widths_171 (fun c171 => ?_) (fun c171 => ?_)
      · replace h := fm_itp c171 h
        refine fm_iconstv (pc := 181) 0 (by decide) dX10_widths_181 ?_
        refine fm_ior (pc := 182) dX10_widths_182 ?_
        obtain ⟨x33, ex33, h⟩ := fm_ltp h
        refine fm_cgi ex33 ?_
        refine fl_istore3 (pc := 183) rfl (by decide) dX10_widths_183 ?_
        refine fl_iinc4 (pc := 184) rfl 1 (by decide) (by decide) dX10_widths_184 ?_
        refine fm_goto (pc := 187) 149 (by decide) dX10_widths_187 ?_
        refine fm_fgt [some (.ref 76), some (.int l1), some (.int l2), some (.int x33), some (.int (l4 + 1))] (by simp [fm_sub]) ?_
        exact ih _ _ _ h
      · replace h := fm_itn c171 h
        refine fm_iconstv (pc := 174) 1 (by decide) dX10_widths_174 ?_
        refine fl_iload4 (pc := 175) dX10_widths_175 ?_
        refine fm_ishl (pc := 177) dX10_widths_177 ?_
        refine fm_goto (pc := 178) 182 (by decide) dX10_widths_178 ?_
        refine fm_ior (pc := 182) dX10_widths_182 ?_
        obtain ⟨x34, ex34, h⟩ := fm_ltp h
        refine fm_cgi ex34 ?_
        refine fl_istore3 (pc := 183) rfl (by decide) dX10_widths_183 ?_
        refine fl_iinc4 (pc := 184) rfl 1 (by decide) (by decide) dX10_widths_184 ?_
        refine fm_goto (pc := 187) 149 (by decide) dX10_widths_187 ?_
        refine fm_fgt [some (.ref 76), some (.int l1), some (.int l2), some (.int x34), some (.int (l4 + 1))] (by simp [fm_sub]) ?_
        exact ih _ _ _ h
theorem sp_X10_widths {d : Nat} {a1 : Int32} {M : fm_M} {x : Int32 × fm_M} {Q : Option Value → fm_M → Prop} (h : F_X10_widths a1 M = some x) (hq : Q (some (.int x.1)) x.2) : fm_ct (d + 12) mX10_widths [.ref 76, .int a1] M Q := by
  rw [F_X10_widths] at h
  show fm_mw (d + 12) mX10_widths Q 0 [some (.ref 76), some (.int a1), none, none, none] [] M
  refine fl_aload0 (pc := 0) dX10_widths_0 ?_
  refine fm_iconstv (pc := 1) 0 (by decide) dX10_widths_1 ?_
  refine fm_puti (pc := 2) lp_10_130 sh_76 rfl dX10_widths_2 ?_
  obtain ⟨M1, eM1, h⟩ := fm_ltp h
  refine fm_cgm eM1 ?_
  refine fl_aload0 (pc := 5) dX10_widths_5 ?_
  refine fl_iload1 (pc := 6) dX10_widths_6 ?_
  obtain ⟨v2, M3, ev2, h⟩ := fm_bdp h
  refine fm_callV (pc := 7) mX10_isFork [_] _ rfl cvX10_isFork ml_10_404 sh_76 rfl rfl (Nat.le_of_ble_eq_true rfl) (Nat.le_of_ble_eq_true rfl) dX10_widths_7 ?_
  refine sp_X10_isFork ev2 ?_
  refine fm_ret1 ?_
  refine fm_if_ne (pc := 10) 15 (by decide) dX10_widths_10 (fun c10 => ?_) (fun c10 => ?_)
  · replace h := fm_itn c10 h
    refine fm_iconstv (pc := 15) (-1) (by decide) dX10_widths_15 ?_
    refine fl_istore2 (pc := 16) rfl (by decide) dX10_widths_16 ?_
    refine fm_iconstv (pc := 17) 0 (by decide) dX10_widths_17 ?_
    refine fl_istore3 (pc := 18) rfl (by decide) dX10_widths_18 ?_
    obtain ⟨w8, M9, ew8, h⟩ := fm_bdp h
    refine lp_X10_widths_19  ?_ _ _ _ ew8
    intro w89 M99 q9
    cases q9
    refine fl_aload0 (pc := 40) dX10_widths_40 ?_
    obtain ⟨v10, M11, ev10, h⟩ := fm_bdp h
    refine fm_callV (pc := 41) mX10_knownMany [] _ rfl cvX10_knownMany ml_10_475 sh_76 rfl rfl (Nat.le_of_ble_eq_true rfl) (Nat.le_of_ble_eq_true rfl) dX10_widths_41 ?_
    refine sp_X10_knownMany ev10 ?_
    refine fm_ret1 ?_
    refine fm_iconstv (pc := 44) 1 (by decide) dX10_widths_44 ?_
    refine fm_isub (pc := 45) dX10_widths_45 ?_
    obtain ⟨x12, ex12, h⟩ := fm_ltp h
    refine fm_cgi ex12 ?_
    refine fl_istore3 (pc := 46) rfl (by decide) dX10_widths_46 ?_
    obtain ⟨w18, M19, ew18, h⟩ := fm_bdp h
    refine lp_X10_widths_47  ?_ _ _ _ ew18
    intro w189 M199 q9
    cases q9
    refine fm_iconstv (pc := 88) 0 (by decide) dX10_widths_88 ?_
    refine fl_istore3 (pc := 89) rfl (by decide) dX10_widths_89 ?_
    obtain ⟨w27, M28, ew27, h⟩ := fm_bdp h
    refine lp_X10_widths_90  ?_ _ _ _ _ ew27
    intro w279 M289 q9
    cases q9
    refine fm_iconstv (pc := 139) 0 (by decide) dX10_widths_139 ?_
    refine fl_istore3 (pc := 140) rfl (by decide) dX10_widths_140 ?_
    refine fl_aload0 (pc := 141) dX10_widths_141 ?_
    refine fl_iload1 (pc := 142) dX10_widths_142 ?_
    refine fm_puti (pc := 143) lp_10_96 sh_76 rfl dX10_widths_143 ?_
    obtain ⟨M29, eM29, h⟩ := fm_ltp h
    refine fm_cgm eM29 ?_
    refine fm_iconstv (pc := 146) 0 (by decide) dX10_widths_146 ?_
    refine fl_istore4 (pc := 147) rfl (by decide) dX10_widths_147 ?_
    obtain ⟨w35, M36, ew35, h⟩ := fm_bdp h
    refine lp_X10_widths_149  ?_ _ _ _ _ ew35
    intro w359 M369 q9
    cases q9
    refine fl_aload0 (pc := 190) dX10_widths_190 ?_
    refine fm_iconstv (pc := 191) (-1) (by decide) dX10_widths_191 ?_
    refine fm_puti (pc := 192) lp_10_96 sh_76 rfl dX10_widths_192 ?_
    obtain ⟨M37, eM37, h⟩ := fm_ltp h
    refine fm_cgm eM37 ?_
    refine fl_iload3 (pc := 195) dX10_widths_195 ?_
    refine fm_iret (pc := 196) rfl ?_ dX10_widths_196
    cases h
    exact hq
  · replace h := fm_itp c10 h
    refine fm_iconstv (pc := 13) (-1) (by decide) dX10_widths_13 ?_
    refine fm_iret (pc := 14) rfl ?_ dX10_widths_14
    cases h
    exact hq
/-! X10_chance -/
def G_X10_chance_57 : Nat → Int32 → Int32 → Int32 → Int32 → Int32 → Int32 → Int32 → fm_M → Option ((Int32 × Int32) × fm_M)
  | 0, _, _, _, _, _, _, _, _ => none
  | n + 1, l1, l2, l3, l5, l6, l4, l7, M =>
    if l2 ≤ l7 then (
      some ((l4, l7), M)
    ) else (
      fm_lt ((((l4 * 1103515245) + 12345) &&& 2147483647)) (fun x4 =>
      fm_lt (fm_up M 76 45 (i_rem (x4 >>> (16 &&& 31)) 10)) (fun M5 =>
      fm_bd (F_X10_dayGoes 1 M5) (fun v6 M7 =>
      G_X10_chance_57 n l1 l2 l3 l5 l6 x4 (l7 + 1) M7)))
    )
def G_X10_chance_41 : Nat → Int32 → Int32 → Int32 → Int32 → Int32 → Int32 → fm_M → Option ((Int32 × Int32 × Int32) × fm_M)
  | 0, _, _, _, _, _, _, _ => none
  | n + 1, l1, l2, l3, l4, l5, l6, M =>
    if 10 ≤ l6 then (
      some ((l4, l5, l6), M)
    ) else (
      fm_bd (F_X10_copies 1 0 M) (fun v2 M3 =>
      fm_bd (G_X10_chance_57 fm_fuel l1 l2 l3 l5 l6 l4 0 M3) (fun w8 M9 =>
        fm_lt (fm_up M9 76 45 (-1)) (fun M10 =>
        fm_bd (F_X10_manyOf 1 1 M10) (fun v11 M12 =>
        fm_bd (F_X10_manyOf 0 1 M12) (fun v13 M14 =>
        if (v11 - v13) < l3 then (
          fm_lt ((l5 + 0)) (fun x15 =>
          G_X10_chance_41 n l1 l2 l3 w8.1 x15 (l6 + 1) M14)
        ) else (
          fm_lt ((l5 + 1)) (fun x16 =>
          G_X10_chance_41 n l1 l2 l3 w8.1 x16 (l6 + 1) M14)
        ))))))
    )
def F_X10_chance (a1 : Int32) (a2 : Int32) (a3 : Int32) (M : fm_M) : Option (Int32 × fm_M) :=
    fm_lt (fm_up M 76 0 0) (fun M1 =>
    if a1 < 0 then (
      some ((-1), M1)
    ) else (
      if a2 < 1 then (
        some ((-1), M1)
      ) else (
        if 99 < a2 then (
          some ((-1), M1)
        ) else (
          if a3 < 0 then (
            some ((-1), M1)
          ) else (
            if a3 ≤ 10 then (
              fm_bd (G_X10_chance_41 fm_fuel a1 a2 a3 a1 0 0 M1) (fun w17 M18 =>
                some (w17.2.1, M18))
            ) else (
              some ((-1), M1)
            )
          )
        )
      )
    ))
theorem lp_X10_chance_57 {d : Nat} {Q : Option Value → fm_M → Prop} {l1 : Int32} {l2 : Int32} {l3 : Int32} {l5 : Int32} {l6 : Int32}   {x : (Int32 × Int32) × fm_M} (k1 : ∀ (v : Int32 × Int32) (M2 : fm_M), x = (v, M2) → fm_mw (d + 10) mX10_chance Q 102 [some (.ref 76), some (.int l1), some (.int l2), some (.int l3), some (.int v.1), some (.int l5), some (.int l6), some (.int v.2)] [] M2) : ∀ (n : Nat) (l4 : Int32) (l7 : Int32) (M : fm_M), G_X10_chance_57 n l1 l2 l3 l5 l6 l4 l7 M = some x → fm_mw (d + 10) mX10_chance Q 57 [some (.ref 76), some (.int l1), some (.int l2), some (.int l3), some (.int l4), some (.int l5), some (.int l6), some (.int l7)] [] M := by
  intro n
  induction n with
  | zero => intro l4 l7 M h; simp [G_X10_chance_57] at h
  | succ n ih =>
    intro l4 l7 M h
    rw [G_X10_chance_57] at h
    refine fl_iload7 (pc := 57) dX10_chance_57 ?_
    refine fl_iload2 (pc := 59) dX10_chance_59 ?_
    refine fm_icmp_ge (pc := 60) 102 (by decide) dX10_chance_60 (fun c60 => ?_) (fun c60 => ?_)
    · replace h := fm_itp c60 h
      refine fm_fgt [some (.ref 76), some (.int l1), some (.int l2), some (.int l3), some (.int l4), some (.int l5), some (.int l6), some (.int l7)] (by simp [fm_sub]) ?_
      cases h
      exact k1 _ _ rfl
    · replace h := fm_itn c60 h
      refine fl_iload4 (pc := 63) dX10_chance_63 ?_
      refine fm_ldcw (pc := 65) kc_10_481 dX10_chance_65 ?_
      refine fm_imul (pc := 68) dX10_chance_68 ?_
      refine fm_sipushv (pc := 69) 12345 (by decide) dX10_chance_69 ?_
      refine fm_iadd (pc := 72) dX10_chance_72 ?_
      refine fm_ldcw (pc := 73) kc_10_482 dX10_chance_73 ?_
      refine fm_iand (pc := 76) dX10_chance_76 ?_
      obtain ⟨x4, ex4, h⟩ := fm_ltp h
      refine fm_cgi ex4 ?_
      refine fl_istore4 (pc := 77) rfl (by decide) dX10_chance_77 ?_
      refine fl_aload0 (pc := 79) dX10_chance_79 ?_
      refine fl_iload4 (pc := 80) dX10_chance_80 ?_
      refine fm_bipushv (pc := 82) 16 (by decide) dX10_chance_82 ?_
      refine fm_ishr (pc := 84) dX10_chance_84 ?_
      refine fm_bipushv (pc := 85) 10 (by decide) dX10_chance_85 ?_
      refine fq_irem (pc := 87) (by decide) dX10_chance_87 ?_
      refine fm_puti (pc := 88) lp_10_93 sh_76 rfl dX10_chance_88 ?_
      obtain ⟨M5, eM5, h⟩ := fm_ltp h
      refine fm_cgm eM5 ?_
      refine fl_aload0 (pc := 91) dX10_chance_91 ?_
      refine fm_iconstv (pc := 92) 1 (by decide) dX10_chance_92 ?_
      obtain ⟨v6, M7, ev6, h⟩ := fm_bdp h
      refine fm_callV (pc := 93) mX10_dayGoes [_] _ rfl cvX10_dayGoes ml_10_398 sh_76 rfl rfl (Nat.le_of_ble_eq_true rfl) (Nat.le_of_ble_eq_true rfl) dX10_chance_93 ?_
      refine sp_X10_dayGoes ev6 ?_
      refine fm_ret0 ?_
      refine fl_iinc7 (pc := 96) rfl 1 (by decide) (by decide) dX10_chance_96 ?_
      refine fm_goto (pc := 99) 57 (by decide) dX10_chance_99 ?_
      refine fm_fgt [some (.ref 76), some (.int l1), some (.int l2), some (.int l3), some (.int x4), some (.int l5), some (.int l6), some (.int (l7 + 1))] (by simp [fm_sub]) ?_
      exact ih _ _ _ h
theorem lp_X10_chance_41 {d : Nat} {Q : Option Value → fm_M → Prop} {l1 : Int32} {l2 : Int32} {l3 : Int32}   {x : (Int32 × Int32 × Int32) × fm_M} (k1 : ∀ (v : Int32 × Int32 × Int32) (M2 : fm_M), x = (v, M2) → fm_mw (d + 10) mX10_chance Q 140 [some (.ref 76), some (.int l1), some (.int l2), some (.int l3), some (.int v.1), some (.int v.2.1), some (.int v.2.2), none] [] M2) : ∀ (n : Nat) (l4 : Int32) (l5 : Int32) (l6 : Int32) (M : fm_M), G_X10_chance_41 n l1 l2 l3 l4 l5 l6 M = some x → fm_mw (d + 10) mX10_chance Q 41 [some (.ref 76), some (.int l1), some (.int l2), some (.int l3), some (.int l4), some (.int l5), some (.int l6), none] [] M := by
  intro n
  induction n with
  | zero => intro l4 l5 l6 M h; simp [G_X10_chance_41] at h
  | succ n ih =>
    intro l4 l5 l6 M h
    rw [G_X10_chance_41] at h
    refine fl_iload6 (pc := 41) dX10_chance_41 ?_
    refine fm_bipushv (pc := 43) 10 (by decide) dX10_chance_43 ?_
    refine fm_icmp_ge (pc := 45) 140 (by decide) dX10_chance_45 (fun c45 => ?_) (fun c45 => ?_)
    · replace h := fm_itp c45 h
      refine fm_fgt [some (.ref 76), some (.int l1), some (.int l2), some (.int l3), some (.int l4), some (.int l5), some (.int l6), none] (by simp [fm_sub]) ?_
      cases h
      exact k1 _ _ rfl
    · replace h := fm_itn c45 h
      refine fl_aload0 (pc := 48) dX10_chance_48 ?_
      refine fm_iconstv (pc := 49) 1 (by decide) dX10_chance_49 ?_
      refine fm_iconstv (pc := 50) 0 (by decide) dX10_chance_50 ?_
      obtain ⟨v2, M3, ev2, h⟩ := fm_bdp h
      refine fm_callV (pc := 51) mX10_copies [_, _] _ rfl cvX10_copies ml_10_414 sh_76 rfl rfl (Nat.le_of_ble_eq_true rfl) (Nat.le_of_ble_eq_true rfl) dX10_chance_51 ?_
      refine sp_X10_copies ev2 ?_
      refine fm_ret0 ?_
      refine fm_iconstv (pc := 54) 0 (by decide) dX10_chance_54 ?_
      refine fl_istore7 (pc := 55) rfl (by decide) dX10_chance_55 ?_
      obtain ⟨w8, M9, ew8, h⟩ := fm_bdp h
      refine lp_X10_chance_57  ?_ _ _ _ _ ew8
      intro w89 M99 q9
      cases q9
      refine fl_aload0 (pc := 102) dX10_chance_102 ?_
      refine fm_iconstv (pc := 103) (-1) (by decide) dX10_chance_103 ?_
      refine fm_puti (pc := 104) lp_10_93 sh_76 rfl dX10_chance_104 ?_
      obtain ⟨M10, eM10, h⟩ := fm_ltp h
      refine fm_cgm eM10 ?_
      refine fl_iload5 (pc := 107) dX10_chance_107 ?_
      refine fl_aload0 (pc := 109) dX10_chance_109 ?_
      refine fm_iconstv (pc := 110) 1 (by decide) dX10_chance_110 ?_
      refine fm_iconstv (pc := 111) 1 (by decide) dX10_chance_111 ?_
      obtain ⟨v11, M12, ev11, h⟩ := fm_bdp h
      refine fm_callV (pc := 112) mX10_manyOf [_, _] _ rfl cvX10_manyOf ml_10_423 sh_76 rfl rfl (Nat.le_of_ble_eq_true rfl) (Nat.le_of_ble_eq_true rfl) dX10_chance_112 ?_
      refine sp_X10_manyOf ev11 ?_
      refine fm_ret1 ?_
      refine fl_aload0 (pc := 115) dX10_chance_115 ?_
      refine fm_iconstv (pc := 116) 0 (by decide) dX10_chance_116 ?_
      refine fm_iconstv (pc := 117) 1 (by decide) dX10_chance_117 ?_
      obtain ⟨v13, M14, ev13, h⟩ := fm_bdp h
      refine fm_callV (pc := 118) mX10_manyOf [_, _] _ rfl cvX10_manyOf ml_10_423 sh_76 rfl rfl (Nat.le_of_ble_eq_true rfl) (Nat.le_of_ble_eq_true rfl) dX10_chance_118 ?_
      refine sp_X10_manyOf ev13 ?_
      refine fm_ret1 ?_
      refine fm_isub (pc := 121) dX10_chance_121 ?_
      refine fl_iload3 (pc := 122) dX10_chance_122 ?_
      refine fm_icmp_lt (pc := 123) 130 (by decide) dX10_chance_123 (fun c123 => ?_) (fun c123 => ?_)
      · replace h := fm_itp c123 h
        refine fm_iconstv (pc := 130) 0 (by decide) dX10_chance_130 ?_
        refine fm_iadd (pc := 131) dX10_chance_131 ?_
        obtain ⟨x15, ex15, h⟩ := fm_ltp h
        refine fm_cgi ex15 ?_
        refine fl_istore5 (pc := 132) rfl (by decide) dX10_chance_132 ?_
        refine fl_iinc6 (pc := 134) rfl 1 (by decide) (by decide) dX10_chance_134 ?_
        refine fm_goto (pc := 137) 41 (by decide) dX10_chance_137 ?_
        refine fm_fgt [some (.ref 76), some (.int l1), some (.int l2), some (.int l3), some (.int w8.1), some (.int x15), some (.int (l6 + 1)), none] (by simp [fm_sub]) ?_
        exact ih _ _ _ _ h
      · replace h := fm_itn c123 h
        refine fm_iconstv (pc := 126) 1 (by decide) dX10_chance_126 ?_
        refine fm_goto (pc := 127) 131 (by decide) dX10_chance_127 ?_
        refine fm_iadd (pc := 131) dX10_chance_131 ?_
        obtain ⟨x16, ex16, h⟩ := fm_ltp h
        refine fm_cgi ex16 ?_
        refine fl_istore5 (pc := 132) rfl (by decide) dX10_chance_132 ?_
        refine fl_iinc6 (pc := 134) rfl 1 (by decide) (by decide) dX10_chance_134 ?_
        refine fm_goto (pc := 137) 41 (by decide) dX10_chance_137 ?_
        refine fm_fgt [some (.ref 76), some (.int l1), some (.int l2), some (.int l3), some (.int w8.1), some (.int x16), some (.int (l6 + 1)), none] (by simp [fm_sub]) ?_
        exact ih _ _ _ _ h
theorem sp_X10_chance {d : Nat} {a1 : Int32} {a2 : Int32} {a3 : Int32} {M : fm_M} {x : Int32 × fm_M} {Q : Option Value → fm_M → Prop} (h : F_X10_chance a1 a2 a3 M = some x) (hq : Q (some (.int x.1)) x.2) : fm_ct (d + 10) mX10_chance [.ref 76, .int a1, .int a2, .int a3] M Q := by
  rw [F_X10_chance] at h
  show fm_mw (d + 10) mX10_chance Q 0 [some (.ref 76), some (.int a1), some (.int a2), some (.int a3), none, none, none, none] [] M
  refine fl_aload0 (pc := 0) dX10_chance_0 ?_
  refine fm_iconstv (pc := 1) 0 (by decide) dX10_chance_1 ?_
  refine fm_puti (pc := 2) lp_10_130 sh_76 rfl dX10_chance_2 ?_
  obtain ⟨M1, eM1, h⟩ := fm_ltp h
  refine fm_cgm eM1 ?_
  refine fl_iload1 (pc := 5) dX10_chance_5 ?_
  refine fm_if_lt (pc := 6) 30 (by decide) dX10_chance_6 (fun c6 => ?_) (fun c6 => ?_)
  · replace h := fm_itp c6 h
    refine fm_iconstv (pc := 30) (-1) (by decide) dX10_chance_30 ?_
    refine fm_iret (pc := 31) rfl ?_ dX10_chance_31
    cases h
    exact hq
  · replace h := fm_itn c6 h
    refine fl_iload2 (pc := 9) dX10_chance_9 ?_
    refine fm_iconstv (pc := 10) 1 (by decide) dX10_chance_10 ?_
    refine fm_icmp_lt (pc := 11) 30 (by decide) dX10_chance_11 (fun c11 => ?_) (fun c11 => ?_)
    · replace h := fm_itp c11 h
      refine fm_iconstv (pc := 30) (-1) (by decide) dX10_chance_30 ?_
      refine fm_iret (pc := 31) rfl ?_ dX10_chance_31
      cases h
      exact hq
    · replace h := fm_itn c11 h
      refine fl_iload2 (pc := 14) dX10_chance_14 ?_
      refine fm_bipushv (pc := 15) 99 (by decide) dX10_chance_15 ?_
      refine fm_icmp_gt (pc := 17) 30 (by decide) dX10_chance_17 (fun c17 => ?_) (fun c17 => ?_)
      · replace h := fm_itp c17 h
        refine fm_iconstv (pc := 30) (-1) (by decide) dX10_chance_30 ?_
        refine fm_iret (pc := 31) rfl ?_ dX10_chance_31
        cases h
        exact hq
      · replace h := fm_itn c17 h
        refine fl_iload3 (pc := 20) dX10_chance_20 ?_
        refine fm_if_lt (pc := 21) 30 (by decide) dX10_chance_21 (fun c21 => ?_) (fun c21 => ?_)
        · replace h := fm_itp c21 h
          refine fm_iconstv (pc := 30) (-1) (by decide) dX10_chance_30 ?_
          refine fm_iret (pc := 31) rfl ?_ dX10_chance_31
          cases h
          exact hq
        · replace h := fm_itn c21 h
          refine fl_iload3 (pc := 24) dX10_chance_24 ?_
          refine fm_bipushv (pc := 25) 10 (by decide) dX10_chance_25 ?_
          refine fm_icmp_le (pc := 27) 32 (by decide) dX10_chance_27 (fun c27 => ?_) (fun c27 => ?_)
          · replace h := fm_itp c27 h
            refine fl_iload1 (pc := 32) dX10_chance_32 ?_
            refine fl_istore4 (pc := 33) rfl (by decide) dX10_chance_33 ?_
            refine fm_iconstv (pc := 35) 0 (by decide) dX10_chance_35 ?_
            refine fl_istore5 (pc := 36) rfl (by decide) dX10_chance_36 ?_
            refine fm_iconstv (pc := 38) 0 (by decide) dX10_chance_38 ?_
            refine fl_istore6 (pc := 39) rfl (by decide) dX10_chance_39 ?_
            obtain ⟨w17, M18, ew17, h⟩ := fm_bdp h
            refine lp_X10_chance_41  ?_ _ _ _ _ _ ew17
            intro w179 M189 q9
            cases q9
            refine fl_iload5 (pc := 140) dX10_chance_140 ?_
            refine fm_iret (pc := 142) rfl ?_ dX10_chance_142
            cases h
            exact hq
          · replace h := fm_itn c27 h
            refine fm_iconstv (pc := 30) (-1) (by decide) dX10_chance_30 ?_
            refine fm_iret (pc := 31) rfl ?_ dX10_chance_31
            cases h
            exact hq
