/-! lines: laws, and any line -/
theorem tk_law {A B : fm_M} {u n lo d L K : Nat} (h : XR A B u n lo d L K) : (∃ r : Nat, r < 3 ∧ A.1 1 8 = nI (26 + r) ∧ B.1 76 22 = 0 ∧ B.1 76 23 = nI (9 + r)) ∨ ((A.1 1 8 < 26 ∨ (¬ A.1 1 8 < 26 ∧ ¬ A.1 1 8 ≤ 28)) ∧ (¬ B.1 76 22 = 0 ∨ (B.1 76 22 = 0 ∧ (B.1 76 23 < 9 ∨ (¬ B.1 76 23 < 9 ∧ ¬ B.1 76 23 ≤ 11))))) := by
  obtain ⟨-, ⟨p, k, t1, t2, t3, t4, t5, t6, t7, t8, t9⟩, -⟩ := h
  rcases t8 with ⟨z, y⟩ | ⟨z, y⟩ | ⟨z, y, -⟩ | ⟨z, y, z3⟩ | ⟨y, z⟩ | ⟨j, j1, z, y, x⟩
  · exact Or.inr ⟨Or.inl (by rw [z]; decide), Or.inl (by rw [y]; decide)⟩
  · exact Or.inr ⟨Or.inl (by rw [z]; decide), Or.inl (by rw [y]; decide)⟩
  · exact Or.inr ⟨Or.inl (by rw [z]; decide), Or.inl (by rw [y]; decide)⟩
  · exact Or.inr ⟨Or.inl (by rw [z]; decide), Or.inl (by rw [y]; decide)⟩
  · obtain ⟨c, c1, c2, c3⟩ := sgt_c z
    exact Or.inr ⟨Or.inl (by rw [c3]; exact nI_lt (b := 26) (by omega) (by omega)), Or.inl (by rw [y]; decide)⟩
  · by_cases c1 : j < 9
    · exact Or.inr ⟨Or.inl (by rw [z]; exact nI_lt (b := 26) (by omega) (by omega)), Or.inr ⟨y, Or.inl (by rw [x]; exact nI_lt (b := 9) (by omega) (by omega))⟩⟩
    · by_cases c2 : 11 < j
      · exact Or.inr ⟨Or.inr ⟨by rw [z]; exact nI_nlt (b := 26) (by omega) (by omega), by rw [z]; exact nI_ge (a := 28) (by omega) (by omega)⟩, Or.inr ⟨y, Or.inr ⟨by rw [x]; exact nI_nlt (b := 9) (by omega) (by omega), by rw [x]; exact nI_ge (a := 11) (by omega) (by omega)⟩⟩⟩
      · exact Or.inl ⟨j - 9, by omega, by rw [z]; congr 1; omega, y, by rw [x]; congr 1; omega⟩
theorem nI_26 (r : Nat) : (nI (26 + r) - 26 : Int32) = nI r := by
  rw [← show (26 : Int32) + nI r = nI (26 + r) from nI_add 26 r]
  rw [Int32.add_comm, Int32.add_sub_cancel]
theorem nI_9 (r : Nat) : (nI (9 + r) - 9 : Int32) = nI r := by
  rw [← show (9 : Int32) + nI r = nI (9 + r) from nI_add 9 r]
  rw [Int32.add_comm, Int32.add_sub_cancel]
theorem cl_has {A : fm_M} {u r s e : Nat} (hu : fm_isTd u = true) (hr : r < 3) (h1 : A.1 (u + 11) r = nI s) (h2 : A.1 (u + 12) r = nI e) (hs : s ≤ 64) (he : e ≤ 64) : F_X3_has (u + 10) (nI r) A = some (if s < e then 1 else 0, A) := by
  rw [F_X3_has, fm_gd_t (rl_lw hu), if_neg (nI_pos (by omega)), if_neg (show ¬ (3 : Int32) ≤ nI r from nI_ge (b := 3) (by omega) (by omega)), fm_gd_t (nu_inb (by omega) (by omega)), fm_gd_t (nu_inb (by omega) (by omega)), nI_clamp (by omega), show u + 10 + 2 = u + 12 from rfl, show u + 10 + 1 = u + 11 from rfl, h1, h2]
  by_cases c : s < e
  · rw [if_neg (nI_ge (by omega) (by omega)), if_pos c]
  · rw [if_pos (nI_le (by omega) (by omega)), if_neg c]
theorem cl_lbegin {A : fm_M} {u r : Nat} (hu : fm_isTd u = true) (hr : r < 3) : F_X3_begin (u + 10) (nI r) A = some ((), fm_up A (u + 11) r (A.1 (u + 10) 4)) ∧ F_X3_finish (u + 10) (nI r) A = some ((), fm_up A (u + 12) r (A.1 (u + 10) 4)) := by
  rw [F_X3_begin, F_X3_finish]
  simp only [fm_lt]
  rw [fm_gd_t (rl_lw hu), if_neg (nI_pos (by omega)), if_neg (show ¬ (3 : Int32) ≤ nI r from nI_ge (b := 3) (by omega) (by omega)), fm_gd_t (nu_inb (by omega) (by omega)), nI_clamp (by omega), fm_gd_t (rl_lw hu), if_neg (nI_pos (by omega)), if_neg (show ¬ (3 : Int32) ≤ nI r from nI_ge (b := 3) (by omega) (by omega)), fm_gd_t (nu_inb (by omega) (by omega))]
  exact ⟨rfl, rfl⟩
theorem md_65d {B : fm_M} (h : ¬ B.1 76 24 = 0) (x : Int32) : J_X10_lawLine_65 x B = some ((), B) := by rw [J_X10_lawLine_65, if_neg h]
theorem md_30d {B : fm_M} (h : ¬ B.1 76 24 = 0) : J_X10_lawLine_30 B = some ((), B) := by rw [J_X10_lawLine_30, fm_lt, if_neg h, md_65d h]
theorem l_law {A B : fm_M} {u n lo L nf nm nw a b : Nat} (hb : xb A B u n) (h : XR A B u n lo 0 L L) (hd : LDp A B u L nf nm nw a b) (e : A.1 1 8 = 25) : ∃ A2 B2 : fm_M, fm_bd (F_X6_readLaw A) (fun _ M3 => fm_bd (F_X6_pass 4 M3) (fun _ M5 => some ((), M5))) = some ((), A2) ∧ F_X10_line B = some ((), B2) ∧ LO A B A2 B2 u n lo := by
  obtain ⟨s1, s2⟩ := tk_w (w := 8) h (by omega) e
  have hu := fm_td hb.1
  obtain ⟨A2, B2, x1, x2, hb2, hx2, hd2, fA2, fB2⟩ := l_word (w := 8) (A1 := A) (a1 := a) hb h hd (by omega) (by rw [e]; decide) (Or.inl ⟨rfl, rfl, by omega⟩)
  have ml : F_X10_line B = fm_bd (F_X10_lawLine B2) (fun _ M49 => J_X10_line_432_1 8 M49) := by
    rw [F_X10_line, if_pos s1, s2, if_pos (show nI 8 ≤ (8 : Int32) by decide), fm_lt, F_X10_isFull, if_neg (show ¬ nI 8 = (0 : Int32) by decide), J_X10_isFull_14, if_neg (show ¬ nI 8 = (2 : Int32) by decide), J_X10_isFull_29, if_neg (show ¬ nI 8 = (4 : Int32) by decide), fm_bd_s, if_pos rfl, F_X10_isOnce, if_neg (show ¬ nI 8 = (3 : Int32) by decide), if_neg (show ¬ nI 8 < (5 : Int32) by decide), if_pos (show (7 : Int32) < nI 8 by decide), fm_bd_s, if_pos rfl, J_X10_line_67, if_pos h.1.2.1, fm_lt, show F_X10_token (fm_up B 76 17 (B.1 76 17 ||| 1 <<< (nI 8 &&& 31))) = _ from x2, fm_bd_s, if_neg (show ¬ nI 8 = (0 : Int32) by decide), if_neg (show ¬ nI 8 = (1 : Int32) by decide), if_neg (show ¬ nI 8 = (2 : Int32) by decide), if_neg (show ¬ nI 8 = (3 : Int32) by decide), if_neg (show ¬ nI 8 = (4 : Int32) by decide), if_neg (show ¬ nI 8 = (5 : Int32) by decide), if_neg (show ¬ nI 8 = (6 : Int32) by decide), if_neg (show ¬ nI 8 = (7 : Int32) by decide)]
    rfl
  have t2A : tfA u A A2 := fun q k z => fA2 q k (by unfold twA at z; omega)
  have t2B : tfB B B2 := fun q k z => fB2 q k (by unfold twB at z; omega)
  have dead : ∀ (f : Nat), 1 ≤ f → f ≤ 4 → ∃ A3 B3 : fm_M, F_X6_refuse (nI f) A2 = some ((), A3) ∧ F_X10_wrong (nI f) B2 = some ((), B3) ∧ DF A3 B3 ∧ F_X6_pass 4 A3 = some ((), A3) ∧ J_X10_line_432_1 8 B3 = some ((), B3) ∧ LO A B A3 B3 u n lo := by
    intro f f1 f4
    obtain ⟨A3, B3, w1, w2, w3, w4, w5⟩ := l_wr hx2 f1 f4
    exact ⟨A3, B3, w1, w2, w5, cl_passD w5 4, by rw [J_X10_line_432_1, if_neg w5.b], fun q k z => by rw [sfA_t w3 q k z, t2A q k z], fun q k z => by rw [sfB_t w4 q k z, t2B q k z], Or.inl w5⟩
  rw [ml, F_X6_readLaw, x1, fm_bd_s, fm_lt]
  rcases tk_law hx2 with ⟨r, r3, k1, k2, k3⟩ | ⟨k1, k2⟩
  · obtain ⟨s, ee, g1, g2, g3, g4, g5, g6, g7, g8⟩ := hd2.2.2.2.2.2.2 r r3
    obtain ⟨f1, f2, f3, f4, f5⟩ := hd2.2.2.2.2.2.1
    have hL := hx2.2.2.1
    have h64 : L ≤ 64 := hL.2.2.2.2.2
    have hbit : ((B2.1 76 17 >>> ((16 + nI r) &&& 31)) &&& 1) = if (b ||| 2 ^ 8).testBit (16 + r) then 1 else 0 := by rw [f4, show (16 + nI r : Int32) = nI (16 + r) from nI_add 16 r]; exact wd_bit f2 (by omega)
    rw [k1, nI_26, if_neg (show ¬ nI (26 + r) < (26 : Int32) from nI_nlt (b := 26) (by omega) (by omega)), if_pos (show nI (26 + r) ≤ (28 : Int32) from nI_le (b := 28) (by omega) (by omega)), fm_lt, xb_eu hb2, fm_gd_t hb.1, cl_has hb.1 r3 g1 g2 (by omega) (by omega), fm_bd_s, F_X10_lawLine, if_pos k2, k3, if_neg (show ¬ nI (9 + r) < (9 : Int32) from nI_nlt (b := 9) (by omega) (by omega)), if_pos (show nI (9 + r) ≤ (11 : Int32) from nI_le (b := 11) (by omega) (by omega)), J_X10_lawLine_30, k3, nI_9, fm_lt, if_pos hx2.1.2.1, hbit]
    by_cases c : s < ee
    · obtain ⟨A3, B3, w1, w2, w3, w4, w5, w6⟩ := dead 3 (by omega) (by omega)
      rw [if_pos c, if_neg n10, g8.mpr c, if_pos rfl, if_pos rfl, show F_X6_refuse 3 A2 = _ from w1, fm_bd_s, fm_bd_s, w4, fm_bd_s, show F_X10_wrong 3 B2 = _ from w2, fm_bd_s, md_65d w3.b, fm_bd_s, w5]
      exact ⟨A3, B3, rfl, rfl, w6⟩
    · have nb : (b ||| 2 ^ 8).testBit (16 + r) = false := Bool.eq_false_iff.mpr (fun z => c (g8.mp z))
      rw [if_neg c, if_pos rfl, nb, if_neg (by decide), J_X10_lawLine_65, if_pos hx2.1.2.1]
      obtain ⟨B3, eB3⟩ : ∃ z, fm_up B2 76 17 (B2.1 76 17 ||| ((1 : Int32) <<< ((16 + nI r) &&& 31))) = z := ⟨_, rfl⟩
      have fB3 : ∀ q k, (q ≠ 76 ∨ k ≠ 17) → B3.1 q k = B2.1 q k := fun q k z => by rw [← eB3, fm_up_ne (by omega)]
      have hb3 : xb A2 B3 u n := xb_cg hb2 (fun r k z => Or.inr rfl) (fun r k z => Or.inr (fB3 r k (by unfold cB at z; omega)))
      have hx3 : XR A2 B3 u n (lo + 1) 0 L L := XR_cg hx2 (fun r k z => rfl) (fun r k z => fB3 r k (by unfold cB at z; omega))
      obtain ⟨A4, B4, z1, z2, -, hx4, fA4, fB4⟩ := l_adv hb3 hx3
      have hb4 : xb A4 B4 u n := xb_cg hb3 (fun q k z => by unfold cA sA at *; by_cases c : (q = 1 ∧ 7 ≤ k ∧ k ≤ 10); exact Or.inl (by omega); exact Or.inr (fA4 q k (by omega))) (fun q k z => by unfold cB sB at *; by_cases c : (q = 76 ∧ 20 ≤ k ∧ k ≤ 23); exact Or.inl (by omega); exact Or.inr (fB4 q k (by omega)))
      obtain ⟨A5, eA5⟩ : ∃ z, fm_up A4 (u + 11) r (nI L) = z := ⟨_, rfl⟩
      obtain ⟨B5, eB5⟩ : ∃ z, fm_up B4 88 (3 + r) (nI L) = z := ⟨_, rfl⟩
      have hb5 : xb A5 B5 u n := by rw [← eA5, ← eB5]; exact xb_cg hb4 (fun r k z => Or.inr (fm_up_ne (by unfold cA at z; omega))) (fun r k z => Or.inr (fm_up_ne (by unfold cB at z; omega)))
      have hx5 : XR A5 B5 u n (lo + 1) 0 L L := by rw [← eA5, ← eB5]; exact XR_cg hx4 (fun r k z => fm_up_ne (by unfold cA at z; omega)) (fun r k z => fm_up_ne (by unfold cB at z; omega))
      obtain ⟨A6, B6, o1, o2, o3, o4, o5⟩ := x_all.1 A5 B5 (lo + 1) L L hb5 hx5
      have hb6 := xb_fr hb5 o3 o4
      obtain ⟨A7, eA7⟩ : ∃ z, fm_up A6 (u + 12) r (A6.1 (u + 10) 4) = z := ⟨_, rfl⟩
      obtain ⟨B7, eB7⟩ : ∃ z, fm_up B6 89 (3 + r) (B6.1 78 18) = z := ⟨_, rfl⟩
      have e3r : (3 + nI r : Int32) = nI (3 + r) := nI_add 3 r
      have hb7 : xb A7 B7 u n := by rw [← eA7, ← eB7]; exact xb_cg hb6 (fun r k z => Or.inr (fm_up_ne (by unfold cA at z; omega))) (fun r k z => Or.inr (fm_up_ne (by unfold cB at z; omega)))
      have gA : ∀ q k, ¬ xwA u q k → (q ≠ 1 ∨ k < 7 ∨ 10 < k) → (q ≠ u + 11 ∨ k ≠ r) → (q ≠ u + 12 ∨ k ≠ r) → A7.1 q k = A2.1 q k := fun q k w1 w0 w2 w3 => by rw [← eA7, fm_up_ne (by omega), o3 q k w1, ← eA5, fm_up_ne (by omega), fA4 q k (by omega)]
      have gB : ∀ q k, ¬ xwB q k → (q ≠ 76 ∨ k ≠ 17) → (q ≠ 88 ∨ k ≠ 3 + r) → (q ≠ 89 ∨ k ≠ 3 + r) → B7.1 q k = B2.1 q k := fun q k w1 w2 w3 w4 => by rw [← eB7, fm_up_ne (by omega), o4 q k w1, ← eB5, fm_up_ne (by omega), fB4 q k (by unfold xwB at w1; omega), fB3 q k (by omega)]
      have clr : ∀ A14 : fm_M, F_X6_pass 4 A7 = some ((), A14) → fm_bd (fm_bd (F_X6_advance A2) (fun _ M11 => fm_lt (Int32.toNatClampNeg (M11.1 1 5)) (fun t12 => fm_gd (fm_isTd t12) (fm_bd (F_X3_begin (t12 + 10) (nI r) M11) (fun _ M15 => fm_bd (F_X6_readEither 0 M15) (fun _ M17 => fm_lt (Int32.toNatClampNeg (M17.1 1 5)) (fun t18 => fm_gd (fm_isTd t18) (fm_bd (F_X3_finish (t18 + 10) (nI r) M17) (fun _ M21 => some ((), M21)))))))))) (fun _ M3 => fm_bd (F_X6_pass 4 M3) (fun _ M5 => some ((), M5))) = some ((), A14) := by
        intro A14 q1
        simp only [z1, fm_bd_s, fm_lt, xb_eu hb4, fm_gd_t hb.1, (cl_lbegin hb.1 r3).1, (cl_lbegin hb.1 r3).2, show A4.1 (u + 10) 4 = nI L from hx4.2.2.1.1, eA5, o1, xb_eu hb6, eA7, q1]
      have mdr : ∀ B14 : fm_M, J_X10_line_432_1 8 B7 = some ((), B14) → fm_bd (fm_lt (fm_up B2 76 17 (B2.1 76 17 ||| ((1 : Int32) <<< ((16 + nI r) &&& 31)))) (fun M4 => fm_bd (F_X10_token M4) (fun _ M6 => fm_bd (F_X10_fresher 8 M6) (fun v7 M8 => fm_gd (fm_inb (3 + nI r) 6) (fm_lt (fm_up M8 88 (Int32.toNatClampNeg (3 + nI r)) v7) (fun M10 => fm_bd (F_X10_expression M10) (fun _ M12 => fm_bd (F_X10_fresher 8 M12) (fun v13 M14 => fm_gd (fm_inb (3 + nI r) 6) (fm_lt (fm_up M14 89 (Int32.toNatClampNeg (3 + nI r)) v13) (fun M16 => some ((), M16))))))))))) (fun _ M49 => J_X10_line_432_1 8 M49) = some ((), B14) := by
        intro B14 q2
        have ei : fm_inb (nI (3 + r)) 6 = true := nu_inb (by omega) (by omega)
        have ec : Int32.toNatClampNeg (nI (3 + r)) = 3 + r := nI_clamp (by omega)
        simp only [fm_lt, eB3, z2, fm_bd_s, show ∀ M, F_X10_fresher 8 M = _ from md_fr 8 (by omega), e3r, fm_gd_t ei, ec, show B4.1 78 (10 + 8) = nI L from hx4.2.2.1.2.1, eB5, o2, show ∀ M : fm_M, M.1 78 (10 + 8) = M.1 78 18 from fun _ => rfl, eB7, q2]
      have tA : ∀ A14 : fm_M, sfA A7 A14 → tfA u A A14 := fun A14 q3 q k z => by rw [q3 q k (by unfold twA at z; unfold sA; omega), gA q k (by unfold twA at z; unfold xwA; omega) (by unfold twA at z; omega) (by unfold twA at z; omega) (by unfold twA at z; omega), t2A q k z]
      have tB : ∀ B14 : fm_M, (∀ q k, ¬ sB q k → (q ≠ 76 ∨ k ≠ 18) → B14.1 q k = B7.1 q k) → tfB B B14 := fun B14 q4 q k z => by rw [q4 q k (by unfold twB at z; unfold sB; omega) (by unfold twB at z; omega), gB q k (by unfold twB at z; unfold xwB; omega) (by unfold twB at z; omega) (by unfold twB at z; omega) (by unfold twB at z; omega), t2B q k z]
      rcases o5 with o5 | ⟨L2, K2, o5, o6, o7, o8, o9⟩
      · have d7 : DF A7 B7 := DF_cg o5.d (fun k z => by rw [← eA7, fm_up_ne (by omega)]) (fun k z z2 => by rw [← eB7, fm_up_ne (by omega)])
        exact ⟨A7, B7, clr A7 (cl_passD d7 4), mdr B7 (by rw [J_X10_line_432_1, if_neg d7.b]), tA A7 sfA_rf, tB B7 (fun _ _ _ _ => rfl), Or.inl d7⟩
      · have eK : K2 = L2 := by omega
        subst eK
        obtain ⟨m1, m2, -, -, -, m6⟩ := o5.2.2.1
        have hx7 : XR A7 B7 u n (lo + 1) 0 K2 K2 := by rw [← eA7, ← eB7]; exact XR_cg o5 (fun r k z => fm_up_ne (by unfold cA at z; omega)) (fun r k z => fm_up_ne (by unfold cB at z; omega))
        obtain ⟨A14, B14, q1, q2, q3, q4, q5⟩ := l_end hb7 (Or.inr ⟨hx7, trivial⟩) 8
        refine ⟨A14, B14, clr A14 q1, mdr B14 q2, tA A14 q3, tB B14 q4, ?_⟩
        rcases q5 with q5 | ⟨q5, -, q6⟩
        · exact Or.inl q5
        · obtain ⟨d1, d2, d3, d4, d5, d6, d7⟩ := hd2
          have rA : ∀ q k, (q ≠ 1 ∨ k = 11) → q ≠ u + 10 → q ≠ u + 13 → q ≠ u + 14 → (q ≠ u + 11 ∨ k ≠ r) → (q ≠ u + 12 ∨ k ≠ r) → A14.1 q k = A2.1 q k := fun q k w1 w2 w3 w4 w5 w6 => by rw [q3 q k (by unfold sA; omega), gA q k (by unfold xwA; omega) (by omega) w5 w6]
          have rB : ∀ q k, q ≠ 76 → q < 90 → (q ≠ 78 ∨ k ≠ 18) → (q ≠ 88 ∨ k ≠ 3 + r) → (q ≠ 89 ∨ k ≠ 3 + r) → B14.1 q k = B2.1 q k := fun q k w1 w2 w3 w4 w5 => by rw [q4 q k (by unfold sB; omega) (by omega), gB q k (by unfold xwB; omega) (by omega) w4 w5]
          have rc : ∀ i, B14.1 90 (64 + i) = B6.1 90 (64 + i) ∧ B14.1 91 (64 + i) = B6.1 91 (64 + i) := fun i => ⟨by rw [q4 _ _ (by unfold sB; omega) (by omega), ← eB7, fm_up_ne (by omega)], by rw [q4 _ _ (by unfold sB; omega) (by omega), ← eB7, fm_up_ne (by omega)]⟩
          have p24 : (2 : Nat) ^ (16 + r) < 2 ^ 24 := Nat.pow_lt_pow_right (by omega) (by omega)
          refine Or.inr ⟨K2, nf, nm, nw, a, (b ||| 2 ^ 8) ||| 2 ^ (16 + r), q5, ⟨gC_cg d1 (fun q k z => rA q k (by omega) (by omega) (by omega) (by omega) (by omega) (by omega)) (fun q k z => rB q k (by omega) (by omega) (by omega) (by omega) (by omega)), gV_cg d2 (fun q k z => rA q k (by omega) (by omega) (by omega) (by omega) (by omega) (by omega)) (fun q k z => rB q k (by omega) (by omega) (by omega) (by omega) (by omega)), gF_cg d3 (fun q k z => rA q k (by omega) (by omega) (by omega) (by omega) (by omega) (by omega)) (fun q k z => rB q k (by omega) (by omega) (by omega) (by omega) (by omega)), gM_cg d4 (fun q k z => rA q k (by omega) (by omega) (by omega) (by omega) (by omega) (by omega)) (fun q k z => rB q k (by omega) (by omega) (by omega) (by omega) (by omega)), gW_cg d5 (fun q k z => rA q k (by omega) (by omega) (by omega) (by omega) (by omega) (by omega)) (fun q k z => rB q k (by omega) (by omega) (by omega) (by omega) (by omega)), ⟨f1, Nat.or_lt_two_pow f2 p24, by rw [rA _ _ (by omega) (by omega) (by omega) (by omega) (by omega) (by omega)]; exact f3, ?_, fun w hw => by rw [or_tb, decide_eq_false (by omega), Bool.or_false]; exact f5 w hw⟩, fun r2 hr2 => ?_⟩, ?_⟩
          · rw [q4 _ _ (by unfold sB; omega) (by omega), ← eB7, fm_up_ne (by omega), o4 _ _ (by unfold xwB; omega), ← eB5, fm_up_ne (by omega), fB4 _ _ (by omega), ← eB3, fm_up_get, f4, show (16 + nI r : Int32) = nI (16 + r) from nI_add 16 r, (wd_sh (16 + r) (by omega)).2, wd_or f2 p24]
          · by_cases cr : r2 = r
            · subst cr
              refine ⟨L, K2, ?_, ?_, ?_, ?_, by omega, Nat.le_refl _, fun _ => seg_cg o8 (fun i _ _ => rc i), ⟨fun _ => by omega, fun _ => by rw [or_tb, decide_eq_true rfl, Bool.or_true]⟩⟩
              · rw [q3 _ _ (by unfold sA; omega), ← eA7, fm_up_ne (by omega), o3 _ _ (by unfold xwA; omega), ← eA5, fm_up_get]
              · rw [q3 _ _ (by unfold sA; omega), ← eA7, fm_up_get]; exact m1
              · rw [q4 _ _ (by unfold sB; omega) (by omega), ← eB7, fm_up_ne (by omega), o4 _ _ (by unfold xwB; omega), ← eB5, fm_up_get]
              · rw [q4 _ _ (by unfold sB; omega) (by omega), ← eB7, fm_up_get]; exact m2
            · refine gL1_cg (d7 r2 hr2) (by omega) (by rw [or_tb, decide_eq_false (by omega), Bool.or_false]) ⟨rA _ _ (by omega) (by omega) (by omega) (by omega) (by omega) (by omega), rA _ _ (by omega) (by omega) (by omega) (by omega) (by omega) (by omega)⟩ ⟨rB _ _ (by omega) (by omega) (by omega) (by omega) (by omega), rB _ _ (by omega) (by omega) (by omega) (by omega) (by omega)⟩ (fun i hi => ?_)
              have k9 := o9 i hi
              exact ⟨by rw [(rc i).1, k9.2.2.1, ← eB5, fm_up_ne (by omega), fB4 _ _ (by omega), fB3 _ _ (by omega)], by rw [(rc i).2, k9.2.2.2, ← eB5, fm_up_ne (by omega), fB4 _ _ (by omega), fB3 _ _ (by omega)]⟩
          · rw [q6, ← eB7, fm_up_ne (by omega), o4 _ _ (by unfold xwB; omega), ← eB5, fm_up_ne (by omega), fB4 _ _ (by omega), fB3 _ _ (by omega), fB2 _ _ (by omega)]
  · obtain ⟨A3, B3, w1, w2, w3, w4, w5, w6⟩ := dead 1 (by omega) (by omega)
    have m25 : J_X10_lawLine_25 B2 = some ((), B3) := by rw [J_X10_lawLine_25, show F_X10_wrong 1 B2 = _ from w2, fm_bd_s, md_30d w3.b]
    have mll : F_X10_lawLine B2 = some ((), B3) := by
      rw [F_X10_lawLine]
      rcases k2 with k | ⟨k, k | ⟨k', k''⟩⟩
      · rw [if_neg k, m25]
      · rw [if_pos k, if_pos (by assumption), m25]
      · rw [if_pos k, if_neg k', if_neg k'', m25]
    refine ⟨A3, B3, ?_, by rw [mll, fm_bd_s, w5], w6⟩
    rcases k1 with k | ⟨k, k'⟩
    · rw [if_pos k, show F_X6_refuse 1 A2 = _ from w1, fm_bd_s, fm_bd_s, w4, fm_bd_s]
    · rw [if_neg k, if_neg k', show F_X6_refuse 1 A2 = _ from w1, fm_bd_s, fm_bd_s, w4, fm_bd_s]
/-- any line -/
theorem l_line {A B : fm_M} {u n lo L nf nm nw a b : Nat} (hb : xb A B u n) (h : XR A B u n lo 0 L L) (hd : LDp A B u L nf nm nw a b) : ∃ A2 B2 : fm_M, F_X6_readLine A = some ((), A2) ∧ F_X10_line B = some ((), B2) ∧ LO A B A2 B2 u n lo := by
  rw [F_X6_readLine, fm_lt]
  by_cases c0 : A.1 1 8 = 17
  · rw [if_pos c0]; exact l_fork hb h hd c0
  by_cases c1 : A.1 1 8 = 18
  · rw [if_neg c0, if_pos c1]; exact l_crack hb h hd c1
  by_cases c2 : A.1 1 8 = 19
  · rw [if_neg c0, if_neg c1, if_pos c2]; exact l_motion hb h hd c2
  by_cases c3 : A.1 1 8 = 20
  · rw [if_neg c0, if_neg c1, if_neg c2, if_pos c3]; exact l_pass hb h hd c3
  by_cases c4 : A.1 1 8 = 21
  · rw [if_neg c0, if_neg c1, if_neg c2, if_neg c3, if_pos c4]; exact l_wet hb h hd c4
  by_cases c5 : A.1 1 8 = 22
  · rw [if_neg c0, if_neg c1, if_neg c2, if_neg c3, if_neg c4, if_pos c5]; exact l_purse hb h hd c5
  by_cases c6 : A.1 1 8 = 23
  · rw [if_neg c0, if_neg c1, if_neg c2, if_neg c3, if_neg c4, if_neg c5, if_pos c6]; exact l_loud hb h hd c6
  by_cases c7 : A.1 1 8 = 24
  · rw [if_neg c0, if_neg c1, if_neg c2, if_neg c3, if_neg c4, if_neg c5, if_neg c6, if_pos c7]; exact l_seed hb h hd c7
  by_cases c8 : A.1 1 8 = 25
  · rw [if_neg c0, if_neg c1, if_neg c2, if_neg c3, if_neg c4, if_neg c5, if_neg c6, if_neg c7, if_pos c8]; exact l_law hb h hd c8
  rw [if_neg c0, if_neg c1, if_neg c2, if_neg c3, if_neg c4, if_neg c5, if_neg c6, if_neg c7, if_neg c8]
  obtain ⟨A2, B2, x1, x2, x3, -, -, x5⟩ := l_ref (f := 1) h (by omega) (by omega)
  have x1 : F_X6_refuse 1 A = some ((), A2) := x1
  have x3 : F_X10_wrong 1 B = some ((), B2) := x3
  refine ⟨A2, B2, by rw [x1, fm_bd_s, x2, fm_bd_s], ?_, x5⟩
  rw [F_X10_line]
  by_cases d : B.1 76 22 = 0
  · rw [if_pos d, if_neg ?_, x3, fm_bd_s]
    intro z
    obtain ⟨-, ⟨p, k, t1, t2, t3, t4, t5, t6, t7, t8, t9⟩, -⟩ := h
    rw [d] at t8
    rcases t8 with ⟨-, y⟩ | ⟨-, y⟩ | ⟨-, y, -⟩ | ⟨-, y, -⟩ | ⟨y, -⟩ | ⟨j, j1, y, -, x⟩
    · exact absurd y (by decide)
    · exact absurd y (by decide)
    · exact absurd y (by decide)
    · exact absurd y (by decide)
    · exact absurd y (by decide)
    · rw [x] at z
      have : j ≤ 8 := by
        by_cases w : j ≤ 8
        · exact w
        · exact absurd z (nI_ge (a := 8) (by omega) (by omega))
      have : j = 0 ∨ j = 1 ∨ j = 2 ∨ j = 3 ∨ j = 4 ∨ j = 5 ∨ j = 6 ∨ j = 7 ∨ j = 8 := by omega
      rcases this with rfl | rfl | rfl | rfl | rfl | rfl | rfl | rfl | rfl
      · exact c0 y
      · exact c1 y
      · exact c2 y
      · exact c3 y
      · exact c4 y
      · exact c5 y
      · exact c6 y
      · exact c7 y
      · exact c8 y
  · rw [if_neg d, x3, fm_bd_s]
