/-! expressions: the smallest parts -/
theorem xk_rf {A B : fm_M} {u L : Nat} : xk A B A B u L := fun _ _ => ⟨rfl, rfl, rfl, rfl⟩
/-- a leaf -/
theorem x_leaf {A B : fm_M} {u n lo d L K : Nat} (hb : xb A B u n) (h : XR A B u n lo d L K) (t v s w : Int32) (ho : (t = 2 ∧ s = 0 ∧ w = v) ∨ ∃ j : Nat, j < 7 ∧ t = nI (32 + j) ∧ s = 1 ∧ w = nI j) : ∃ A1 A2 B1 B2 B3 : fm_M, F_X6_passKnot A = some ((), A1) ∧ Int32.toNatClampNeg (A1.1 1 5) = u ∧ F_X3_add (u + 10) t v A1 = some ((), A2) ∧ F_X10_knot B = some ((), B1) ∧ B1.1 76 23 = B.1 76 23 ∧ F_X10_puts s w B1 = some ((), B2) ∧ F_X10_goOn B2 = some ((), B3) ∧ XO A B A2 B3 u n lo d L K := by
  obtain ⟨⟨h1, h2, h3⟩, ⟨p, k, t1, t2, t3, t4, t5, t6, t7, t8, t9⟩, ⟨l1, l2, l3, l4, l5, l6⟩, h4, h5⟩ := id h
  have hu := fm_td hb.1
  have eu : Int32.toNatClampNeg (A.1 1 5) = u := by rw [hb.2.2, nI_clamp (by omega)]
  rw [F_X6_passKnot]
  simp only [fm_lt]
  rw [eu, fm_gd_t hb.1, l3, F_X10_knot, if_pos h2, l4]
  by_cases c : K = 64
  · subst c
    obtain ⟨A2, B2, x1, x2, x3, x4, x5⟩ := x_wr (f := 2) hb h (by omega) (by omega)
    have hb2 := xb_fr hb x3 x4
    obtain ⟨A3, z1, z2, z3⟩ := cl_addF t v hb2 x5
    rw [if_neg (show ¬ nI 64 < (64 : Int32) by decide), if_pos (show nI 64 = (64 : Int32) from rfl), show F_X6_refuse 2 A = _ from x1, fm_bd_s, show F_X10_wrong 2 B = _ from x2, fm_bd_s]
    refine ⟨A2, A3, B2, B2, B2, rfl, by rw [hb2.2.2, nI_clamp (by omega)], z1, rfl, ?_, (md_dead x5.b).2.2.1 s w, (md_dead x5.b).2.1, xfA_tr x3 z2, x4, Or.inl z3⟩
    have x2 : F_X10_wrong 2 B = some ((), B2) := x2
    rw [F_X10_wrong, if_pos h2] at x2
    simp only [fm_lt] at x2
    have x2 := congrArg Prod.snd (Option.some.inj x2)
    dsimp only at x2
    rw [← x2, fm_up_ne (by omega), fm_up_ne (by omega)]
  · have hL : (fm_up B 76 29 (nI (K + 1))).1 78 18 = nI L := by rw [fm_up_ne (by omega)]; exact l2
    obtain ⟨Bp, ep⟩ : ∃ Bp, Bp = fm_up (fm_up (fm_up (fm_up B 76 29 (nI (K + 1))) 90 (64 + L) s) 91 (64 + L) w) 78 18 (nI (L + 1)) := ⟨_, rfl⟩
    have mp := md_puts (B := fm_up B 76 29 (nI (K + 1))) (L := L) s w (by rw [fm_up_ne (by omega)]; exact h2) hL (by omega)
    rw [← ep] at mp
    have fBp : ∀ q j, (q = 76 ∧ j ≠ 29) → Bp.1 q j = B.1 q j := fun q j z => by rw [ep, fm_up_ne (by omega), fm_up_ne (by omega), fm_up_ne (by omega), fm_up_ne (by omega)]
    have xBp : xfB B Bp := fun q k z => by unfold xwB at z; rw [ep, fm_up_ne (by omega), fm_up_ne (by omega), fm_up_ne (by omega), fm_up_ne (by omega)]
    obtain ⟨A1, ea⟩ : ∃ A1, A1 = fm_up A (u + 10) 5 (nI (K + 1)) := ⟨_, rfl⟩
    have fA1 : ∀ q j, (q ≠ u + 10 ∨ j ≠ 5) → A1.1 q j = A.1 q j := fun q j z => by rw [ea, fm_up_ne z]
    have hb1 : xb A1 Bp u n := xb_fr hb (fun q k z => fA1 q k (by unfold xwA at z; omega)) xBp
    obtain ⟨p2, k2, A2, B2, x1, x2, x3, x4, x5, x6, x7, x8, x9, x10, x11, x12, x13⟩ := tk_adv hb1.2.1 (by rw [fA1 _ _ (by omega)]; exact t4) (by rw [fBp _ _ (by omega)]; exact t5) t3
    have hL2 : A2.1 (u + 10) 4 = nI L := by rw [x12 _ _ (by omega), fA1 _ _ (by omega)]; exact l1
    have ca := cl_add2 t v hb.1 hL2 (by omega)
    obtain ⟨A3, e3⟩ : ∃ A3, A3 = fm_up (fm_up (fm_up A2 (u + 13) L t) (u + 14) L v) (u + 10) 4 (nI (L + 1)) := ⟨_, rfl⟩
    rw [← e3] at ca
    have f3 : ∀ q j, (q ≠ u + 13 ∧ q ≠ u + 14 ∧ (q ≠ u + 10 ∨ j ≠ 4)) → A3.1 q j = A2.1 q j := fun q j z => by rw [e3, fm_up_ne (by omega), fm_up_ne (by omega), fm_up_ne (by omega)]
    rw [if_pos (show nI K < (64 : Int32) from nI_lt (b := 64) (by omega) (by omega)), if_neg (show ¬ nI K = (64 : Int32) from fun z => c ((nI_eq (b := 64) (by omega) (by omega)).mp z)), nI_1, fm_gd_t hb.1, ← ea, x4, fm_bd_s]
    refine ⟨A2, A3, fm_up B 76 29 (nI (K + 1)), Bp, B2, rfl, by rw [x12 _ _ (by omega), fA1 _ _ (by omega), eu], ca, rfl, fm_up_ne (by omega), mp, ?_, fun q k z => ?_, fun q k z => ?_, Or.inr ⟨L + 1, K + 1, ?_, by omega, by omega, ?_, fun i hi => ?_⟩⟩
    · rw [F_X10_goOn, fBp _ _ (by omega), if_pos h2, x5, fm_bd_s]
    · unfold xwA at z; rw [f3 _ _ (by omega), x12 _ _ (by omega), fA1 _ _ (by omega)]
    · rw [x13 _ _ (by unfold xwB at z; omega)]; exact xBp q k z
    · refine ⟨⟨by rw [f3 _ _ (by omega), x12 _ _ (by omega), fA1 _ _ (by omega)]; exact h1, by rw [x13 _ _ (by omega), fBp _ _ (by omega)]; exact h2, by rw [f3 _ _ (by omega), x12 _ _ (by omega), fA1 _ _ (by omega), x13 _ _ (by omega), fBp _ _ (by omega)]; exact h3⟩, ⟨p2, k2, by omega, x2, x3, by rw [f3 _ _ (by omega)]; exact x6, x7, by rw [f3 _ _ (by omega)]; exact x8, x9, by rw [f3 _ _ (by omega), f3 _ _ (by omega)]; exact x10, by rw [f3 _ _ (by omega)]; exact x11⟩, ⟨by rw [e3, fm_up_get], by rw [x13 _ _ (by omega), ep, fm_up_get], by rw [f3 _ _ (by omega), x12 _ _ (by omega), ea, fm_up_get], by rw [x13 _ _ (by omega), ep, fm_up_ne (by omega), fm_up_ne (by omega), fm_up_ne (by omega), fm_up_get], by omega, by omega⟩, ⟨by rw [x13 _ _ (by omega), fBp _ _ (by omega)]; exact h4.1, h4.2⟩, fun i hi => ?_⟩
      by_cases ci : i = L
      · subst ci
        have g1 : A3.1 (u + 13) i = t := by rw [e3, fm_up_ne (by omega), fm_up_ne (by omega), fm_up_get]
        have g2 : A3.1 (u + 14) i = v := by rw [e3, fm_up_ne (by omega), fm_up_get]
        have g3 : B2.1 90 (64 + i) = s := by rw [x13 _ _ (by omega), ep, fm_up_ne (by omega), fm_up_ne (by omega), fm_up_get]
        have g4 : B2.1 91 (64 + i) = w := by rw [x13 _ _ (by omega), ep, fm_up_ne (by omega), fm_up_get]
        unfold xtk
        rw [g1, g2, g3, g4]
        rcases ho with ⟨o1, o2, o3⟩ | ⟨j, o1, o2, o3, o4⟩
        · exact Or.inl ⟨o1, o2, o3⟩
        · exact Or.inr (Or.inl ⟨j, o1, o2, o3, o4⟩)
      · refine xtk_cg (h5 i (by omega)) ⟨?_, ?_, ?_, ?_⟩
        · rw [e3, fm_up_ne (by omega), fm_up_ne (by omega), fm_up_ne (by omega), x12 _ _ (by omega), fA1 _ _ (by omega)]
        · rw [e3, fm_up_ne (by omega), fm_up_ne (by omega), fm_up_ne (by omega), x12 _ _ (by omega), fA1 _ _ (by omega)]
        · rw [x13 _ _ (by omega), ep, fm_up_ne (by omega), fm_up_ne (by omega), fm_up_ne (by omega), fm_up_ne (by omega)]
        · rw [x13 _ _ (by omega), ep, fm_up_ne (by omega), fm_up_ne (by omega), fm_up_ne (by omega), fm_up_ne (by omega)]
    · refine seg_leaf ?_
      rw [x13 _ _ (by omega), ep, fm_up_ne (by omega), fm_up_ne (by omega), fm_up_get]
      rcases ho with ⟨-, rfl, -⟩ | ⟨j, -, -, rfl, -⟩ <;> decide
    · refine ⟨?_, ?_, ?_, ?_⟩
      · rw [e3, fm_up_ne (by omega), fm_up_ne (by omega), fm_up_ne (by omega), x12 _ _ (by omega), fA1 _ _ (by omega)]
      · rw [e3, fm_up_ne (by omega), fm_up_ne (by omega), fm_up_ne (by omega), x12 _ _ (by omega), fA1 _ _ (by omega)]
      · rw [x13 _ _ (by omega), ep, fm_up_ne (by omega), fm_up_ne (by omega), fm_up_ne (by omega), fm_up_ne (by omega)]
      · rw [x13 _ _ (by omega), ep, fm_up_ne (by omega), fm_up_ne (by omega), fm_up_ne (by omega), fm_up_ne (by omega)]
/-- the reference once there is a fault -/
theorem md_162 {rB : fm_M → Option (Unit × fm_M)} {B : fm_M} (h : ¬ B.1 76 24 = 0) (x : Int32) : J_X10_primary_162 rB x B = some ((), B) := by
  have d := md_dead h
  rw [J_X10_primary_162, d.1, fm_bd_s]
  by_cases c : x = 0
  · rw [if_pos c, J_X10_primary_176, if_pos c, d.2.2.1, fm_bd_s, d.2.1, fm_bd_s]
  · rw [if_neg c, J_X10_primary_176, if_neg c, d.2.2.1, fm_bd_s, d.2.1, fm_bd_s]
/-- between parentheses -/
theorem x_par {u n d : Nat} {rA : Int32 → fm_M → Option (Unit × fm_M)} {rB : fm_M → Option (Unit × fm_M)} (hc : d < 8 → XC u n (d + 1) (rA (nI (d + 1))) rB) {A B : fm_M} {lo L K : Nat} (hb : xb A B u n) (h : XR A B u n lo d L K) (v : Int32) : ∃ A2 B2 : fm_M, J_X6_readPart_74 rA (nI d) 5 v A = some ((), A2) ∧ (if (B.1 76 28) = 8 then (fm_bd (F_X10_wrong 2 B) (fun _ M30 => J_X10_primary_31 rB M30)) else (J_X10_primary_31 rB B)) = some ((), B2) ∧ XO A B A2 B2 u n lo d L K := by
  obtain ⟨⟨h1, h2, h3⟩, -, ⟨l1, l2, l3, l4, l5, l6⟩, h4, h5⟩ := id h
  have hu := fm_td hb.1
  rw [J_X6_readPart_74, if_pos rfl, h4.1]
  by_cases c : d = 8
  · subst c
    obtain ⟨A2, B2, x1, x2, x3, x4, x5⟩ := x_wr (f := 2) hb h (by omega) (by omega)
    rw [if_neg (show ¬ nI 8 < (8 : Int32) by decide), if_pos (show nI 8 = (8 : Int32) from rfl), show F_X6_refuse 2 A = _ from x1, fm_bd_s, show F_X10_wrong 2 B = _ from x2, fm_bd_s, J_X10_primary_31, if_neg x5.b]
    exact ⟨A2, B2, rfl, rfl, x3, x4, Or.inl x5⟩
  · have hc := hc (by omega)
    rw [if_pos (show nI d < (8 : Int32) from nI_lt (b := 8) (by omega) (by omega)), if_neg (show ¬ nI d = (8 : Int32) from fun z => c ((nI_eq (b := 8) (by omega) (by omega)).mp z)), J_X10_primary_31, if_pos h2, h4.1, nI_1, fm_lt]
    have hb1 : xb A (fm_up B 76 28 (nI (d + 1))) u n := xb_fr hb xfA_rf (fun q k z => fm_up_ne (by unfold xwB at z; omega))
    obtain ⟨A1, B1, x1, x2, x3, x4, x5, -⟩ := x_adv (L1 := L) (K1 := K) (d1 := d + 1) hb1 h (fun q k z => rfl) (fun k z => fm_up_ne (by omega)) ⟨l1, by rw [fm_up_ne (by omega)]; exact l2, l3, by rw [fm_up_ne (by omega)]; exact l4, by omega, by omega⟩ ⟨fm_up_get, by omega⟩ (fun i hi => xtk_cg (h5 i hi) ⟨rfl, rfl, fm_up_ne (by omega), fm_up_ne (by omega)⟩)
    have fa1 : xfA u A A1 := fun q k z => x4 q k (by unfold xwA at z; omega)
    have fb1 : xfB B B1 := fun q k z => by rw [x5 q k (by unfold xwB at z; omega), fm_up_ne (by unfold xwB at z; omega)]
    have k1 : xk A B A1 B1 u L := fun i hi => ⟨x4 _ _ (by omega), x4 _ _ (by omega), by rw [x5 _ _ (by omega), fm_up_ne (by omega)], by rw [x5 _ _ (by omega), fm_up_ne (by omega)]⟩
    have hb2 := xb_fr hb fa1 fb1
    obtain ⟨A2, B2, y1, y2, y3, y4, y5⟩ := hc.1 A1 B1 lo L K hb2 x3
    rw [x1, fm_bd_s, x2, fm_bd_s, y1, fm_bd_s, y2, fm_bd_s]
    have hb3 := xb_fr hb2 y3 y4
    rcases y5 with y5 | ⟨L2, K2, y5, y6, y7, y8, y9⟩
    · rw [F_X6_pass, if_neg y5.a, fm_bd_s, if_neg y5.b, J_X10_primary_78, if_neg y5.b]
      exact ⟨A2, B2, rfl, rfl, xfA_tr fa1 y3, xfB_tr fb1 y4, Or.inl y5⟩
    · obtain ⟨⟨g1, g2, g3⟩, -, ⟨m1, m2, m3, m4, m5, m6⟩, g4, g5⟩ := id y5
      rw [F_X6_pass, if_pos g1, if_pos g2]
      rcases md_isSign y5 (a := 6) (b := 41) (by unfold sgt; decide) with ⟨e1, e2, e3⟩ | ⟨e1, e2⟩
      · rw [if_pos e1, e2, fm_bd_s, if_neg n10, J_X10_primary_78, if_pos g2, g4.1, nI_pred, fm_lt]
        have hb4 : xb A2 (fm_up B2 76 28 (nI d)) u n := xb_fr hb3 xfA_rf (fun q k z => fm_up_ne (by unfold xwB at z; omega))
        obtain ⟨A3, B3, z1, z2, z3, z4, z5, -⟩ := x_adv (L1 := L2) (K1 := K2) (d1 := d) hb4 y5 (fun q k z => rfl) (fun k z => fm_up_ne (by omega)) ⟨m1, by rw [fm_up_ne (by omega)]; exact m2, m3, by rw [fm_up_ne (by omega)]; exact m4, by omega, by omega⟩ ⟨fm_up_get, by omega⟩ (fun i hi => xtk_cg (g5 i hi) ⟨rfl, rfl, fm_up_ne (by omega), fm_up_ne (by omega)⟩)
        rw [z1, fm_bd_s, fm_bd_s, z2, fm_bd_s]
        refine ⟨A3, B3, rfl, rfl, xfA_tr fa1 (xfA_tr y3 (fun q k z => z4 q k (by unfold xwA at z; omega))), xfB_tr fb1 (xfB_tr y4 (fun q k z => by rw [z5 q k (by unfold xwB at z; omega), fm_up_ne (by unfold xwB at z; omega)])), Or.inr ⟨L2, K2, z3, y6, y7, seg_cg y8 (fun i _ _ => ⟨by rw [z5 _ _ (by omega), fm_up_ne (by omega)], by rw [z5 _ _ (by omega), fm_up_ne (by omega)]⟩), xk_tr k1 (xk_tr y9 (M := L) (fun i hi => ⟨z4 _ _ (by omega), z4 _ _ (by omega), by rw [z5 _ _ (by omega), fm_up_ne (by omega)], by rw [z5 _ _ (by omega), fm_up_ne (by omega)]⟩) (Nat.le_refl _)) (Nat.le_refl _)⟩⟩
      · obtain ⟨A3, B3, z1, z2, z3, z4, z5⟩ := x_wr (f := 1) hb3 y5 (by omega) (by omega)
        rw [if_neg e1, show F_X6_refuse 1 A2 = _ from z1, fm_bd_s, fm_bd_s, e2, fm_bd_s, if_pos rfl, show F_X10_wrong 1 B2 = _ from z2, fm_bd_s, J_X10_primary_78, if_neg z5.b]
        exact ⟨A3, B3, rfl, rfl, xfA_tr fa1 (xfA_tr y3 z3), xfB_tr fb1 (xfB_tr y4 z4), Or.inl z5⟩
theorem x_part {u n d : Nat} {rA : Int32 → fm_M → Option (Unit × fm_M)} {rB : fm_M → Option (Unit × fm_M)} (hc : d < 8 → XC u n (d + 1) (rA (nI (d + 1))) rB) : XC u n d (H_X6_readPart rA (nI d)) (H_X10_primary rB) := by
  refine ⟨fun A B lo L K hb h => ?_, fun A B hb h => ⟨A, B, by rw [H_X6_readPart, if_neg h.a], by rw [H_X10_primary, if_neg h.b], xfA_rf, xfB_rf, h⟩⟩
  obtain ⟨⟨h1, h2, h3⟩, ⟨p, k, t1, t2, t3, t4, t5, t6, t7, t8, t9⟩, -⟩ := id h
  rw [H_X6_readPart, if_pos h1, fm_lt, fm_lt, H_X10_primary, if_pos h2]
  -- no part at all
  have none1 : ¬ A.1 1 8 = 2 → ¬ A.1 1 8 = 5 → (A.1 1 8 < 32) → ¬ B.1 76 22 = 2 → ¬ (B.1 76 22 = 0 ∧ 15 ≤ B.1 76 23) → ∃ A2 B2 : fm_M, J_X6_readPart_38 rA (nI d) (A.1 1 8) (A.1 1 10) A = some ((), A2) ∧ J_X10_primary_114 rB 0 B = some ((), B2) ∧ XO A B A2 B2 u n lo d L K := by
    intro a1 a2 a3 a4 a5
    obtain ⟨A2, B2, x1, x2, x3, x4, x5⟩ := x_wr (f := 1) hb h (by omega) (by omega)
    have e : J_X10_primary_157 rB 0 B = some ((), B2) := by rw [J_X10_primary_157, show F_X10_wrong 1 B = _ from x2, fm_bd_s, md_162 x5.b]
    refine ⟨A2, B2, ?_, ?_, x3, x4, Or.inl x5⟩
    · rw [J_X6_readPart_38, if_neg a1, if_pos a3, J_X6_readPart_74, if_neg a2, show F_X6_refuse 1 A = _ from x1, fm_bd_s]
    · rw [J_X10_primary_114, if_pos rfl, J_X10_primary_137, if_pos rfl]
      by_cases c : B.1 76 22 = 0
      · rw [if_pos c, if_neg (fun z => a5 ⟨c, z⟩)]; exact e
      · rw [if_neg c]; exact e
  rcases md_isSign h (a := 5) (b := 40) (by unfold sgt; decide) with ⟨e1, e2, e3⟩ | ⟨e1, e2⟩
  · rw [e2, fm_bd_s, if_neg n10, e1, if_neg (show ¬ (5 : Int32) = 2 by decide), J_X6_readPart_38, if_neg (show ¬ (5 : Int32) = 2 by decide), if_pos (show (5 : Int32) < 32 by decide)]
    exact x_par hc hb h _
  · rw [e2, fm_bd_s, if_pos rfl]
    rcases t8 with ⟨q1, q2⟩ | ⟨q1, q2⟩ | ⟨q1, q2, q3, m, q4, q5⟩ | ⟨q1, q2, -⟩ | ⟨q1, q2⟩ | ⟨j, j1, q1, q2, q3⟩
    · rw [if_neg (show ¬ A.1 1 8 = 2 by rw [q1]; decide), if_neg (show ¬ B.1 76 22 = 2 by rw [q2]; decide)]
      exact none1 (by rw [q1]; decide) e1 (by rw [q1]; decide) (by rw [q2]; decide) (by rw [q2]; exact fun z => absurd z.1 (by decide))
    · rw [if_neg (show ¬ A.1 1 8 = 2 by rw [q1]; decide), if_neg (show ¬ B.1 76 22 = 2 by rw [q2]; decide)]
      exact none1 (by rw [q1]; decide) e1 (by rw [q1]; decide) (by rw [q2]; decide) (by rw [q2]; exact fun z => absurd z.1 (by decide))
    · rw [if_pos q1, if_pos q2, q5, J_X10_primary_114, if_neg n10, ← q3, q5]
      by_cases c : m ≤ 9999
      · rw [if_pos (show nI m ≤ (9999 : Int32) from nI_le (b := 9999) c (by omega)), if_pos (show nI m ≤ (9999 : Int32) from nI_le (b := 9999) c (by omega)), q1, J_X6_readPart_38, if_pos rfl, J_X6_readPart_55, J_X10_primary_137, if_neg n10, J_X10_primary_162]
        obtain ⟨A1, A2, B1, B2, B3, y1, y2, y3, y4, y5, y6, y7, y8⟩ := x_leaf hb h 2 (nI m) 0 (nI m) (Or.inl ⟨rfl, rfl, rfl⟩)
        rw [y1, fm_bd_s, fm_lt, y2, fm_gd_t hb.1, y3, fm_bd_s, y4, fm_bd_s, if_neg n10, J_X10_primary_176, if_neg n10, y5, ← q3, q5, y6, fm_bd_s, y7, fm_bd_s]
        exact ⟨A2, B3, rfl, rfl, y8⟩
      · obtain ⟨A2, B2, x1, x2, x3, x4, x5⟩ := x_wr (f := 2) hb h (by omega) (by omega)
        rw [if_neg (show ¬ nI m ≤ (9999 : Int32) from nI_ge (a := 9999) (by omega) (by omega)), if_neg (show ¬ nI m ≤ (9999 : Int32) from nI_ge (a := 9999) (by omega) (by omega)), show F_X6_refuse 2 A = _ from x1, fm_bd_s, show F_X10_wrong 2 B = _ from x2, fm_bd_s, md_162 x5.b]
        exact ⟨A2, B2, rfl, rfl, x3, x4, Or.inl x5⟩
    · rw [if_neg (show ¬ A.1 1 8 = 2 by rw [q1]; decide), if_neg (show ¬ B.1 76 22 = 2 by rw [q2]; decide)]
      exact none1 (by rw [q1]; decide) e1 (by rw [q1]; decide) (by rw [q2]; decide) (by rw [q2]; exact fun z => absurd z.1 (by decide))
    · obtain ⟨c, c1, c2, c3⟩ := sgt_c q2
      have a1 : ¬ A.1 1 8 = 2 := by rw [c3]; exact fun z => by have := (nI_eq (b := 2) (by omega) (by omega)).mp z; omega
      rw [if_neg a1, if_neg (show ¬ B.1 76 22 = 2 by rw [q1]; decide)]
      exact none1 a1 e1 (by rw [c3]; exact nI_lt (b := 32) (by omega) (by omega)) (by rw [q1]; decide) (by rw [q1]; exact fun z => absurd z.1 (by decide))
    · have a1 : ¬ A.1 1 8 = 2 := by rw [q1]; exact fun z => by have := (nI_eq (b := 2) (by omega) (by omega)).mp z; omega
      rw [if_neg a1, if_neg (show ¬ B.1 76 22 = 2 by rw [q2]; decide)]
      by_cases c : j < 15
      · exact none1 a1 e1 (by rw [q1]; exact nI_lt (b := 32) (by omega) (by omega)) (by rw [q2]; decide) (by rw [q2, q3]; exact fun z => absurd z.2 (nI_ge (b := 15) (by omega) (by omega)))
      · obtain ⟨i, rfl⟩ : ∃ i, j = 15 + i := ⟨j - 15, by omega⟩
        have q1' : A.1 1 8 = nI (32 + i) := by rw [q1]; congr 1; omega
        rw [q1', J_X6_readPart_38, if_neg (by rw [← q1']; exact a1), if_neg (show ¬ nI (32 + i) < (32 : Int32) from nI_nlt (b := 32) (by omega) (by omega)), if_neg (show ¬ (38 : Int32) < nI (32 + i) from nI_nlt (a := 38) (by omega) (by omega)), J_X6_readPart_55, J_X10_primary_114, if_pos rfl, J_X10_primary_137, if_pos rfl, if_pos q2, if_pos (show (15 : Int32) ≤ B.1 76 23 by rw [q3]; exact nI_le (a := 15) (by omega) (by omega)), J_X10_primary_162]
        obtain ⟨A1, A2, B1, B2, B3, y1, y2, y3, y4, y5, y6, y7, y8⟩ := x_leaf hb h (nI (32 + i)) (A.1 1 10) 1 (nI i) (Or.inr ⟨i, by omega, rfl, rfl, rfl⟩)
        have e15 : (nI (15 + i) : Int32) - 15 = nI i := by
          rw [← show (15 : Int32) + nI i = nI (15 + i) from nI_add 15 i]
          rw [Int32.add_comm, Int32.add_sub_cancel]
        rw [y1, fm_bd_s, fm_lt, y2, fm_gd_t hb.1, y3, fm_bd_s, y4, fm_bd_s, if_pos rfl, J_X10_primary_176, if_pos rfl, y5, q3, e15, y6, fm_bd_s, y7, fm_bd_s]
        exact ⟨A2, B3, rfl, rfl, y8⟩
