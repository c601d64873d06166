/-! lines: cracks and laws -/
theorem tk_nm {A B : fm_M} {u n lo d L K : Nat} (h : XR A B u n lo d L K) : (A.1 1 8 = 3 ∧ B.1 76 22 = 1 ∧ A.1 1 10 = B.1 76 23) ∨ (¬ A.1 1 8 = 3 ∧ ¬ B.1 76 22 = 1) := by
  obtain ⟨-, ⟨p, k, t1, t2, t3, t4, t5, t6, t7, t8, t9⟩, -⟩ := h
  rcases t8 with ⟨z, y⟩ | ⟨z, y⟩ | ⟨z, y, -⟩ | ⟨z, z2, z3⟩ | ⟨y, z⟩ | ⟨j, j1, z, y, -⟩
  · exact Or.inr ⟨by rw [z]; decide, by rw [y]; decide⟩
  · exact Or.inr ⟨by rw [z]; decide, by rw [y]; decide⟩
  · exact Or.inr ⟨by rw [z]; decide, by rw [y]; decide⟩
  · exact Or.inl ⟨z, z2, z3⟩
  · obtain ⟨c, c1, c2, c3⟩ := sgt_c z
    exact Or.inr ⟨by rw [c3]; exact fun w => by have := (nI_eq (b := 3) (by omega) (by omega)).mp w; omega, by rw [y]; decide⟩
  · exact Or.inr ⟨by rw [z]; exact fun w => by have := (nI_eq (b := 3) (by omega) (by omega)).mp w; omega, by rw [y]; decide⟩
theorem md_89d {B : fm_M} (h : ¬ B.1 76 24 = 0) (x : Int32) : J_X10_crackLine_89 x B = some ((), B) := by rw [J_X10_crackLine_89, (md_dead h).2.1, fm_bd_s, if_neg h]
theorem l_crack {A B : fm_M} {u n lo L nf nm nw a b : Nat} (hb : xb A B u n) (h : XR A B u n lo 0 L L) (hd : LDp A B u L nf nm nw a b) (e : A.1 1 8 = 18) : ∃ A2 B2 : fm_M, fm_bd (F_X6_readCrack A) (fun _ M3 => fm_bd (F_X6_pass 4 M3) (fun _ M5 => some ((), M5))) = some ((), A2) ∧ F_X10_line B = some ((), B2) ∧ LO A B A2 B2 u n lo := by
  obtain ⟨s1, s2⟩ := tk_w (w := 1) h (by omega) e
  have hu := fm_td hb.1
  obtain ⟨A2, B2, x1, x2, hb2, hx2, hd2, fA2, fB2⟩ := l_word (w := 1) (A1 := A) (a1 := a) hb h hd (by omega) (by rw [e]; decide) (Or.inl ⟨rfl, rfl, by omega⟩)
  have c2 := hd2.1
  have ml : F_X10_line B = fm_bd (F_X10_crackLine B2) (fun _ M49 => J_X10_line_432_1 1 M49) := by
    rw [F_X10_line, if_pos s1, s2, if_pos (show nI 1 ≤ (8 : Int32) by decide), fm_lt, F_X10_isFull, if_neg (show ¬ nI 1 = (0 : Int32) by decide), J_X10_isFull_14, if_neg (show ¬ nI 1 = (2 : Int32) by decide), J_X10_isFull_29, if_neg (show ¬ nI 1 = (4 : Int32) by decide), fm_bd_s, if_pos rfl, F_X10_isOnce, if_neg (show ¬ nI 1 = (3 : Int32) by decide), if_pos (show nI 1 < (5 : Int32) by decide), fm_bd_s, if_pos rfl, J_X10_line_67, if_pos h.1.2.1, fm_lt, show F_X10_token (fm_up B 76 17 (B.1 76 17 ||| 1 <<< (nI 1 &&& 31))) = _ from x2, fm_bd_s, if_neg (show ¬ nI 1 = (0 : Int32) by decide), if_pos (show nI 1 = (1 : Int32) from rfl)]
    rfl
  obtain ⟨r, y1, y2, y3⟩ := rl_placeF (A := A2) (B := B2) (x := u + 1) (y := 79) (n := nf) (n1 := 8) (n0 := 16) (b := 8) (l := A2.1 1 10) (by rcases hu with rfl | rfl <;> rfl) rfl c2.1.1 (by omega) (by have := c2.1.1; omega) (by omega) (fun k hk => (hd2.2.2.1 k hk).1) (by have := c2.1.1; omega)
  have t2A : tfA u A A2 := fun q k z => fA2 q k (by unfold twA at z; omega)
  have t2B : tfB B B2 := fun q k z => fB2 q k (by unfold twB at z; omega)
  have dead : ∀ (f : Nat), 1 ≤ f → f ≤ 4 → ∃ A3 B3 : fm_M, F_X6_refuse (nI f) A2 = some ((), A3) ∧ F_X10_wrong (nI f) B2 = some ((), B3) ∧ DF A3 B3 ∧ F_X6_pass 4 A3 = some ((), A3) ∧ J_X10_line_432_1 1 B3 = some ((), B3) ∧ LO A B A3 B3 u n lo := by
    intro f f1 f4
    obtain ⟨A3, B3, w1, w2, w3, w4, w5⟩ := l_wr hx2 f1 f4
    exact ⟨A3, B3, w1, w2, w5, cl_passD w5 4, by rw [J_X10_line_432_1, if_neg w5.b], fun q k z => by rw [sfA_t w3 q k z, t2A q k z], fun q k z => by rw [sfB_t w4 q k z, t2B q k z], Or.inl w5⟩
  rw [F_X6_readCrack, x1, fm_bd_s, fm_lt, xb_eu hb2, fm_gd_t hb.1, F_X8_forkNamed, fm_gd_t hb.1, c2.2.1, y1, fm_bd_s, fm_bd_s, ml, F_X10_crackLine]
  rcases tk_nm hx2 with ⟨k1, k2, k3⟩ | ⟨k1, k2⟩
  · rw [if_pos k1, if_pos k2, J_X10_crackLine_13, if_pos hx2.1.2.1, show F_X10_fresher 0 B2 = _ from md_fr 0 (by omega) B2, fm_bd_s, ← k3, show B2.1 78 (10 + 0) = nI nf from c2.2.2.1, show F_X10_found 79 8 (nI nf) (A2.1 1 10) B2 = _ from y2, fm_bd_s, J_X10_crackLine_42, if_pos hx2.1.2.1]
    by_cases cr : r = -1
    · obtain ⟨A3, B3, w1, w2, w3, w4, w5, w6⟩ := dead 4 (by omega) (by omega)
      rw [if_pos cr, if_pos cr, show F_X6_refuse 4 A2 = _ from w1, fm_bd_s, fm_bd_s, w4, fm_bd_s, show F_X10_wrong 4 B2 = _ from w2, fm_bd_s, md_89d w3.b, fm_bd_s, w5]
      exact ⟨A3, B3, rfl, rfl, w6⟩
    · obtain ⟨f, hf, rfl⟩ := y3.resolve_left cr
      obtain ⟨⟨v1, v2, v3, v4, v5⟩, v6, v7, v8, zz, v9, v10⟩ := id hd2.2.1
      have hf8 : f < 8 := by have := c2.1.1; omega
      rw [if_neg cr, if_neg cr, fm_lt, xb_eu hb2, fm_gd_t hb.1, F_X9_bitOf, fm_bd_s, J_X10_crackLine_63, if_pos hx2.1.2.1, show F_X10_fresher 9 B2 = _ from md_fr 9 (by omega) B2, fm_bd_s, ← show A2.1 u 6 = B2.1 78 (10 + 9) from v5]
      by_cases cb : ((A2.1 u 6 >>> (nI f &&& 31)) &&& 1) = 1
      · obtain ⟨A3, B3, w1, w2, w3, w4, w5, w6⟩ := dead 3 (by omega) (by omega)
        rw [if_pos cb, if_pos cb, show F_X6_refuse 3 A2 = _ from w1, fm_bd_s, fm_bd_s, w4, fm_bd_s, show F_X10_wrong 3 B2 = _ from w2, fm_bd_s, md_89d w3.b, fm_bd_s, w5]
        exact ⟨A3, B3, rfl, rfl, w6⟩
      · rw [if_neg cb, if_neg cb, fm_lt, xb_eu hb2, fm_gd_t hb.1, J_X10_crackLine_89, F_X10_goOn, if_pos hx2.1.2.1]
        have p8 : (2 : Nat) ^ f < 2 ^ 8 := Nat.pow_lt_pow_right (by omega) hf8
        have eo : (A2.1 u 6 ||| ((1 : Int32) <<< (nI f &&& 31))) = nI (zz ||| 2 ^ f) := by rw [v10, (wd_sh f (by omega)).2, wd_or (by omega) (by omega)]
        rw [eo, fm_lt]
        obtain ⟨A3, eA3⟩ : ∃ z, fm_up A2 u 6 (nI (zz ||| 2 ^ f)) = z := ⟨_, rfl⟩
        have hb3 : xb A3 B2 u n := by rw [← eA3]; exact xb_cg hb2 (fun r k z => Or.inr (fm_up_ne (by unfold cA at z; omega))) (fun r k z => Or.inr rfl)
        have hx3 : XR A3 B2 u n (lo + 1) 0 L L := by rw [← eA3]; exact XR_cg hx2 (fun r k z => fm_up_ne (by unfold cA at z; omega)) (fun r k z => rfl)
        obtain ⟨A4, B4, z1, z2, -, hx4, fA4, fB4⟩ := l_adv hb3 hx3
        have hb4 : xb A4 B4 u n := xb_cg hb3 (fun q k z => by unfold cA sA at *; by_cases c : (q = 1 ∧ 7 ≤ k ∧ k ≤ 10); exact Or.inl (by omega); exact Or.inr (fA4 q k (by omega))) (fun q k z => by unfold cB sB at *; by_cases c : (q = 76 ∧ 20 ≤ k ∧ k ≤ 23); exact Or.inl (by omega); exact Or.inr (fB4 q k (by omega)))
        have e19 : B4.1 78 (10 + 9) = A2.1 u 6 := by rw [fB4 _ _ (by omega)]; exact v5.symm
        obtain ⟨B5, eB5⟩ : ∃ z, fm_up B4 78 19 (nI (zz ||| 2 ^ f)) = z := ⟨_, rfl⟩
        have hb5 : xb A4 B5 u n := by rw [← eB5]; exact xb_cg hb4 (fun r k z => Or.inr rfl) (fun r k z => Or.inr (fm_up_ne (by unfold cB at z; omega)))
        have hx5 : XR A4 B5 u n (lo + 1) 0 L L := by rw [← eB5]; exact XR_cg hx4 (fun r k z => rfl) (fun r k z => fm_up_ne (by unfold cB at z; omega))
        obtain ⟨A14, B14, q1, q2, q3, q4, q5⟩ := l_end hb5 (Or.inr ⟨hx5, trivial⟩) 1
        have sa : ∀ r k, (r ≠ 1 ∨ k = 11) → ¬ sA r k := fun r k z => by unfold sA; omega
        have sb : ∀ r k, (r ≠ 76 ∨ k = 17) → ¬ sB r k := fun r k z => by unfold sB; omega
        have rA : ∀ r k, ¬ sA r k → (r ≠ u ∨ k ≠ 6) → A14.1 r k = A2.1 r k := fun r k w1 w2 => by rw [q3 r k w1, fA4 r k (by unfold sA at w1; omega), ← eA3, fm_up_ne (by omega)]
        have rB : ∀ r k, ¬ sB r k → (r ≠ 76 ∨ k ≠ 18) → (r ≠ 78 ∨ k ≠ 19) → B14.1 r k = B2.1 r k := fun r k w1 w0 w2 => by rw [q4 r k w1 (by omega), ← eB5, fm_up_ne (by omega), fB4 r k (by unfold sB at w1; omega)]
        refine ⟨A14, B14, ?_, ?_, fun r k z => ?_, fun r k z => ?_, ?_⟩
        · rw [eA3, z1, fm_bd_s, fm_bd_s, q1, fm_bd_s]
        · rw [z2, fm_bd_s, fm_bd_s, if_pos hx4.1.2.1, show F_X10_fresher 9 B4 = _ from md_fr 9 (by omega) B4, fm_bd_s, e19, eo, show F_X10_reads 9 (nI (zz ||| 2 ^ f)) B4 = _ from md_rd 9 (by omega) _ B4, fm_bd_s, fm_bd_s, show fm_up B4 78 (10 + 9) (nI (zz ||| 2 ^ f)) = B5 from eB5]
          exact q2
        · rw [rA r k (by unfold twA at z; unfold sA; omega) (by unfold twA at z; omega), t2A r k z]
        · rw [rB r k (by unfold twB at z; unfold sB; omega) (by unfold twB at z; omega) (by unfold twB at z; omega), t2B r k z]
        · rcases q5 with q5 | ⟨q5, -, q6⟩
          · exact Or.inl q5
          · obtain ⟨d1, d2, d3, d4, d5, d6, d7⟩ := hd2
            have w1 : A14.1 u 6 = nI (zz ||| 2 ^ f) := by rw [q3 _ _ (sa _ _ (by omega)), fA4 _ _ (by omega), ← eA3, fm_up_get]
            have w2 : B14.1 78 19 = nI (zz ||| 2 ^ f) := by rw [q4 _ _ (sb _ _ (by omega)) (by omega), ← eB5, fm_up_get]
            refine Or.inr ⟨L, nf, nm, nw, a, b ||| 2 ^ 1, q5, ⟨gC_cg d1 (fun r k z => rA r k (sa _ _ (by omega)) (by omega)) (fun r k z => rB r k (sb _ _ (by omega)) (by omega) (by omega)), ⟨⟨?_, ?_, ?_, ?_, by rw [w1, w2]⟩, ?_, ?_, ?_, ⟨zz ||| 2 ^ f, Nat.or_lt_two_pow (n := 8) v9 p8, w1⟩⟩, gF_cg d3 (fun r k z => rA r k (sa _ _ (by omega)) (by omega)) (fun r k z => rB r k (sb _ _ (by omega)) (by omega) (by omega)), gM_cg d4 (fun r k z => rA r k (sa _ _ (by omega)) (by omega)) (fun r k z => rB r k (sb _ _ (by omega)) (by omega) (by omega)), gW_cg d5 (fun r k z => rA r k (sa _ _ (by omega)) (by omega)) (fun r k z => rB r k (sb _ _ (by omega)) (by omega) (by omega)), gT_cg d6 (rA _ _ (sa _ _ (by omega)) (by omega)) (rB _ _ (sb _ _ (by omega)) (by omega) (by omega)), gL_cg d7 (fun _ _ => rfl) (fun r k z => rA r k (sa _ _ (by omega)) (by omega)) (fun r k z => rB r k (sb _ _ (by omega)) (by omega) (by omega))⟩, ?_⟩
            · rw [rA _ _ (sa _ _ (by omega)) (by omega), rB _ _ (sb _ _ (by omega)) (by omega) (by omega)]; exact v1
            · rw [rA _ _ (sa _ _ (by omega)) (by omega), rB _ _ (sb _ _ (by omega)) (by omega) (by omega)]; exact v2
            · rw [rA _ _ (sa _ _ (by omega)) (by omega), rB _ _ (sb _ _ (by omega)) (by omega) (by omega)]; exact v3
            · rw [rA _ _ (sa _ _ (by omega)) (by omega), rB _ _ (sb _ _ (by omega)) (by omega) (by omega)]; exact v4
            · rw [rA _ _ (sa _ _ (by omega)) (by omega)]; exact v6
            · rw [rA _ _ (sa _ _ (by omega)) (by omega)]; exact v7
            · rw [rA _ _ (sa _ _ (by omega)) (by omega)]; exact v8
            · rw [q6, ← eB5, fm_up_ne (by omega), fB4 _ _ (by omega), fB2 _ _ (by omega)]
  · obtain ⟨A3, B3, w1, w2, w3, w4, w5, w6⟩ := dead 1 (by omega) (by omega)
    rw [if_neg k1, if_neg k2, show F_X6_refuse 1 A2 = _ from w1, fm_bd_s, fm_bd_s, w4, fm_bd_s, show F_X10_wrong 1 B2 = _ from w2, fm_bd_s, J_X10_crackLine_13, if_neg w3.b, J_X10_crackLine_42, if_neg w3.b, J_X10_crackLine_63, if_neg w3.b, md_89d w3.b, fm_bd_s, w5]
    exact ⟨A3, B3, rfl, rfl, w6⟩
