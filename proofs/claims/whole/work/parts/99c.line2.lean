/-! lines: motions, wet days -/
theorem l_motion {A B : fm_M} {u n lo L nf nm nw a b : Nat} (hb : xb A B u n) (h : XR A B u n lo 0 L L) (hd : LDp A B u L nf nm nw a b) (e : A.1 1 8 = 19) : ∃ A2 B2 : fm_M, fm_bd (F_X6_readMotion A) (fun _ M3 => fm_bd (F_X6_pass 4 M3) (fun _ M5 => some ((), M5))) = some ((), A2) ∧ F_X10_line B = some ((), B2) ∧ LO A B A2 B2 u n lo := by
  obtain ⟨s1, s2⟩ := tk_w (w := 2) h (by omega) e
  have hu := fm_td hb.1
  have c := hd.1
  rw [F_X6_readMotion, fm_lt, xb_eu hb, fm_gd_t hb.1, fm_lt, c.2.2.2.1, F_X10_line, if_pos s1, s2, if_pos (show nI 2 ≤ (8 : Int32) by decide), fm_lt, F_X10_isFull, if_neg (show ¬ nI 2 = (0 : Int32) by decide), J_X10_isFull_14, if_pos (show nI 2 = (2 : Int32) from rfl), show F_X10_fresher 1 B = _ from md_fr 1 (by omega) B, fm_bd_s, c.2.2.2.2.1]
  by_cases c8 : nm = 10
  · subst c8
    obtain ⟨A2, B2, x1, x2, x3, x4, -, x5⟩ := l_ref (f := 2) h (by omega) (by omega)
    rw [if_neg (show ¬ nI 10 < (10 : Int32) by decide), if_pos (show nI 10 = (10 : Int32) from rfl), fm_bd_s, if_neg n10, show F_X6_refuse 2 A = _ from x1, fm_bd_s, fm_bd_s, x2, fm_bd_s, show F_X10_wrong 2 B = _ from x3, fm_bd_s, x4]
    exact ⟨A2, B2, rfl, rfl, x5⟩
  · have hn8 : nm < 10 := by have := c.1.2.1; omega
    rw [if_pos (show nI nm < (10 : Int32) from nI_lt (b := 10) (by omega) (by omega)), if_neg (show ¬ nI nm = (10 : Int32) from fun z => c8 ((nI_eq (b := 10) (by omega) (by omega)).mp z)), J_X10_isFull_29, if_neg (show ¬ nI 2 = (4 : Int32) by decide), fm_bd_s, if_pos rfl, F_X10_isOnce, if_neg (show ¬ nI 2 = (3 : Int32) by decide), if_pos (show nI 2 < (5 : Int32) by decide), fm_bd_s, if_pos rfl, J_X10_line_67, if_pos h.1.2.1, fm_lt]
    obtain ⟨A2, B2, x1, x2, hb2, hx2, hd2, fA2, fB2⟩ := l_word (w := 2) (A1 := A) (a1 := a) hb h hd (by omega) (by rw [e]; decide) (Or.inl ⟨rfl, rfl, by omega⟩)
    have c2 := hd2.1
    obtain ⟨r, v, w, A3, B3, y1, y2, y3, y4, y5, y6⟩ := l_fresh (x := u + 6) (y := 84) (cnt := nm) (n1 := 10) (n0 := 20) (b0 := 10) hb2 hx2 (by rcases hu with rfl | rfl <;> rfl) rfl (by omega) (by omega) (by omega) (by omega) (fun k hk => (hd2.2.2.2.1 k hk).1) (by omega)
    obtain ⟨A4, eA4⟩ : ∃ z, fm_up A3 (u + 6) nm v = z := ⟨_, rfl⟩
    obtain ⟨B4, eB4⟩ : ∃ z, fm_up B3 84 (10 + nm) w = z := ⟨_, rfl⟩
    have hb4 : xb A4 B4 u n := by rw [← eA4, ← eB4]; exact xb_cg (xb_s hb2 y4 y5) (fun r k z => Or.inr (fm_up_ne (by unfold cA at z; omega))) (fun r k z => Or.inr (fm_up_ne (by unfold cB at z; omega)))
    have h4 := S_cg y6 (A2 := A4) (B2 := B4) (fun r k z => by rw [← eA4]; exact fm_up_ne (by unfold cA at z; omega)) (fun r k z => by rw [← eB4]; exact fm_up_ne (by unfold cB at z; omega))
    have fA4 : ∀ r k, ¬ sA r k → (r ≠ u + 6 ∨ k ≠ nm) → A4.1 r k = A2.1 r k := fun r k z1 z2 => by rw [← eA4, fm_up_ne (by omega), y4 r k z1]
    have fB4 : ∀ r k, ¬ sB r k → (r ≠ 84 ∨ k ≠ 10 + nm) → B4.1 r k = B2.1 r k := fun r k z1 z2 => by rw [← eB4, fm_up_ne (by omega), y5 r k z1]
    obtain ⟨x5, z5, A5, B5, A6, B6, n1, n2, n3, n4, hb6, fA6, fB6, n5, n6, h6⟩ := l_nw hb4 h4 100 999 (u + 7) nm 85 (10 + nm) (a' := 100) (b' := 999) rfl rfl (by omega) (by omega) (by omega) (by omega)
    obtain ⟨x7, z7, A7, B7, A8, B8, m1, m2, m3, m4, hb8, fA8, fB8, m5, m6, h8⟩ := l_nw hb6 h6 0 99 (u + 8) nm 86 (10 + nm) (a' := 0) (b' := 99) rfl rfl (by omega) (by omega) (by omega) (by omega)
    have gA : ∀ r k, ¬ sA r k → (r < u + 6 ∨ u + 8 < r ∨ k ≠ nm) → A8.1 r k = A2.1 r k := fun r k z1 z2 => by rw [fA8 r k z1 (by omega), fA6 r k z1 (by omega), fA4 r k z1 (by omega)]
    have gB : ∀ r k, ¬ sB r k → (r < 84 ∨ 86 < r ∨ k ≠ 10 + nm) → B8.1 r k = B2.1 r k := fun r k z1 z2 => by rw [fB8 r k z1 (by omega), fB6 r k z1 (by omega), fB4 r k z1 (by omega)]
    have kA : A8.1 u 7 = nI nm := by rw [gA _ _ (by unfold sA; omega) (by omega)]; exact c2.2.2.2.1
    have kB : B8.1 78 11 = nI nm := by rw [gB _ _ (by unfold sB; omega) (by omega)]; exact c2.2.2.2.2.1
    obtain ⟨A13, eA13⟩ : ∃ z, fm_up A8 u 7 (nI (nm + 1)) = z := ⟨_, rfl⟩
    obtain ⟨B13, eB13⟩ : ∃ z, fm_up B8 78 11 (nI (nm + 1)) = z := ⟨_, rfl⟩
    have hb13 : xb A13 B13 u n := by rw [← eA13, ← eB13]; exact xb_cg hb8 (fun r k z => Or.inr (fm_up_ne (by unfold cA at z; omega))) (fun r k z => Or.inr (fm_up_ne (by unfold cB at z; omega)))
    have h13 := S_cg h8 (A2 := A13) (B2 := B13) (fun r k z => by rw [← eA13]; exact fm_up_ne (by unfold cA at z; omega)) (fun r k z => by rw [← eB13]; exact fm_up_ne (by unfold cB at z; omega))
    obtain ⟨A14, B14, q1, q2, q3, q4, q5⟩ := l_end hb13 h13 2
    have ec : Int32.toNatClampNeg (nI nm) = nm := nI_clamp (by omega)
    have ei : fm_inb (nI nm) 10 = true := nu_inb (by omega) (by omega)
    have e8 : (10 + nI nm : Int32) = nI (10 + nm) := nI_add 10 nm
    have ec8 : Int32.toNatClampNeg (nI (10 + nm)) = 10 + nm := nI_clamp (by omega)
    have ei8 : fm_inb (nI (10 + nm)) 20 = true := nu_inb (by omega) (by omega)
    refine ⟨A14, B14, ?_, ?_, fun r k z => ?_, fun r k z => ?_, ?_⟩
    · simp only [x1, fm_bd_s, fm_lt, xb_eu hb2, fm_gd_t hb.1, F_X8_motionNamed, c2.2.2.2.1, y1, y2, fm_gd_t ei, ec, eA4, xb_eu hb4, n1, n3, xb_eu hb6, m1, m3, xb_eu hb8, kA, nI_1, eA13, q1]
    · rw [show F_X10_token (fm_up B 76 17 (B.1 76 17 ||| 1 <<< (nI 2 &&& 31))) = _ from x2, fm_bd_s, if_neg (show ¬ nI 2 = (0 : Int32) by decide), if_neg (show ¬ nI 2 = (1 : Int32) by decide), if_pos (show nI 2 = (2 : Int32) from rfl)]
      simp only [show ∀ M, F_X10_fresher 1 M = _ from md_fr 1 (by omega), fm_bd_s, fm_lt, show B2.1 78 (10 + 1) = nI nm from c2.2.2.2.2.1, e8, show F_X10_fresh 84 10 (nI nm) B2 = _ from y3, fm_gd_t ei8, ec8, eB4, n2, n4, m2, m4, show B8.1 78 (10 + 1) = nI nm from kB, nI_1, show ∀ v M, F_X10_reads 1 v M = _ from md_rd 1 (by omega), md_e2]
      rw [show fm_up B8 78 (10 + 1) (nI (nm + 1)) = B13 from eB13]
      exact q2
    · unfold twA at z
      have zs : ¬ sA r k := by unfold sA; omega
      rw [q3 r k zs, ← eA13, fm_up_ne (by omega), gA r k zs (by omega), fA2 r k (by omega)]
    · unfold twB at z
      have zs : ¬ sB r k := by unfold sB; omega
      rw [q4 r k zs (by omega), ← eB13, fm_up_ne (by omega), gB r k zs (by omega), fB2 r k (by omega)]
    · rcases q5 with q5 | ⟨q5, ⟨⟨e1, e2⟩, e3⟩, q6⟩
      · exact Or.inl q5
      · have rA : ∀ r k, ¬ sA r k → (r < u ∨ (r = u ∧ k ≠ 7) ∨ (u < r ∧ r < u + 6) ∨ u + 8 < r ∨ (u < r ∧ k ≠ nm)) → A14.1 r k = A2.1 r k := fun r k z1 z2 => by rw [q3 r k z1, ← eA13, fm_up_ne (by omega), gA r k z1 (by omega)]
        have rB : ∀ r k, ¬ sB r k → (r ≠ 76 ∨ k ≠ 18) → (r < 78 ∨ (r = 78 ∧ k ≠ 11) ∨ (78 < r ∧ r < 84) ∨ 86 < r ∨ (78 < r ∧ k ≠ 10 + nm)) → B14.1 r k = B2.1 r k := fun r k z1 z0 z2 => by rw [q4 r k z1 (by omega), ← eB13, fm_up_ne (by omega), gB r k z1 (by omega)]
        obtain ⟨d1, d2, d3, d4, d5, d6, d7⟩ := hd2
        have sa : ∀ r k, (r ≠ 1 ∨ k = 11) → ¬ sA r k := fun r k z => by unfold sA; omega
        have sb : ∀ r k, (r ≠ 76 ∨ k = 17) → ¬ sB r k := fun r k z => by unfold sB; omega
        refine Or.inr ⟨L, nf, nm + 1, nw, a, b ||| 2 ^ 2, q5, ⟨⟨⟨d1.1.1, by omega, d1.1.2.2⟩, by rw [rA _ _ (sa _ _ (by omega)) (by omega)]; exact d1.2.1, by rw [rB _ _ (sb _ _ (by omega)) (by omega) (by omega)]; exact d1.2.2.1, by rw [q3 _ _ (sa _ _ (by omega)), ← eA13, fm_up_get], by rw [q4 _ _ (sb _ _ (by omega)) (by omega), ← eB13, fm_up_get], by rw [rA _ _ (sa _ _ (by omega)) (by omega)]; exact d1.2.2.2.2.2.1, by rw [rB _ _ (sb _ _ (by omega)) (by omega) (by omega)]; exact d1.2.2.2.2.2.2⟩, gV_cg d2 (fun r k z => rA r k (sa _ _ (by omega)) (by omega)) (fun r k z => rB r k (sb _ _ (by omega)) (by omega) (by omega)), gF_cg d3 (fun r k z => rA r k (sa _ _ (by omega)) (by omega)) (fun r k z => rB r k (sb _ _ (by omega)) (by omega) (by omega)), ?_, gW_cg d5 (fun r k z => rA r k (sa _ _ (by omega)) (by omega)) (fun r k z => rB r k (sb _ _ (by omega)) (by omega) (by omega)), gT_cg d6 (rA _ _ (sa _ _ (by omega)) (by omega)) (rB _ _ (sb _ _ (by omega)) (by omega) (by omega)), gL_cg d7 (fun _ _ => rfl) (fun r k z => rA r k (sa _ _ (by omega)) (by omega)) (fun r k z => rB r k (sb _ _ (by omega)) (by omega) (by omega))⟩, ?_⟩
        · intro f hf
          by_cases cf : f = nm
          · subst cf
            have v1 : A14.1 (u + 6) f = v := by rw [q3 _ _ (sa _ _ (by omega)), ← eA13, fm_up_ne (by omega), fA8 _ _ (sa _ _ (by omega)) (by omega), fA6 _ _ (sa _ _ (by omega)) (by omega), ← eA4, fm_up_get]
            have v2 : A14.1 (u + 7) f = x5 := by rw [q3 _ _ (sa _ _ (by omega)), ← eA13, fm_up_ne (by omega), fA8 _ _ (sa _ _ (by omega)) (by omega), n5]
            have v3 : A14.1 (u + 8) f = x7 := by rw [q3 _ _ (sa _ _ (by omega)), ← eA13, fm_up_ne (by omega), m5]
            have w1 : B14.1 84 (10 + f) = w := by rw [q4 _ _ (sb _ _ (by omega)) (by omega), ← eB13, fm_up_ne (by omega), fB8 _ _ (sb _ _ (by omega)) (by omega), fB6 _ _ (sb _ _ (by omega)) (by omega), ← eB4, fm_up_get]
            have w2 : B14.1 85 (10 + f) = z5 := by rw [q4 _ _ (sb _ _ (by omega)) (by omega), ← eB13, fm_up_ne (by omega), fB8 _ _ (sb _ _ (by omega)) (by omega), n6]
            have w3 : B14.1 86 (10 + f) = z7 := by rw [q4 _ _ (sb _ _ (by omega)) (by omega), ← eB13, fm_up_ne (by omega), m6]
            unfold gM1
            rw [v1, v2, v3, w1, w2, w3]
            obtain ⟨k1, g1, g2, g3, g4⟩ := e2
            obtain ⟨k2, g5, g6, g7, g8⟩ := e3
            exact ⟨e1, by rw [g3, g4], by rw [g7, g8], k2, g6, g7⟩
          · exact gM1_cg (d4 f (by omega)) (fun q z => rA q f (sa _ _ (by omega)) (by omega)) (fun q z => rB q (10 + f) (sb _ _ (by omega)) (by omega) (by omega))
        · rw [q6, ← eB13, fm_up_ne (by omega), gB _ _ (by unfold sB; omega) (by omega), fB2 _ _ (by omega)]
theorem l_wet {A B : fm_M} {u n lo L nf nm nw a b : Nat} (hb : xb A B u n) (h : XR A B u n lo 0 L L) (hd : LDp A B u L nf nm nw a b) (e : A.1 1 8 = 21) : ∃ A2 B2 : fm_M, fm_bd (F_X6_readWet A) (fun _ M3 => fm_bd (F_X6_pass 4 M3) (fun _ M5 => some ((), M5))) = some ((), A2) ∧ F_X10_line B = some ((), B2) ∧ LO A B A2 B2 u n lo := by
  obtain ⟨s1, s2⟩ := tk_w (w := 4) h (by omega) e
  have hu := fm_td hb.1
  have c := hd.1
  rw [F_X6_readWet, fm_lt, xb_eu hb, fm_gd_t hb.1, c.2.2.2.2.2.1, F_X10_line, if_pos s1, s2, if_pos (show nI 4 ≤ (8 : Int32) by decide), fm_lt, F_X10_isFull, if_neg (show ¬ nI 4 = (0 : Int32) by decide), J_X10_isFull_14, if_neg (show ¬ nI 4 = (2 : Int32) by decide), J_X10_isFull_29, if_pos (show nI 4 = (4 : Int32) from rfl), show F_X10_fresher 3 B = _ from md_fr 3 (by omega) B, fm_bd_s, c.2.2.2.2.2.2]
  by_cases c8 : nw = 8
  · subst c8
    obtain ⟨A2, B2, x1, x2, x3, x4, -, x5⟩ := l_ref (f := 2) h (by omega) (by omega)
    rw [if_neg (show ¬ nI 8 < (8 : Int32) by decide), if_pos (show nI 8 = (8 : Int32) from rfl), fm_bd_s, if_neg n10, show F_X6_refuse 2 A = _ from x1, fm_bd_s, fm_bd_s, x2, fm_bd_s, show F_X10_wrong 2 B = _ from x3, fm_bd_s, x4]
    exact ⟨A2, B2, rfl, rfl, x5⟩
  · have hn8 : nw < 8 := by have := c.1.2.2; omega
    rw [if_pos (show nI nw < (8 : Int32) from nI_lt (b := 8) (by omega) (by omega)), if_neg (show ¬ nI nw = (8 : Int32) from fun z => c8 ((nI_eq (b := 8) (by omega) (by omega)).mp z)), fm_bd_s, if_pos rfl, F_X10_isOnce, if_neg (show ¬ nI 4 = (3 : Int32) by decide), if_pos (show nI 4 < (5 : Int32) by decide), fm_bd_s, if_pos rfl, J_X10_line_67, if_pos h.1.2.1, fm_lt]
    obtain ⟨A2, B2, x1, x2, hb2, hx2, hd2, fA2, fB2⟩ := l_word (w := 4) (A1 := A) (a1 := a) hb h hd (by omega) (by rw [e]; decide) (Or.inl ⟨rfl, rfl, by omega⟩)
    have c2 := hd2.1
    obtain ⟨x5, z5, A5, B5, A6, B6, n1, n2, n3, n4, hb6, fA6, fB6, n5, n6, h6⟩ := l_nw hb2 (Or.inr ⟨hx2, trivial⟩) 0 9 (u + 9) nw 87 (8 + nw) (a' := 0) (b' := 9) rfl rfl (by omega) (by omega) (by omega) (by omega)
    have kA : A6.1 u 11 = nI nw := by rw [fA6 _ _ (by unfold sA; omega) (by omega)]; exact c2.2.2.2.2.2.1
    have kB : B6.1 78 13 = nI nw := by rw [fB6 _ _ (by unfold sB; omega) (by omega)]; exact c2.2.2.2.2.2.2
    obtain ⟨A13, eA13⟩ : ∃ z, fm_up A6 u 11 (nI (nw + 1)) = z := ⟨_, rfl⟩
    obtain ⟨B13, eB13⟩ : ∃ z, fm_up B6 78 13 (nI (nw + 1)) = z := ⟨_, rfl⟩
    have hb13 : xb A13 B13 u n := by rw [← eA13, ← eB13]; exact xb_cg hb6 (fun r k z => Or.inr (fm_up_ne (by unfold cA at z; omega))) (fun r k z => Or.inr (fm_up_ne (by unfold cB at z; omega)))
    have h13 := S_cg h6 (A2 := A13) (B2 := B13) (fun r k z => by rw [← eA13]; exact fm_up_ne (by unfold cA at z; omega)) (fun r k z => by rw [← eB13]; exact fm_up_ne (by unfold cB at z; omega))
    obtain ⟨A14, B14, q1, q2, q3, q4, q5⟩ := l_end hb13 h13 4
    have ec : Int32.toNatClampNeg (nI nw) = nw := nI_clamp (by omega)
    have ei : fm_inb (nI nw) 8 = true := nu_inb (by omega) (by omega)
    have e8 : (8 + nI nw : Int32) = nI (8 + nw) := nI_add 8 nw
    have ec8 : Int32.toNatClampNeg (nI (8 + nw)) = 8 + nw := nI_clamp (by omega)
    have ei8 : fm_inb (nI (8 + nw)) 16 = true := nu_inb (by omega) (by omega)
    refine ⟨A14, B14, ?_, ?_, fun r k z => ?_, fun r k z => ?_, ?_⟩
    · simp only [x1, fm_bd_s, fm_lt, xb_eu hb2, fm_gd_t hb.1, c2.2.2.2.2.2.1, n1, fm_gd_t ei, ec, n3, xb_eu hb6, kA, nI_1, eA13, q1]
    · rw [show F_X10_token (fm_up B 76 17 (B.1 76 17 ||| 1 <<< (nI 4 &&& 31))) = _ from x2, fm_bd_s, if_neg (show ¬ nI 4 = (0 : Int32) by decide), if_neg (show ¬ nI 4 = (1 : Int32) by decide), if_neg (show ¬ nI 4 = (2 : Int32) by decide), if_neg (show ¬ nI 4 = (3 : Int32) by decide), if_pos (show nI 4 = (4 : Int32) from rfl)]
      simp only [show ∀ M, F_X10_fresher 3 M = _ from md_fr 3 (by omega), fm_bd_s, fm_lt, show B2.1 78 (10 + 3) = nI nw from c2.2.2.2.2.2.2, e8, n2, fm_gd_t ei8, ec8, n4, show B6.1 78 (10 + 3) = nI nw from kB, nI_1, show ∀ v M, F_X10_reads 3 v M = _ from md_rd 3 (by omega)]
      rw [show fm_up B6 78 (10 + 3) (nI (nw + 1)) = B13 from eB13]
      exact q2
    · unfold twA at z
      have zs : ¬ sA r k := by unfold sA; omega
      rw [q3 r k zs, ← eA13, fm_up_ne (by omega), fA6 r k zs (by omega), fA2 r k (by omega)]
    · unfold twB at z
      have zs : ¬ sB r k := by unfold sB; omega
      rw [q4 r k zs (by omega), ← eB13, fm_up_ne (by omega), fB6 r k zs (by omega), fB2 r k (by omega)]
    · rcases q5 with q5 | ⟨q5, ⟨e1, e2⟩, q6⟩
      · exact Or.inl q5
      · have rA : ∀ r k, ¬ sA r k → (r ≠ u ∨ k ≠ 11) → (r ≠ u + 9 ∨ k ≠ nw) → A14.1 r k = A2.1 r k := fun r k z1 z2 z3 => by rw [q3 r k z1, ← eA13, fm_up_ne (by omega), fA6 r k z1 (by omega)]
        have rB : ∀ r k, ¬ sB r k → (r ≠ 76 ∨ k ≠ 18) → (r ≠ 78 ∨ k ≠ 13) → (r ≠ 87 ∨ k ≠ 8 + nw) → B14.1 r k = B2.1 r k := fun r k z1 z0 z2 z3 => by rw [q4 r k z1 (by omega), ← eB13, fm_up_ne (by omega), fB6 r k z1 (by omega)]
        obtain ⟨d1, d2, d3, d4, d5, d6, d7⟩ := hd2
        have sa : ∀ r k, (r ≠ 1 ∨ k = 11) → ¬ sA r k := fun r k z => by unfold sA; omega
        have sb : ∀ r k, (r ≠ 76 ∨ k = 17) → ¬ sB r k := fun r k z => by unfold sB; omega
        refine Or.inr ⟨L, nf, nm, nw + 1, a, b ||| 2 ^ 4, q5, ⟨⟨⟨d1.1.1, d1.1.2.1, by omega⟩, by rw [rA _ _ (sa _ _ (by omega)) (by omega) (by omega)]; exact d1.2.1, by rw [rB _ _ (sb _ _ (by omega)) (by omega) (by omega) (by omega)]; exact d1.2.2.1, by rw [rA _ _ (sa _ _ (by omega)) (by omega) (by omega)]; exact d1.2.2.2.1, by rw [rB _ _ (sb _ _ (by omega)) (by omega) (by omega) (by omega)]; exact d1.2.2.2.2.1, by rw [q3 _ _ (sa _ _ (by omega)), ← eA13, fm_up_get], by rw [q4 _ _ (sb _ _ (by omega)) (by omega), ← eB13, fm_up_get]⟩, gV_cg d2 (fun r k z => rA r k (sa _ _ (by omega)) (by omega) (by omega)) (fun r k z => rB r k (sb _ _ (by omega)) (by omega) (by omega) (by omega)), gF_cg d3 (fun r k z => rA r k (sa _ _ (by omega)) (by omega) (by omega)) (fun r k z => rB r k (sb _ _ (by omega)) (by omega) (by omega) (by omega)), gM_cg d4 (fun r k z => rA r k (sa _ _ (by omega)) (by omega) (by omega)) (fun r k z => rB r k (sb _ _ (by omega)) (by omega) (by omega) (by omega)), ?_, gT_cg d6 (rA _ _ (sa _ _ (by omega)) (by omega) (by omega)) (rB _ _ (sb _ _ (by omega)) (by omega) (by omega) (by omega)), gL_cg d7 (fun _ _ => rfl) (fun r k z => rA r k (sa _ _ (by omega)) (by omega) (by omega)) (fun r k z => rB r k (sb _ _ (by omega)) (by omega) (by omega) (by omega))⟩, ?_⟩
        · intro f hf
          by_cases cf : f = nw
          · subst cf
            obtain ⟨k2, g5, g6, g7, g8⟩ := e2
            rw [q3 _ _ (sa _ _ (by omega)), ← eA13, fm_up_ne (by omega), n5, q4 _ _ (sb _ _ (by omega)) (by omega), ← eB13, fm_up_ne (by omega), n6, g7, g8]
          · rw [rA _ _ (sa _ _ (by omega)) (by omega) (by omega), rB _ _ (sb _ _ (by omega)) (by omega) (by omega) (by omega)]; exact d5 f (by omega)
        · rw [q6, ← eB13, fm_up_ne (by omega), fB6 _ _ (by unfold sB; omega) (by omega), fB2 _ _ (by omega)]
