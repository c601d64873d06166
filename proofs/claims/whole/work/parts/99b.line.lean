/-! lines: forks and motions -/
theorem tk_w {A B : fm_M} {u n lo d L K w : Nat} (h : XR A B u n lo d L K) (hw : w < 22) (e : A.1 1 8 = nI (17 + w)) : B.1 76 22 = 0 ∧ B.1 76 23 = nI w := by
  obtain ⟨-, ⟨p, k, t1, t2, t3, t4, t5, t6, t7, t8, t9⟩, -⟩ := h
  exact (tkr_wd t8 hw).mp e
theorem md_67d {x : Int32} {B : fm_M} (h : ¬ B.1 76 24 = 0) : J_X10_line_67 x B = some ((), B) := by rw [J_X10_line_67, if_neg h]
theorem sfA_t {A A2 : fm_M} {u : Nat} (h : sfA A A2) : tfA u A A2 := fun q k z => h q k (by unfold twA sA at *; omega)
theorem sfB_t {B B2 : fm_M} (h : sfB B B2) : tfB B B2 := fun q k z => h q k (by unfold twB sB at *; omega)
theorem S_cg {A B A2 B2 : fm_M} {u n lo L K : Nat} {P : Prop} (h : DF A B ∨ (XR A B u n lo 0 L K ∧ P)) (hA : ∀ q k, cA u q k → A2.1 q k = A.1 q k) (hB : ∀ q k, cB q k → B2.1 q k = B.1 q k) : DF A2 B2 ∨ (XR A2 B2 u n lo 0 L K ∧ P) := by
  rcases h with h | ⟨h, hP⟩
  · exact Or.inl (DF_cg h (fun k z => hA 1 k (by unfold cA; omega)) (fun k z z2 => hB 76 k (by unfold cB; omega)))
  · exact Or.inr ⟨XR_cg h hA hB, hP⟩
/-- a line that is refused at its first word -/
theorem l_ref {A B : fm_M} {u n lo L f : Nat} (h : XR A B u n lo 0 L L) (h1 : 1 ≤ f) (h4 : f ≤ 4) : ∃ A2 B2 : fm_M, F_X6_refuse (nI f) A = some ((), A2) ∧ F_X6_pass 4 A2 = some ((), A2) ∧ F_X10_wrong (nI f) B = some ((), B2) ∧ (∀ x, J_X10_line_67 x B2 = some ((), B2)) ∧ DF A2 B2 ∧ LO A B A2 B2 u n lo := by
  obtain ⟨A2, B2, x1, x2, x3, x4, x5⟩ := l_wr h h1 h4
  exact ⟨A2, B2, x1, by rw [F_X6_pass, if_neg x5.a], x2, fun x => md_67d x5.b, x5, sfA_t x3, sfB_t x4, Or.inl x5⟩
theorem l_fork {A B : fm_M} {u n lo L nf nm nw a b : Nat} (hb : xb A B u n) (h : XR A B u n lo 0 L L) (hd : LDp A B u L nf nm nw a b) (e : A.1 1 8 = 17) : ∃ A2 B2 : fm_M, fm_bd (F_X6_readFork A) (fun _ M3 => fm_bd (F_X6_pass 4 M3) (fun _ M5 => some ((), M5))) = some ((), A2) ∧ F_X10_line B = some ((), B2) ∧ LO A B A2 B2 u n lo := by
  obtain ⟨s1, s2⟩ := tk_w (w := 0) h (by omega) e
  have hu := fm_td hb.1
  have c := hd.1
  rw [F_X6_readFork, fm_lt, xb_eu hb, fm_gd_t hb.1, fm_lt, c.2.1, F_X10_line, if_pos s1, s2, if_pos (show nI 0 ≤ (8 : Int32) by decide), fm_lt, F_X10_isFull, if_pos (show nI 0 = (0 : Int32) from rfl), show F_X10_fresher 0 B = _ from md_fr 0 (by omega) B, fm_bd_s, c.2.2.1]
  by_cases c8 : nf = 8
  · subst c8
    obtain ⟨A2, B2, x1, x2, x3, x4, -, x5⟩ := l_ref (f := 2) h (by omega) (by omega)
    rw [if_neg (show ¬ nI 8 < (8 : Int32) by decide), if_pos (show nI 8 = (8 : Int32) from rfl), fm_bd_s, if_neg n10, show F_X6_refuse 2 A = _ from x1, fm_bd_s, fm_bd_s, x2, fm_bd_s, show F_X10_wrong 2 B = _ from x3, fm_bd_s, x4]
    exact ⟨A2, B2, rfl, rfl, x5⟩
  · have hn8 : nf < 8 := by have := c.1.1; omega
    rw [if_pos (show nI nf < (8 : Int32) from nI_lt (b := 8) (by omega) (by omega)), if_neg (show ¬ nI nf = (8 : Int32) from fun z => c8 ((nI_eq (b := 8) (by omega) (by omega)).mp z)), J_X10_isFull_14, if_neg (show ¬ nI 0 = (2 : Int32) by decide), J_X10_isFull_29, if_neg (show ¬ nI 0 = (4 : Int32) by decide), fm_bd_s, if_pos rfl, F_X10_isOnce, if_neg (show ¬ nI 0 = (3 : Int32) by decide), if_pos (show nI 0 < (5 : Int32) by decide), fm_bd_s, if_pos rfl, J_X10_line_67, if_pos h.1.2.1, fm_lt]
    obtain ⟨A2, B2, x1, x2, hb2, hx2, hd2, fA2, fB2⟩ := l_word (w := 0) (A1 := A) (a1 := a) hb h hd (by omega) (by rw [e]; decide) (Or.inl ⟨rfl, rfl, by omega⟩)
    have c2 := hd2.1
    obtain ⟨r, v, w, A3, B3, y1, y2, y3, y4, y5, y6⟩ := l_fresh (x := u + 1) (y := 79) (cnt := nf) (n1 := 8) (n0 := 16) (b0 := 8) hb2 hx2 (by rcases hu with rfl | rfl <;> rfl) rfl (by omega) (by omega) (by omega) (by omega) (fun k hk => (hd2.2.2.1 k hk).1) (by omega)
    obtain ⟨A4, eA4⟩ : ∃ z, fm_up A3 (u + 1) nf v = z := ⟨_, rfl⟩
    obtain ⟨B4, eB4⟩ : ∃ z, fm_up B3 79 (8 + nf) w = z := ⟨_, rfl⟩
    have hb4 : xb A4 B4 u n := by rw [← eA4, ← eB4]; exact xb_cg (xb_s hb2 y4 y5) (fun r k z => Or.inr (fm_up_ne (by unfold cA at z; omega))) (fun r k z => Or.inr (fm_up_ne (by unfold cB at z; omega)))
    have h4 := S_cg y6 (A2 := A4) (B2 := B4) (fun r k z => by rw [← eA4]; exact fm_up_ne (by unfold cA at z; omega)) (fun r k z => by rw [← eB4]; exact fm_up_ne (by unfold cB at z; omega))
    have fA4 : ∀ r k, ¬ sA r k → (r ≠ u + 1 ∨ k ≠ nf) → A4.1 r k = A2.1 r k := fun r k z1 z2 => by rw [← eA4, fm_up_ne (by omega), y4 r k z1]
    have fB4 : ∀ r k, ¬ sB r k → (r ≠ 79 ∨ k ≠ 8 + nf) → B4.1 r k = B2.1 r k := fun r k z1 z2 => by rw [← eB4, fm_up_ne (by omega), y5 r k z1]
    obtain ⟨x5, z5, A5, B5, A6, B6, n1, n2, n3, n4, hb6, fA6, fB6, n5, n6, h6⟩ := l_nw hb4 h4 100 999 (u + 2) nf 80 (8 + nf) (a' := 100) (b' := 999) rfl rfl (by omega) (by omega) (by omega) (by omega)
    obtain ⟨x7, z7, A7, B7, A8, B8, m1, m2, m3, m4, hb8, fA8, fB8, m5, m6, h8⟩ := l_nw hb6 h6 0 99 (u + 3) nf 81 (8 + nf) (a' := 0) (b' := 99) rfl rfl (by omega) (by omega) (by omega) (by omega)
    obtain ⟨x9, z9, A9, B9, A10, B10, o1, o2, o3, o4, hb10, fA10, fB10, o5, o6, h10⟩ := l_nw hb8 h8 0 9 (u + 4) nf 82 (8 + nf) (a' := 0) (b' := 9) rfl rfl (by omega) (by omega) (by omega) (by omega)
    obtain ⟨x11, z11, A11, B11, A12, B12, p1, p2, p3, p4, hb12, fA12, fB12, p5, p6, h12⟩ := l_nw hb10 h10 0 3 (u + 5) nf 83 (8 + nf) (a' := 0) (b' := 3) rfl rfl (by omega) (by omega) (by omega) (by omega)
    have gA : ∀ r k, ¬ sA r k → (r < u + 1 ∨ u + 5 < r ∨ k ≠ nf) → A12.1 r k = A2.1 r k := fun r k z1 z2 => by rw [fA12 r k z1 (by omega), fA10 r k z1 (by omega), fA8 r k z1 (by omega), fA6 r k z1 (by omega), fA4 r k z1 (by omega)]
    have gB : ∀ r k, ¬ sB r k → (r < 79 ∨ 83 < r ∨ k ≠ 8 + nf) → B12.1 r k = B2.1 r k := fun r k z1 z2 => by rw [fB12 r k z1 (by omega), fB10 r k z1 (by omega), fB8 r k z1 (by omega), fB6 r k z1 (by omega), fB4 r k z1 (by omega)]
    have kA : A12.1 u 0 = nI nf := by rw [gA _ _ (by unfold sA; omega) (by omega)]; exact c2.2.1
    have kB : B12.1 78 10 = nI nf := by rw [gB _ _ (by unfold sB; omega) (by omega)]; exact c2.2.2.1
    obtain ⟨A13, eA13⟩ : ∃ z, fm_up A12 u 0 (nI (nf + 1)) = z := ⟨_, rfl⟩
    obtain ⟨B13, eB13⟩ : ∃ z, fm_up B12 78 10 (nI (nf + 1)) = z := ⟨_, rfl⟩
    have hb13 : xb A13 B13 u n := by rw [← eA13, ← eB13]; exact xb_cg hb12 (fun r k z => Or.inr (fm_up_ne (by unfold cA at z; omega))) (fun r k z => Or.inr (fm_up_ne (by unfold cB at z; omega)))
    have h13 := S_cg h12 (A2 := A13) (B2 := B13) (fun r k z => by rw [← eA13]; exact fm_up_ne (by unfold cA at z; omega)) (fun r k z => by rw [← eB13]; exact fm_up_ne (by unfold cB at z; omega))
    obtain ⟨A14, B14, q1, q2, q3, q4, q5⟩ := l_end hb13 h13 0
    have ec : Int32.toNatClampNeg (nI nf) = nf := nI_clamp (by omega)
    have ei : fm_inb (nI nf) 8 = true := nu_inb (by omega) (by omega)
    have e8 : (8 + nI nf : Int32) = nI (8 + nf) := nI_add 8 nf
    have ec8 : Int32.toNatClampNeg (nI (8 + nf)) = 8 + nf := nI_clamp (by omega)
    have ei8 : fm_inb (nI (8 + nf)) 16 = true := nu_inb (by omega) (by omega)
    refine ⟨A14, B14, ?_, ?_, fun r k z => ?_, fun r k z => ?_, ?_⟩
    · simp only [x1, fm_bd_s, fm_lt, xb_eu hb2, fm_gd_t hb.1, F_X8_forkNamed, c2.2.1, y1, y2, fm_gd_t ei, ec, eA4, xb_eu hb4, n1, n3, xb_eu hb6, m1, m3, xb_eu hb8, o1, o3, xb_eu hb10, p1, p3, xb_eu hb12, kA, nI_1, eA13, q1]
    · rw [show F_X10_token (fm_up B 76 17 (B.1 76 17 ||| 1 <<< (nI 0 &&& 31))) = _ from x2, fm_bd_s, if_pos (show nI 0 = (0 : Int32) from rfl)]
      simp only [show ∀ M, F_X10_fresher 0 M = _ from md_fr 0 (by omega), fm_bd_s, fm_lt, show B2.1 78 (10 + 0) = nI nf from c2.2.2.1, e8, show F_X10_fresh 79 8 (nI nf) B2 = _ from y3, fm_gd_t ei8, ec8, eB4, n2, n4, m2, m4, o2, o4, p2, p4, show B12.1 78 (10 + 0) = nI nf from kB, nI_1, show ∀ v M, F_X10_reads 0 v M = _ from md_rd 0 (by omega), md_e0]
      rw [show fm_up B12 78 (10 + 0) (nI (nf + 1)) = B13 from eB13]
      exact q2
    · unfold twA at z
      have zs : ¬ sA r k := by unfold sA; omega
      rw [q3 r k zs, ← eA13, fm_up_ne (by omega), gA r k zs (by omega), fA2 r k (by omega)]
    · unfold twB at z
      have zs : ¬ sB r k := by unfold sB; omega
      rw [q4 r k zs (by omega), ← eB13, fm_up_ne (by omega), gB r k zs (by omega), fB2 r k (by omega)]
    · rcases q5 with q5 | ⟨q5, ⟨⟨⟨⟨e1, e2⟩, e3⟩, e4⟩, e5⟩, q6⟩
      · exact Or.inl q5
      · have rA : ∀ r k, ¬ sA r k → (r < u ∨ u + 5 < r ∨ (r = u ∧ k ≠ 0) ∨ (u < r ∧ k ≠ nf)) → A14.1 r k = A2.1 r k := fun r k z1 z2 => by rw [q3 r k z1, ← eA13, fm_up_ne (by omega), gA r k z1 (by omega)]
        have rB : ∀ r k, ¬ sB r k → (r ≠ 76 ∨ k ≠ 18) → (r < 78 ∨ 83 < r ∨ (r = 78 ∧ k ≠ 10) ∨ (78 < r ∧ k ≠ 8 + nf)) → B14.1 r k = B2.1 r k := fun r k z1 z0 z2 => by rw [q4 r k z1 (by omega), ← eB13, fm_up_ne (by omega), gB r k z1 (by omega)]
        obtain ⟨d1, d2, d3, d4, d5, d6, d7⟩ := hd2
        have sa : ∀ r k, (r ≠ 1 ∨ k = 11) → ¬ sA r k := fun r k z => by unfold sA; omega
        have sb : ∀ r k, (r ≠ 76 ∨ k = 17) → ¬ sB r k := fun r k z => by unfold sB; omega
        refine Or.inr ⟨L, nf + 1, nm, nw, a, b ||| 2 ^ 0, q5, ⟨⟨⟨by omega, d1.1.2⟩, by rw [q3 _ _ (sa _ _ (by omega)), ← eA13, fm_up_get], by rw [q4 _ _ (sb _ _ (by omega)) (by omega), ← eB13, fm_up_get], by rw [rA _ _ (sa _ _ (by omega)) (by omega)]; exact d1.2.2.2.1, by rw [rB _ _ (sb _ _ (by omega)) (by omega) (by omega)]; exact d1.2.2.2.2.1, by rw [rA _ _ (sa _ _ (by omega)) (by omega)]; exact d1.2.2.2.2.2.1, by rw [rB _ _ (sb _ _ (by omega)) (by omega) (by omega)]; exact d1.2.2.2.2.2.2⟩, gV_cg d2 (fun r k z => rA r k (sa _ _ (by omega)) (by omega)) (fun r k z => rB r k (sb _ _ (by omega)) (by omega) (by omega)), ?_, gM_cg d4 (fun r k z => rA r k (sa _ _ (by omega)) (by omega)) (fun r k z => rB r k (sb _ _ (by omega)) (by omega) (by omega)), gW_cg d5 (fun r k z => rA r k (sa _ _ (by omega)) (by omega)) (fun r k z => rB r k (sb _ _ (by omega)) (by omega) (by omega)), gT_cg d6 (rA _ _ (sa _ _ (by omega)) (by omega)) (rB _ _ (sb _ _ (by omega)) (by omega) (by omega)), gL_cg d7 (fun _ _ => rfl) (fun r k z => rA r k (sa _ _ (by omega)) (by omega)) (fun r k z => rB r k (sb _ _ (by omega)) (by omega) (by omega))⟩, ?_⟩
        · intro f hf
          by_cases cf : f = nf
          · subst cf
            have v1 : A14.1 (u + 1) f = v := by rw [q3 _ _ (sa _ _ (by omega)), ← eA13, fm_up_ne (by omega), fA12 _ _ (sa _ _ (by omega)) (by omega), fA10 _ _ (sa _ _ (by omega)) (by omega), fA8 _ _ (sa _ _ (by omega)) (by omega), fA6 _ _ (sa _ _ (by omega)) (by omega), ← eA4, fm_up_get]
            have v2 : A14.1 (u + 2) f = x5 := by rw [q3 _ _ (sa _ _ (by omega)), ← eA13, fm_up_ne (by omega), fA12 _ _ (sa _ _ (by omega)) (by omega), fA10 _ _ (sa _ _ (by omega)) (by omega), fA8 _ _ (sa _ _ (by omega)) (by omega), n5]
            have v3 : A14.1 (u + 3) f = x7 := by rw [q3 _ _ (sa _ _ (by omega)), ← eA13, fm_up_ne (by omega), fA12 _ _ (sa _ _ (by omega)) (by omega), fA10 _ _ (sa _ _ (by omega)) (by omega), m5]
            have v4 : A14.1 (u + 4) f = x9 := by rw [q3 _ _ (sa _ _ (by omega)), ← eA13, fm_up_ne (by omega), fA12 _ _ (sa _ _ (by omega)) (by omega), o5]
            have v5 : A14.1 (u + 5) f = x11 := by rw [q3 _ _ (sa _ _ (by omega)), ← eA13, fm_up_ne (by omega), p5]
            have w1 : B14.1 79 (8 + f) = w := by rw [q4 _ _ (sb _ _ (by omega)) (by omega), ← eB13, fm_up_ne (by omega), fB12 _ _ (sb _ _ (by omega)) (by omega), fB10 _ _ (sb _ _ (by omega)) (by omega), fB8 _ _ (sb _ _ (by omega)) (by omega), fB6 _ _ (sb _ _ (by omega)) (by omega), ← eB4, fm_up_get]
            have w2 : B14.1 80 (8 + f) = z5 := by rw [q4 _ _ (sb _ _ (by omega)) (by omega), ← eB13, fm_up_ne (by omega), fB12 _ _ (sb _ _ (by omega)) (by omega), fB10 _ _ (sb _ _ (by omega)) (by omega), fB8 _ _ (sb _ _ (by omega)) (by omega), n6]
            have w3 : B14.1 81 (8 + f) = z7 := by rw [q4 _ _ (sb _ _ (by omega)) (by omega), ← eB13, fm_up_ne (by omega), fB12 _ _ (sb _ _ (by omega)) (by omega), fB10 _ _ (sb _ _ (by omega)) (by omega), m6]
            have w4 : B14.1 82 (8 + f) = z9 := by rw [q4 _ _ (sb _ _ (by omega)) (by omega), ← eB13, fm_up_ne (by omega), fB12 _ _ (sb _ _ (by omega)) (by omega), o6]
            have w5 : B14.1 83 (8 + f) = z11 := by rw [q4 _ _ (sb _ _ (by omega)) (by omega), ← eB13, fm_up_ne (by omega), p6]
            unfold gF1
            rw [v1, v2, v3, v4, v5, w1, w2, w3, w4, w5]
            obtain ⟨k1, g1, g2, g3, g4⟩ := e2
            obtain ⟨k2, g5, g6, g7, g8⟩ := e3
            obtain ⟨k3, g9, g10, g11, g12⟩ := e4
            obtain ⟨k4, g13, g14, g15, g16⟩ := e5
            exact ⟨e1, by rw [g3, g4], by rw [g7, g8], by rw [g11, g12], by rw [g15, g16], by rw [g12]; exact ⟨nI_le (a := 0) (by omega) (by omega), nI_le (b := 9) (by omega) (by omega)⟩, k1, g1, g2, g3⟩
          · exact gF1_cg (d3 f (by omega)) (fun q z => rA q f (sa _ _ (by omega)) (by omega)) (fun q z => rB q (8 + f) (sb _ _ (by omega)) (by omega) (by omega))
        · rw [q6, ← eB13, fm_up_ne (by omega), gB _ _ (by unfold sB; omega) (by omega), fB2 _ _ (by omega)]
