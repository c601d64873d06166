/-! lines: what is told once -/
theorem tb_and : ∀ w, w < 8 → ∀ z, z < 256 → (nI z &&& ((1 : Int32) <<< (nI w &&& 31)) = 0 ↔ z.testBit w = false) := by decide +kernel
theorem l_once {A B : fm_M} {u n lo L nf nm nw a b w : Nat} (hb : xb A B u n) (h : XR A B u n lo 0 L L) (hd : LDp A B u L nf nm nw a b) (hw : w = 3 ∨ (5 ≤ w ∧ w ≤ 7)) (e : A.1 1 8 = nI (17 + w)) : (∃ A2 B2 : fm_M, F_X6_passOnce A = some ((), A2) ∧ F_X10_line B = some ((), B2) ∧ sfA A A2 ∧ sfB B B2 ∧ DF A2 B2) ∨ (∃ A2 B2 : fm_M, F_X6_passOnce A = some ((), A2) ∧ F_X10_line B = J_X10_line_67 (nI w) B ∧ F_X10_token (fm_up B 76 17 (B.1 76 17 ||| ((1 : Int32) <<< (nI w &&& 31)))) = some ((), B2) ∧ xb A2 B2 u n ∧ XR A2 B2 u n (lo + 1) 0 L L ∧ LDp A2 B2 u L nf nm nw (a ||| 2 ^ w) (b ||| 2 ^ w) ∧ (∀ q k, (q ≠ 1 ∨ k < 7) → A2.1 q k = A.1 q k) ∧ (∀ q k, (q ≠ 76 ∨ k < 17 ∨ (17 < k ∧ k < 20) ∨ 23 < k) → B2.1 q k = B.1 q k)) := by
  obtain ⟨s1, s2⟩ := tk_w (w := w) h (by omega) e
  have e17 : (nI (17 + w) - 17 : Int32) = nI w := by
    rw [← show (17 : Int32) + nI w = nI (17 + w) from nI_add 17 w]
    rw [Int32.add_comm, Int32.add_sub_cancel]
  obtain ⟨g1, g2, g3, g4, g5⟩ := hd.2.2.2.2.2.1
  have g6 := g5 w hw
  have full : F_X10_isFull (nI w) B = some (0, B) := by
    rcases hw with rfl | hw
    · rw [F_X10_isFull, if_neg (by decide), J_X10_isFull_14, if_neg (by decide), J_X10_isFull_29, if_neg (by decide)]
    · have : w = 5 ∨ w = 6 ∨ w = 7 := by omega
      rcases this with rfl | rfl | rfl <;> rw [F_X10_isFull, if_neg (by decide), J_X10_isFull_14, if_neg (by decide), J_X10_isFull_29, if_neg (by decide)]
  have once : F_X10_isOnce (nI w) B = some (1, B) := by
    rcases hw with rfl | hw
    · rw [F_X10_isOnce, if_pos (by decide)]
    · have : w = 5 ∨ w = 6 ∨ w = 7 := by omega
      rcases this with rfl | rfl | rfl <;> rw [F_X10_isOnce, if_neg (by decide), if_neg (by decide), if_neg (by decide)]
  have hbit : ((B.1 76 17 >>> (nI w &&& 31)) &&& 1) = if b.testBit w then 1 else 0 := by rw [g4]; exact wd_bit g2 (by omega)
  have ha := tb_and w (by omega) a g1
  have le8 : nI w ≤ (8 : Int32) := nI_le (b := 8) (by omega) (by omega)
  have ml : F_X10_line B = if (if b.testBit w then (1 : Int32) else 0) = 1 then fm_bd (F_X10_wrong 3 B) (fun _ M => J_X10_line_67 (nI w) M) else J_X10_line_67 (nI w) B := by
    rw [F_X10_line, if_pos s1, s2, if_pos le8, fm_lt, full, fm_bd_s, if_pos rfl, once, fm_bd_s, if_neg n10, hbit]
  have cl : F_X6_passOnce A = if (nI a &&& ((1 : Int32) <<< (nI w &&& 31))) = 0 then fm_bd (F_X6_advance (fm_up A 1 11 (nI a ||| ((1 : Int32) <<< (nI w &&& 31))))) (fun _ M4 => some ((), M4)) else fm_bd (F_X6_refuse 3 A) (fun _ M => some ((), M)) := by
    rw [F_X6_passOnce, e, e17]
    simp only [fm_lt, g3]
  rw [cl, ml]
  by_cases c : b.testBit w = true
  · refine Or.inl ?_
    rw [c] at g6
    rw [if_neg (fun z => by rw [ha.mp z] at g6; exact Bool.noConfusion g6), c, if_pos rfl, if_pos rfl]
    obtain ⟨A2, B2, x1, x2, x3, x4, x5⟩ := l_wr (f := 3) h (by omega) (by omega)
    rw [show F_X6_refuse 3 A = _ from x1, fm_bd_s, show F_X10_wrong 3 B = _ from x2, fm_bd_s, md_67d x5.b]
    exact ⟨A2, B2, rfl, rfl, x3, x4, x5⟩
  · refine Or.inr ?_
    have c : b.testBit w = false := Bool.eq_false_iff.mpr c
    rw [c] at g6
    rw [if_pos (ha.mpr g6), c, if_neg (by decide)]
    obtain ⟨A2, B2, x1, x2, x3, x4, x5, x6, x7⟩ := l_word (w := w) (A1 := fm_up A 1 11 (A.1 1 11 ||| ((1 : Int32) <<< (nI w &&& 31)))) (a1 := a ||| 2 ^ w) hb h hd (by omega) (by rw [e]; exact nI_ne0 (by omega) (by omega)) (Or.inr ⟨by omega, rfl, rfl⟩)
    rw [← g3, x1, fm_bd_s]
    exact ⟨A2, B2, rfl, rfl, x2, x3, x4, x5, x6, x7⟩
theorem DF_up {A B : fm_M} {c i : Nat} {x : Int32} (h : DF A B) (hc : c ≠ 1) : DF (fm_up A c i x) B := DF_cg h (fun k z => fm_up_ne (by omega)) (fun _ _ _ => rfl)
theorem cl_numD {A B : fm_M} (h : DF A B) (x y : Int32) : F_X6_number x y A = some (0, A) := by rw [F_X6_number, if_neg h.a]
theorem cl_passD {A B : fm_M} (h : DF A B) (x : Int32) : F_X6_pass x A = some ((), A) := by rw [F_X6_pass, if_neg h.a]

theorem l_pass {A B : fm_M} {u n lo L nf nm nw a b : Nat} (hb : xb A B u n) (h : XR A B u n lo 0 L L) (hd : LDp A B u L nf nm nw a b) (e : A.1 1 8 = 20) : ∃ A2 B2 : fm_M, fm_bd (F_X6_passOnce A) (fun _ M15 => fm_lt (Int32.toNatClampNeg (M15.1 1 5)) (fun t16 => fm_gd (fm_isTd t16) (fm_bd (F_X6_number 1 99 M15) (fun v18 M19 => fm_lt (fm_up M19 t16 13 v18) (fun M20 => fm_bd (F_X6_pass 4 M20) (fun _ M22 => some ((), M22))))))) = some ((), A2) ∧ F_X10_line B = some ((), B2) ∧ LO A B A2 B2 u n lo := by
  have hu := fm_td hb.1
  rcases l_once (w := 3) hb h hd (by omega) e with ⟨A2, B2, x1, x2, x3, x4, x5⟩ | ⟨A2, B2, x1, x0, x2, hb2, hx2, hd2, fA2, fB2⟩
  · have hb2 := xb_s hb x3 x4
    refine ⟨fm_up A2 u 13 0, B2, ?_, x2, fun r k z => ?_, sfB_t x4, Or.inl (DF_up x5 (by omega))⟩
    · simp only [x1, fm_bd_s, fm_lt, xb_eu hb2, fm_gd_t hb.1, cl_numD x5, cl_passD (DF_up x5 (show u ≠ 1 by omega))]
    · unfold twA at z; rw [fm_up_ne (by omega), x3 r k (by unfold sA; omega)]
  · obtain ⟨x5, z5, A5, B5, A6, B6, n1, n2, n3, n4, hb6, fA6, fB6, n5, n6, h6⟩ := l_nw hb2 (Or.inr ⟨hx2, trivial⟩) 1 99 u 13 78 12 (a' := 1) (b' := 99) rfl rfl (by omega) (by omega) (by omega) (by omega)
    obtain ⟨A14, B14, q1, q2, q3, q4, q5⟩ := l_end hb6 h6 3
    refine ⟨A14, B14, ?_, ?_, fun r k z => ?_, fun r k z => ?_, ?_⟩
    · simp only [x1, fm_bd_s, fm_lt, xb_eu hb2, fm_gd_t hb.1, n1, n3, q1]
    · rw [x0, J_X10_line_67, if_pos h.1.2.1, fm_lt, show F_X10_token (fm_up B 76 17 (B.1 76 17 ||| 1 <<< (nI 3 &&& 31))) = _ from x2, fm_bd_s, if_neg (show ¬ nI 3 = (0 : Int32) by decide), if_neg (show ¬ nI 3 = (1 : Int32) by decide), if_neg (show ¬ nI 3 = (2 : Int32) by decide), if_pos (show nI 3 = (3 : Int32) from rfl), n2, fm_bd_s, show F_X10_reads 2 z5 B5 = _ from md_rd 2 (by omega) z5 B5, fm_bd_s, show fm_up B5 78 (10 + 2) z5 = B6 from n4]
      exact q2
    · unfold twA at z
      have zs : ¬ sA r k := by unfold sA; omega
      rw [q3 r k zs, fA6 r k zs (by omega), fA2 r k (by omega)]
    · unfold twB at z
      have zs : ¬ sB r k := by unfold sB; omega
      rw [q4 r k zs (by omega), fB6 r k zs (by omega), fB2 r k (by omega)]
    · rcases q5 with q5 | ⟨q5, ⟨e1, e2⟩, q6⟩
      · exact Or.inl q5
      · have sa : ∀ r k, (r ≠ 1 ∨ k = 11) → ¬ sA r k := fun r k z => by unfold sA; omega
        have sb : ∀ r k, (r ≠ 76 ∨ k = 17) → ¬ sB r k := fun r k z => by unfold sB; omega
        have rA : ∀ r k, (r ≠ 1 ∨ k = 11) → (r ≠ u ∨ k ≠ 13) → A14.1 r k = A2.1 r k := fun r k z1 z2 => by rw [q3 r k (sa r k z1), fA6 r k (sa r k z1) (by omega)]
        have rB : ∀ r k, (r ≠ 76 ∨ k = 17) → (r ≠ 78 ∨ k ≠ 12) → B14.1 r k = B2.1 r k := fun r k z1 z2 => by rw [q4 r k (sb r k z1) (by omega), fB6 r k (sb r k z1) (by omega)]
        obtain ⟨d1, d2, d3, d4, d5, d6, d7⟩ := hd2
        obtain ⟨zz, g1, g2, g3, g4⟩ := e2
        have w1 : A14.1 u 13 = nI zz := by rw [q3 _ _ (sa _ _ (by omega)), n5, g3]
        have w2 : B14.1 78 12 = nI zz := by rw [q4 _ _ (sb _ _ (by omega)) (by omega), n6, g4]
        refine Or.inr ⟨L, nf, nm, nw, a ||| 2 ^ 3, b ||| 2 ^ 3, q5, ⟨gC_cg d1 (fun r k z => rA r k (by omega) (by omega)) (fun r k z => rB r k (by omega) (by omega)), ?_, gF_cg d3 (fun r k z => rA r k (by omega) (by omega)) (fun r k z => rB r k (by omega) (by omega)), gM_cg d4 (fun r k z => rA r k (by omega) (by omega)) (fun r k z => rB r k (by omega) (by omega)), gW_cg d5 (fun r k z => rA r k (by omega) (by omega)) (fun r k z => rB r k (by omega) (by omega)), gT_cg d6 (rA _ _ (by omega) (by omega)) (rB _ _ (by omega) (by omega)), gL_cg d7 (fun _ _ => rfl) (fun r k z => rA r k (by omega) (by omega)) (fun r k z => rB r k (by omega) (by omega))⟩, ?_⟩
        · obtain ⟨⟨v1, v2, v3, v4, v5⟩, v6, v7, v8, v9⟩ := d2
          exact ⟨⟨by rw [w1, w2], by rw [rA u 14 (by omega) (by omega), rB 78 14 (by omega) (by omega)]; exact v2, by rw [rA u 15 (by omega) (by omega), rB 78 15 (by omega) (by omega)]; exact v3, by rw [rA u 16 (by omega) (by omega), rB 78 16 (by omega) (by omega)]; exact v4, by rw [rA u 6 (by omega) (by omega), rB 78 19 (by omega) (by omega)]; exact v5⟩, ⟨zz, g2, w1⟩, by rw [rA u 15 (by omega) (by omega)]; exact v7, by rw [rA u 16 (by omega) (by omega)]; exact v8, by rw [rA u 6 (by omega) (by omega)]; exact v9⟩
        · rw [q6, fB6 _ _ (by unfold sB; omega) (by omega), fB2 _ _ (by omega)]
theorem l_loud {A B : fm_M} {u n lo L nf nm nw a b : Nat} (hb : xb A B u n) (h : XR A B u n lo 0 L L) (hd : LDp A B u L nf nm nw a b) (e : A.1 1 8 = 23) : ∃ A2 B2 : fm_M, fm_bd (F_X6_passOnce A) (fun _ M15 => fm_lt (Int32.toNatClampNeg (M15.1 1 5)) (fun t16 => fm_gd (fm_isTd t16) (fm_bd (F_X6_number 0 9 M15) (fun v18 M19 => fm_lt (fm_up M19 t16 16 v18) (fun M20 => fm_bd (F_X6_pass 4 M20) (fun _ M22 => some ((), M22))))))) = some ((), A2) ∧ F_X10_line B = some ((), B2) ∧ LO A B A2 B2 u n lo := by
  have hu := fm_td hb.1
  rcases l_once (w := 6) hb h hd (by omega) e with ⟨A2, B2, x1, x2, x3, x4, x5⟩ | ⟨A2, B2, x1, x0, x2, hb2, hx2, hd2, fA2, fB2⟩
  · have hb2 := xb_s hb x3 x4
    refine ⟨fm_up A2 u 16 0, B2, ?_, x2, fun r k z => ?_, sfB_t x4, Or.inl (DF_up x5 (by omega))⟩
    · simp only [x1, fm_bd_s, fm_lt, xb_eu hb2, fm_gd_t hb.1, cl_numD x5, cl_passD (DF_up x5 (show u ≠ 1 by omega))]
    · unfold twA at z; rw [fm_up_ne (by omega), x3 r k (by unfold sA; omega)]
  · obtain ⟨x5, z5, A5, B5, A6, B6, n1, n2, n3, n4, hb6, fA6, fB6, n5, n6, h6⟩ := l_nw hb2 (Or.inr ⟨hx2, trivial⟩) 0 9 u 16 78 16 (a' := 0) (b' := 9) rfl rfl (by omega) (by omega) (by omega) (by omega)
    obtain ⟨A14, B14, q1, q2, q3, q4, q5⟩ := l_end hb6 h6 6
    refine ⟨A14, B14, ?_, ?_, fun r k z => ?_, fun r k z => ?_, ?_⟩
    · simp only [x1, fm_bd_s, fm_lt, xb_eu hb2, fm_gd_t hb.1, n1, n3, q1]
    · rw [x0, J_X10_line_67, if_pos h.1.2.1, fm_lt, show F_X10_token (fm_up B 76 17 (B.1 76 17 ||| 1 <<< (nI 6 &&& 31))) = _ from x2, fm_bd_s, if_neg (show ¬ nI 6 = (0 : Int32) by decide), if_neg (show ¬ nI 6 = (1 : Int32) by decide), if_neg (show ¬ nI 6 = (2 : Int32) by decide), if_neg (show ¬ nI 6 = (3 : Int32) by decide), if_neg (show ¬ nI 6 = (4 : Int32) by decide), if_neg (show ¬ nI 6 = (5 : Int32) by decide), if_pos (show nI 6 = (6 : Int32) from rfl), n2, fm_bd_s, show F_X10_reads 6 z5 B5 = _ from md_rd 6 (by omega) z5 B5, fm_bd_s, show fm_up B5 78 (10 + 6) z5 = B6 from n4]
      exact q2
    · unfold twA at z
      have zs : ¬ sA r k := by unfold sA; omega
      rw [q3 r k zs, fA6 r k zs (by omega), fA2 r k (by omega)]
    · unfold twB at z
      have zs : ¬ sB r k := by unfold sB; omega
      rw [q4 r k zs (by omega), fB6 r k zs (by omega), fB2 r k (by omega)]
    · rcases q5 with q5 | ⟨q5, ⟨e1, e2⟩, q6⟩
      · exact Or.inl q5
      · have sa : ∀ r k, (r ≠ 1 ∨ k = 11) → ¬ sA r k := fun r k z => by unfold sA; omega
        have sb : ∀ r k, (r ≠ 76 ∨ k = 17) → ¬ sB r k := fun r k z => by unfold sB; omega
        have rA : ∀ r k, (r ≠ 1 ∨ k = 11) → (r ≠ u ∨ k ≠ 16) → A14.1 r k = A2.1 r k := fun r k z1 z2 => by rw [q3 r k (sa r k z1), fA6 r k (sa r k z1) (by omega)]
        have rB : ∀ r k, (r ≠ 76 ∨ k = 17) → (r ≠ 78 ∨ k ≠ 16) → B14.1 r k = B2.1 r k := fun r k z1 z2 => by rw [q4 r k (sb r k z1) (by omega), fB6 r k (sb r k z1) (by omega)]
        obtain ⟨d1, d2, d3, d4, d5, d6, d7⟩ := hd2
        obtain ⟨zz, g1, g2, g3, g4⟩ := e2
        have w1 : A14.1 u 16 = nI zz := by rw [q3 _ _ (sa _ _ (by omega)), n5, g3]
        have w2 : B14.1 78 16 = nI zz := by rw [q4 _ _ (sb _ _ (by omega)) (by omega), n6, g4]
        refine Or.inr ⟨L, nf, nm, nw, a ||| 2 ^ 6, b ||| 2 ^ 6, q5, ⟨gC_cg d1 (fun r k z => rA r k (by omega) (by omega)) (fun r k z => rB r k (by omega) (by omega)), ?_, gF_cg d3 (fun r k z => rA r k (by omega) (by omega)) (fun r k z => rB r k (by omega) (by omega)), gM_cg d4 (fun r k z => rA r k (by omega) (by omega)) (fun r k z => rB r k (by omega) (by omega)), gW_cg d5 (fun r k z => rA r k (by omega) (by omega)) (fun r k z => rB r k (by omega) (by omega)), gT_cg d6 (rA _ _ (by omega) (by omega)) (rB _ _ (by omega) (by omega)), gL_cg d7 (fun _ _ => rfl) (fun r k z => rA r k (by omega) (by omega)) (fun r k z => rB r k (by omega) (by omega))⟩, ?_⟩
        · obtain ⟨⟨v1, v2, v3, v4, v5⟩, v6, v7, v8, v9⟩ := d2
          exact ⟨⟨by rw [rA u 13 (by omega) (by omega), rB 78 12 (by omega) (by omega)]; exact v1, by rw [rA u 14 (by omega) (by omega), rB 78 14 (by omega) (by omega)]; exact v2, by rw [rA u 15 (by omega) (by omega), rB 78 15 (by omega) (by omega)]; exact v3, by rw [w1, w2], by rw [rA u 6 (by omega) (by omega), rB 78 19 (by omega) (by omega)]; exact v5⟩, by rw [rA u 13 (by omega) (by omega)]; exact v6, by rw [rA u 15 (by omega) (by omega)]; exact v7, ⟨zz, g2, w1⟩, by rw [rA u 6 (by omega) (by omega)]; exact v9⟩
        · rw [q6, fB6 _ _ (by unfold sB; omega) (by omega), fB2 _ _ (by omega)]
theorem l_seed {A B : fm_M} {u n lo L nf nm nw a b : Nat} (hb : xb A B u n) (h : XR A B u n lo 0 L L) (hd : LDp A B u L nf nm nw a b) (e : A.1 1 8 = 24) : ∃ A2 B2 : fm_M, fm_bd (F_X6_passOnce A) (fun _ M51 => fm_bd (F_X6_number 0 99999 M51) (fun _ M53 => fm_bd (F_X6_pass 4 M53) (fun _ M55 => some ((), M55)))) = some ((), A2) ∧ F_X10_line B = some ((), B2) ∧ LO A B A2 B2 u n lo := by
  have hu := fm_td hb.1
  rcases l_once (w := 7) hb h hd (by omega) e with ⟨A2, B2, x1, x2, x3, x4, x5⟩ | ⟨A2, B2, x1, x0, x2, hb2, hx2, hd2, fA2, fB2⟩
  · refine ⟨A2, B2, ?_, x2, sfA_t x3, sfB_t x4, Or.inl x5⟩
    simp only [x1, fm_bd_s, cl_numD x5, cl_passD x5]
  · obtain ⟨x5, z5, A5, B5, n1, n2, n3, n4, h5⟩ := l_num hb2 (Or.inr ⟨hx2, trivial⟩) 0 99999 (by omega) (by omega)
    obtain ⟨B6, eB6⟩ : ∃ z, fm_up B5 78 17 z5 = z := ⟨_, rfl⟩
    have fB6 : ∀ r k, ¬ sB r k → (r ≠ 78 ∨ k ≠ 17) → B6.1 r k = B2.1 r k := fun r k z1 z2 => by rw [← eB6, fm_up_ne (by omega), n4 r k z1]
    have hb6 : xb A5 B6 u n := by rw [← eB6]; exact xb_cg (xb_s hb2 n3 n4) (fun r k z => Or.inr rfl) (fun r k z => Or.inr (fm_up_ne (by unfold cB at z; omega)))
    have h6 := S_cg h5 (A2 := A5) (B2 := B6) (fun r k z => rfl) (fun r k z => by rw [← eB6]; exact fm_up_ne (by unfold cB at z; omega))
    obtain ⟨A14, B14, q1, q2, q3, q4, q5⟩ := l_end hb6 h6 7
    refine ⟨A14, B14, ?_, ?_, fun r k z => ?_, fun r k z => ?_, ?_⟩
    · simp only [x1, fm_bd_s, show F_X6_number 0 99999 A2 = _ from n1, q1]
    · rw [x0, J_X10_line_67, if_pos h.1.2.1, fm_lt, show F_X10_token (fm_up B 76 17 (B.1 76 17 ||| 1 <<< (nI 7 &&& 31))) = _ from x2, fm_bd_s, if_neg (show ¬ nI 7 = (0 : Int32) by decide), if_neg (show ¬ nI 7 = (1 : Int32) by decide), if_neg (show ¬ nI 7 = (2 : Int32) by decide), if_neg (show ¬ nI 7 = (3 : Int32) by decide), if_neg (show ¬ nI 7 = (4 : Int32) by decide), if_neg (show ¬ nI 7 = (5 : Int32) by decide), if_neg (show ¬ nI 7 = (6 : Int32) by decide), if_pos (show nI 7 = (7 : Int32) from rfl), show F_X10_numeral 0 99999 B2 = _ from n2, fm_bd_s, show F_X10_reads 7 z5 B5 = _ from md_rd 7 (by omega) z5 B5, fm_bd_s, show fm_up B5 78 (10 + 7) z5 = B6 from eB6]
      exact q2
    · unfold twA at z
      have zs : ¬ sA r k := by unfold sA; omega
      rw [q3 r k zs, n3 r k zs, fA2 r k (by omega)]
    · unfold twB at z
      have zs : ¬ sB r k := by unfold sB; omega
      rw [q4 r k zs (by omega), fB6 r k zs (by omega), fB2 r k (by omega)]
    · rcases q5 with q5 | ⟨q5, -, q6⟩
      · exact Or.inl q5
      · have sa : ∀ r k, (r ≠ 1 ∨ k = 11) → ¬ sA r k := fun r k z => by unfold sA; omega
        have sb : ∀ r k, (r ≠ 76 ∨ k = 17) → ¬ sB r k := fun r k z => by unfold sB; omega
        have rA : ∀ r k, (r ≠ 1 ∨ k = 11) → A14.1 r k = A2.1 r k := fun r k z1 => by rw [q3 r k (sa r k z1), n3 r k (sa r k z1)]
        have rB : ∀ r k, (r ≠ 76 ∨ k = 17) → (r ≠ 78 ∨ k ≠ 17) → B14.1 r k = B2.1 r k := fun r k z1 z2 => by rw [q4 r k (sb r k z1) (by omega), fB6 r k (sb r k z1) (by omega)]
        obtain ⟨d1, d2, d3, d4, d5, d6, d7⟩ := hd2
        refine Or.inr ⟨L, nf, nm, nw, a ||| 2 ^ 7, b ||| 2 ^ 7, q5, ⟨gC_cg d1 (fun r k z => rA r k (by omega)) (fun r k z => rB r k (by omega) (by omega)), gV_cg d2 (fun r k z => rA r k (by omega)) (fun r k z => rB r k (by omega) (by omega)), gF_cg d3 (fun r k z => rA r k (by omega)) (fun r k z => rB r k (by omega) (by omega)), gM_cg d4 (fun r k z => rA r k (by omega)) (fun r k z => rB r k (by omega) (by omega)), gW_cg d5 (fun r k z => rA r k (by omega)) (fun r k z => rB r k (by omega) (by omega)), gT_cg d6 (rA _ _ (by omega)) (rB _ _ (by omega) (by omega)), gL_cg d7 (fun _ _ => rfl) (fun r k z => rA r k (by omega)) (fun r k z => rB r k (by omega) (by omega))⟩, ?_⟩
        rw [q6, fB6 _ _ (by unfold sB; omega) (by omega), fB2 _ _ (by omega)]
theorem l_purse {A B : fm_M} {u n lo L nf nm nw a b : Nat} (hb : xb A B u n) (h : XR A B u n lo 0 L L) (hd : LDp A B u L nf nm nw a b) (e : A.1 1 8 = 22) : ∃ A2 B2 : fm_M, fm_bd (F_X6_passOnce A) (fun _ M28 => fm_lt (Int32.toNatClampNeg (M28.1 1 5)) (fun t29 => fm_gd (fm_isTd t29) (fm_bd (F_X6_number 0 999 M28) (fun v31 M32 => fm_lt (fm_up M32 t29 14 v31) (fun M33 => fm_lt (Int32.toNatClampNeg (M33.1 1 5)) (fun t34 => fm_gd (fm_isTd t34) (fm_bd (F_X6_number 0 99 M33) (fun v36 M37 => fm_lt (fm_up M37 t34 15 v36) (fun M38 => fm_bd (F_X6_pass 4 M38) (fun _ M40 => some ((), M40))))))))))) = some ((), A2) ∧ F_X10_line B = some ((), B2) ∧ LO A B A2 B2 u n lo := by
  have hu := fm_td hb.1
  rcases l_once (w := 5) hb h hd (by omega) e with ⟨A2, B2, x1, x2, x3, x4, x5⟩ | ⟨A2, B2, x1, x0, x2, hb2, hx2, hd2, fA2, fB2⟩
  · have hb2 := xb_s hb x3 x4
    have hb3 : Int32.toNatClampNeg ((fm_up A2 u 14 0).1 1 5) = u := by rw [fm_up_ne (by omega)]; exact xb_eu hb2
    have x6 : DF (fm_up A2 u 14 0) B2 := DF_up x5 (by omega)
    have x7 : DF (fm_up (fm_up A2 u 14 0) u 15 0) B2 := DF_up x6 (by omega)
    refine ⟨fm_up (fm_up A2 u 14 0) u 15 0, B2, ?_, x2, fun r k z => ?_, sfB_t x4, Or.inl x7⟩
    · simp only [x1, fm_bd_s, fm_lt, xb_eu hb2, fm_gd_t hb.1, cl_numD x5, hb3, cl_numD x6, cl_passD x7]
    · unfold twA at z; rw [fm_up_ne (by omega), fm_up_ne (by omega), x3 r k (by unfold sA; omega)]
  · obtain ⟨x5, z5, A5, B5, A6, B6, n1, n2, n3, n4, hb6, fA6, fB6, n5, n6, h6⟩ := l_nw hb2 (Or.inr ⟨hx2, trivial⟩) 0 999 u 14 78 14 (a' := 0) (b' := 999) rfl rfl (by omega) (by omega) (by omega) (by omega)
    obtain ⟨x7, z7, A7, B7, A8, B8, m1, m2, m3, m4, hb8, fA8, fB8, m5, m6, h8⟩ := l_nw hb6 h6 0 99 u 15 78 15 (a' := 0) (b' := 99) rfl rfl (by omega) (by omega) (by omega) (by omega)
    obtain ⟨A14, B14, q1, q2, q3, q4, q5⟩ := l_end hb8 h8 5
    refine ⟨A14, B14, ?_, ?_, fun r k z => ?_, fun r k z => ?_, ?_⟩
    · simp only [x1, fm_bd_s, fm_lt, xb_eu hb2, fm_gd_t hb.1, n1, n3, xb_eu hb6, m1, m3, q1]
    · rw [x0, J_X10_line_67, if_pos h.1.2.1, fm_lt, show F_X10_token (fm_up B 76 17 (B.1 76 17 ||| 1 <<< (nI 5 &&& 31))) = _ from x2, fm_bd_s, if_neg (show ¬ nI 5 = (0 : Int32) by decide), if_neg (show ¬ nI 5 = (1 : Int32) by decide), if_neg (show ¬ nI 5 = (2 : Int32) by decide), if_neg (show ¬ nI 5 = (3 : Int32) by decide), if_neg (show ¬ nI 5 = (4 : Int32) by decide), if_pos (show nI 5 = (5 : Int32) from rfl), n2, fm_bd_s, show F_X10_reads 4 z5 B5 = _ from md_rd 4 (by omega) z5 B5, fm_bd_s, show fm_up B5 78 (10 + 4) z5 = B6 from n4, m2, fm_bd_s, show F_X10_reads 5 z7 B7 = _ from md_rd 5 (by omega) z7 B7, fm_bd_s, show fm_up B7 78 (10 + 5) z7 = B8 from m4]
      exact q2
    · unfold twA at z
      have zs : ¬ sA r k := by unfold sA; omega
      rw [q3 r k zs, fA8 r k zs (by omega), fA6 r k zs (by omega), fA2 r k (by omega)]
    · unfold twB at z
      have zs : ¬ sB r k := by unfold sB; omega
      rw [q4 r k zs (by omega), fB8 r k zs (by omega), fB6 r k zs (by omega), fB2 r k (by omega)]
    · rcases q5 with q5 | ⟨q5, ⟨⟨e0, e1⟩, e2⟩, q6⟩
      · exact Or.inl q5
      · have sa : ∀ r k, (r ≠ 1 ∨ k = 11) → ¬ sA r k := fun r k z => by unfold sA; omega
        have sb : ∀ r k, (r ≠ 76 ∨ k = 17) → ¬ sB r k := fun r k z => by unfold sB; omega
        have rA : ∀ r k, (r ≠ 1 ∨ k = 11) → (r ≠ u ∨ (k ≠ 14 ∧ k ≠ 15)) → A14.1 r k = A2.1 r k := fun r k z1 z2 => by rw [q3 r k (sa r k z1), fA8 r k (sa r k z1) (by omega), fA6 r k (sa r k z1) (by omega)]
        have rB : ∀ r k, (r ≠ 76 ∨ k = 17) → (r ≠ 78 ∨ (k ≠ 14 ∧ k ≠ 15)) → B14.1 r k = B2.1 r k := fun r k z1 z2 => by rw [q4 r k (sb r k z1) (by omega), fB8 r k (sb r k z1) (by omega), fB6 r k (sb r k z1) (by omega)]
        obtain ⟨d1, d2, d3, d4, d5, d6, d7⟩ := hd2
        obtain ⟨y1, f1, f2, f3, f4⟩ := e1
        obtain ⟨zz, g1, g2, g3, g4⟩ := e2
        have u1 : A14.1 u 14 = nI y1 := by rw [q3 _ _ (sa _ _ (by omega)), fA8 _ _ (sa _ _ (by omega)) (by omega), n5, f3]
        have u2 : B14.1 78 14 = nI y1 := by rw [q4 _ _ (sb _ _ (by omega)) (by omega), fB8 _ _ (sb _ _ (by omega)) (by omega), n6, f4]
        have w1 : A14.1 u 15 = nI zz := by rw [q3 _ _ (sa _ _ (by omega)), m5, g3]
        have w2 : B14.1 78 15 = nI zz := by rw [q4 _ _ (sb _ _ (by omega)) (by omega), m6, g4]
        refine Or.inr ⟨L, nf, nm, nw, a ||| 2 ^ 5, b ||| 2 ^ 5, q5, ⟨gC_cg d1 (fun r k z => rA r k (by omega) (by omega)) (fun r k z => rB r k (by omega) (by omega)), ?_, gF_cg d3 (fun r k z => rA r k (by omega) (by omega)) (fun r k z => rB r k (by omega) (by omega)), gM_cg d4 (fun r k z => rA r k (by omega) (by omega)) (fun r k z => rB r k (by omega) (by omega)), gW_cg d5 (fun r k z => rA r k (by omega) (by omega)) (fun r k z => rB r k (by omega) (by omega)), gT_cg d6 (rA _ _ (by omega) (by omega)) (rB _ _ (by omega) (by omega)), gL_cg d7 (fun _ _ => rfl) (fun r k z => rA r k (by omega) (by omega)) (fun r k z => rB r k (by omega) (by omega))⟩, ?_⟩
        · obtain ⟨⟨v1, v2, v3, v4, v5⟩, v6, v7, v8, v9⟩ := d2
          exact ⟨⟨by rw [rA u 13 (by omega) (by omega), rB 78 12 (by omega) (by omega)]; exact v1, by rw [u1, u2], by rw [w1, w2], by rw [rA u 16 (by omega) (by omega), rB 78 16 (by omega) (by omega)]; exact v4, by rw [rA u 6 (by omega) (by omega), rB 78 19 (by omega) (by omega)]; exact v5⟩, by rw [rA u 13 (by omega) (by omega)]; exact v6, ⟨zz, g2, w1⟩, by rw [rA u 16 (by omega) (by omega)]; exact v8, by rw [rA u 6 (by omega) (by omega)]; exact v9⟩
        · rw [q6, fB8 _ _ (by unfold sB; omega) (by omega), fB6 _ _ (by unfold sB; omega) (by omega), fB2 _ _ (by omega)]
