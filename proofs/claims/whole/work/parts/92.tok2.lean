/-! tokens: a sign -/
theorem tk_next {A B : fm_M} {n k : Nat} (h : tb A B n) (hA : A.1 1 7 = nI k) (hB : B.1 76 20 = nI k) (hk : k ≤ n) : ∃ s0 v : Int32, ((A.1 1 6 ≤ A.1 1 7 ∧ s0 = 0) ∨ (¬ A.1 1 6 ≤ A.1 1 7 ∧ fm_inb (A.1 1 7) 700 = true ∧ s0 = A.1 2 (Int32.toNatClampNeg (A.1 1 7)))) ∧ F_X10_here B = some (v, B) ∧ (s0 = 61 ↔ v = 61) ∧ (s0 = 62 ↔ v = 62) ∧ (n ≤ k → ¬ v = 61 ∧ ¬ v = 62) := by
  have hn := h.1
  rcases md_here h hB hk with ⟨c, e⟩ | ⟨c, e⟩
  · refine ⟨0, -1, Or.inl ⟨by rw [h.2.1, hA]; exact nI_le c (by omega), rfl⟩, e, by decide, by decide, fun _ => by decide⟩
  · have hc := h.2.2.2.1 k c
    refine ⟨A.1 2 k, B.1 77 k, Or.inr ⟨by rw [h.2.1, hA]; exact nI_ge c (by omega), by rw [hA]; exact nu_inb (by omega) (by omega), by rw [hA, nI_clamp (by omega)]⟩, e, ch_eq hc (c := 61) (by omega), ch_eq hc (c := 62) (by omega), fun z => by omega⟩
theorem md_sgn (l1 s1 : Int32) (M : fm_M) (h60 : ¬ l1 = 60) (h62 : ¬ l1 = 62) (hl : l1 < 256) : J_X10_sign_76 l1 s1 M = some ((), fm_up (fm_up M 76 22 s1) 76 23 l1) := by
  rw [J_X10_sign_76]
  simp only [fm_lt]
  rw [if_neg h60, J_X10_sign_106, if_neg h60, J_X10_sign_128, if_neg h62, sg_150 fm_up_get hl]
theorem cl_sgn {l1 s0 t : Int32} {M : fm_M} (h : (l1 = 59 ∧ t = 4) ∨ (l1 = 40 ∧ t = 5) ∨ (l1 = 41 ∧ t = 6) ∨ (l1 = 61 ∧ t = 9) ∨ (l1 = 43 ∧ t = 13) ∨ (l1 = 45 ∧ t = 14) ∨ (l1 = 42 ∧ t = 15) ∨ (l1 = 47 ∧ t = 16)) : J_X6_readSign_44 l1 s0 M = some ((), fm_up M 1 8 t) := by
  rcases h with ⟨rfl, rfl⟩ | ⟨rfl, rfl⟩ | ⟨rfl, rfl⟩ | ⟨rfl, rfl⟩ | ⟨rfl, rfl⟩ | ⟨rfl, rfl⟩ | ⟨rfl, rfl⟩ | ⟨rfl, rfl⟩ <;>
  · simp (decide := true) only [J_X6_readSign_44, fm_lt, reduceIte]
    exact sg_278 (by decide) (by decide) (by decide)
theorem md_sg3 {a : Int32} {M : fm_M} (h : a = 59 ∨ a = 40 ∨ a = 41 ∨ a = 43 ∨ a = 45 ∨ a = 42 ∨ a = 47 ∨ a = 60 ∨ a = 61 ∨ a = 62) : F_X10_sign a M = J_X10_sign_76 a 3 (fm_up M 76 20 (M.1 76 20 + 1)) := by
  rcases h with rfl | rfl | rfl | rfl | rfl | rfl | rfl | rfl | rfl | rfl <;> simp (decide := true) only [F_X10_sign, fm_lt, J_X10_sign_71, reduceIte]
/-- both read a sign -/
theorem tk_sign {A B : fm_M} {n k : Nat} (h : tb A B n) (hA : A.1 1 7 = nI k) (hB : B.1 76 20 = nI k) (hk : k < n) : ∃ (k2 : Nat) (t s w : Int32) (A2 B2 : fm_M), k < k2 ∧ k2 ≤ n ∧ F_X6_readSign A = some ((), A2) ∧ F_X10_sign (B.1 77 k) B = some ((), B2) ∧ A2.1 1 7 = nI k2 ∧ B2.1 76 20 = nI k2 ∧ A2.1 1 8 = t ∧ B2.1 76 22 = s ∧ B2.1 76 23 = w ∧ ((t = 1 ∧ s = 5) ∨ (s = 3 ∧ sgt t w)) ∧ (∀ q j, (q ≠ 1 ∨ (j ≠ 7 ∧ j ≠ 8)) → A2.1 q j = A.1 q j) ∧ (∀ q j, (q ≠ 76 ∨ (j ≠ 20 ∧ j ≠ 22 ∧ j ≠ 23)) → B2.1 q j = B.1 q j) := by
  have hn := h.1
  have hc := h.2.2.2.1 k hk
  have kb : fm_inb (nI k) 700 = true := nu_inb (by omega) (by omega)
  have kc : Int32.toNatClampNeg (nI k) = k := nI_clamp (by omega)
  -- behind the sign
  generalize hA1 : fm_up A 1 7 (nI (k + 1)) = A1
  have f1 : ∀ q j, (q ≠ 1 ∨ j ≠ 7) → A1.1 q j = A.1 q j := fun q j z => by rw [← hA1, fm_up_ne z]
  have g1 : A1.1 1 7 = nI (k + 1) := by rw [← hA1, fm_up_get]
  have rs : ∀ s0 : Int32, ((A1.1 1 6 ≤ A1.1 1 7 ∧ s0 = 0) ∨ (¬ A1.1 1 6 ≤ A1.1 1 7 ∧ fm_inb (A1.1 1 7) 700 = true ∧ s0 = A1.1 2 (Int32.toNatClampNeg (A1.1 1 7)))) → F_X6_readSign A = J_X6_readSign_44 (A.1 2 k) s0 A1 := by
    intro s0 hs
    rw [F_X6_readSign, hA, fm_gd_t kb, kc, fm_lt, fm_lt, nI_1, hA1]
    rcases hs with ⟨q1, q2⟩ | ⟨q1, q2, q3⟩
    · rw [if_pos q1, q2]
    · rw [if_neg q1, fm_gd_t q2, q3]
  generalize hB1 : fm_up B 76 20 (nI (k + 1)) = B1
  have fb1 : ∀ q j, (q ≠ 76 ∨ j ≠ 20) → B1.1 q j = B.1 q j := fun q j z => by rw [← hB1, fm_up_ne z]
  have gb1 : B1.1 76 20 = nI (k + 1) := by rw [← hB1, fm_up_get]
  have ebm : fm_up B 76 20 (B.1 76 20 + 1) = B1 := by rw [hB, nI_1, hB1]
  have tb1 : ∀ B' : fm_M, (∀ q j, (q ≠ 76 ∨ (j ≠ 22 ∧ j ≠ 23)) → B'.1 q j = B1.1 q j) → tb A1 B' n := fun B' hB' => tb_cg h (fun q j z => f1 q j (by omega)) (fun q j z => by rw [hB' q j (by omega), fb1 q j (by omega)])
  -- the simple signs
  have one : ∀ c : Nat, c < 128 → B.1 77 k = nI c → ∀ t : Int32, ((nI c = 59 ∧ t = 4) ∨ (nI c = 40 ∧ t = 5) ∨ (nI c = 41 ∧ t = 6) ∨ (nI c = 61 ∧ t = 9) ∨ (nI c = 43 ∧ t = 13) ∨ (nI c = 45 ∧ t = 14) ∨ (nI c = 42 ∧ t = 15) ∨ (nI c = 47 ∧ t = 16)) → sgt t (nI c) → ∃ (k2 : Nat) (t s w : Int32) (A2 B2 : fm_M), k < k2 ∧ k2 ≤ n ∧ F_X6_readSign A = some ((), A2) ∧ F_X10_sign (B.1 77 k) B = some ((), B2) ∧ A2.1 1 7 = nI k2 ∧ B2.1 76 20 = nI k2 ∧ A2.1 1 8 = t ∧ B2.1 76 22 = s ∧ B2.1 76 23 = w ∧ ((t = 1 ∧ s = 5) ∨ (s = 3 ∧ sgt t w)) ∧ (∀ q j, (q ≠ 1 ∨ (j ≠ 7 ∧ j ≠ 8)) → A2.1 q j = A.1 q j) ∧ (∀ q j, (q ≠ 76 ∨ (j ≠ 20 ∧ j ≠ 22 ∧ j ≠ 23)) → B2.1 q j = B.1 q j) := by
    intro c hc2 ec t ht hs
    obtain ⟨s0, v, n1, -⟩ := tk_next (tb1 B1 (fun _ _ _ => rfl)) g1 gb1 (by omega)
    have ea : A.1 2 k = nI c := (ch_eq hc hc2).mpr ec
    refine ⟨k + 1, t, 3, nI c, fm_up A1 1 8 t, fm_up (fm_up B1 76 22 3) 76 23 (nI c), by omega, by omega, ?_, ?_, by rw [fm_up_ne (by omega)]; exact g1, by rw [fm_up_ne (by omega), fm_up_ne (by omega)]; exact gb1, fm_up_get, by rw [fm_up_ne (by omega), fm_up_get], fm_up_get, Or.inr ⟨rfl, hs⟩, fun q j z => by rw [fm_up_ne (by omega), f1 q j (by omega)], fun q j z => by rw [fm_up_ne (by omega), fm_up_ne (by omega), fb1 q j (by omega)]⟩
    · rw [rs s0 n1, ea]; exact cl_sgn ht
    · have h6 : ¬ nI c = 60 ∧ ¬ nI c = 62 ∧ nI c < 256 := by rcases ht with ⟨e, -⟩ | ⟨e, -⟩ | ⟨e, -⟩ | ⟨e, -⟩ | ⟨e, -⟩ | ⟨e, -⟩ | ⟨e, -⟩ | ⟨e, -⟩ <;> (rw [e]; decide)
      rw [ec, md_sg3 (by rcases ht with ⟨e, -⟩ | ⟨e, -⟩ | ⟨e, -⟩ | ⟨e, -⟩ | ⟨e, -⟩ | ⟨e, -⟩ | ⟨e, -⟩ | ⟨e, -⟩ <;> simp [e]), ebm]
      exact md_sgn _ _ _ h6.1 h6.2.1 h6.2.2
  by_cases c59 : B.1 77 k = 59
  · exact one 59 (by omega) c59 4 (Or.inl ⟨rfl, rfl⟩) (Or.inl ⟨rfl, rfl⟩)
  by_cases c40 : B.1 77 k = 40
  · exact one 40 (by omega) c40 5 (Or.inr (Or.inl ⟨rfl, rfl⟩)) (Or.inr (Or.inl ⟨rfl, rfl⟩))
  by_cases c41 : B.1 77 k = 41
  · exact one 41 (by omega) c41 6 (Or.inr (Or.inr (Or.inl ⟨rfl, rfl⟩))) (Or.inr (Or.inr (Or.inl ⟨rfl, rfl⟩)))
  by_cases c61 : B.1 77 k = 61
  · exact one 61 (by omega) c61 9 (Or.inr (Or.inr (Or.inr (Or.inl ⟨rfl, rfl⟩)))) (Or.inr (Or.inr (Or.inr (Or.inr (Or.inr (Or.inl ⟨rfl, rfl⟩))))))
  by_cases c43 : B.1 77 k = 43
  · exact one 43 (by omega) c43 13 (Or.inr (Or.inr (Or.inr (Or.inr (Or.inl ⟨rfl, rfl⟩))))) (by unfold sgt; decide)
  by_cases c45 : B.1 77 k = 45
  · exact one 45 (by omega) c45 14 (Or.inr (Or.inr (Or.inr (Or.inr (Or.inr (Or.inl ⟨rfl, rfl⟩)))))) (by unfold sgt; decide)
  by_cases c42 : B.1 77 k = 42
  · exact one 42 (by omega) c42 15 (Or.inr (Or.inr (Or.inr (Or.inr (Or.inr (Or.inr (Or.inl ⟨rfl, rfl⟩))))))) (by unfold sgt; decide)
  by_cases c47 : B.1 77 k = 47
  · exact one 47 (by omega) c47 16 (Or.inr (Or.inr (Or.inr (Or.inr (Or.inr (Or.inr (Or.inr ⟨rfl, rfl⟩))))))) (by unfold sgt; decide)
  by_cases c60 : B.1 77 k = 60
  · -- less, at most, unlike
    have ea : A.1 2 k = 60 := (ch_eq hc (c := 60) (by omega)).mpr c60
    generalize hB2 : fm_up (fm_up B1 76 22 3) 76 23 60 = B2
    have fb2 : ∀ q j, (q ≠ 76 ∨ (j ≠ 22 ∧ j ≠ 23)) → B2.1 q j = B1.1 q j := fun q j z => by rw [← hB2, fm_up_ne (by omega), fm_up_ne (by omega)]
    have g22 : B2.1 76 22 = 3 := by rw [← hB2, fm_up_ne (by omega), fm_up_get]
    have g23 : B2.1 76 23 = 60 := by rw [← hB2, fm_up_get]
    have e0 : F_X10_sign (B.1 77 k) B = if (60 : Int32) = 60 then fm_bd (F_X10_here B2) (fun v11 M12 => if v11 = 61 then J_X10_sign_106 60 (fm_up M12 76 23 256) else J_X10_sign_106 60 M12) else J_X10_sign_106 60 B2 := by
      rw [c60, md_sg3 (by simp), ebm, J_X10_sign_76]
      simp only [fm_lt]
      rw [hB2]
    obtain ⟨s0, v, n1, n2, n3, n4, n5⟩ := tk_next (tb1 B2 fb2) g1 (by rw [fb2 _ _ (by omega)]; exact gb1) (by omega)
    rw [if_pos rfl, n2, fm_bd_s] at e0
    by_cases v61 : v = 61
    · have hk2 : k + 1 < n := by
        by_cases z : n ≤ k + 1
        · exact absurd v61 (n5 z).1
        · omega
      obtain ⟨s0', v', n1', n2', -⟩ := tk_next (tb1 (fm_up B2 76 23 256) (fun q j z => by rw [fm_up_ne (by omega), fb2 q j z])) g1 (by rw [fm_up_ne (by omega), fb2 _ _ (by omega)]; exact gb1) (by omega)
      have n2a : F_X10_here (fm_up B2 76 23 256) = some (61, fm_up B2 76 23 256) := by
        rw [n2']
        rcases md_here (tb1 (fm_up B2 76 23 256) (fun q j z => by rw [fm_up_ne (by omega), fb2 q j z])) (show (fm_up B2 76 23 256).1 76 20 = nI (k + 1) by rw [fm_up_ne (by omega), fb2 _ _ (by omega)]; exact gb1) (by omega) with ⟨z, w⟩ | ⟨z, w⟩
        · omega
        rcases md_here (tb1 B2 fb2) (show B2.1 76 20 = nI (k + 1) by rw [fb2 _ _ (by omega)]; exact gb1) (by omega) with ⟨z', w'⟩ | ⟨z', w'⟩
        · omega
        have a1 := congrArg Prod.fst (Option.some.inj (n2.symm.trans w'))
        have a2 := congrArg Prod.fst (Option.some.inj (n2'.symm.trans w))
        simp only at a1 a2
        rw [a2, fm_up_ne (by omega), ← a1, v61]
      rw [if_pos v61, J_X10_sign_106, if_pos rfl, n2a, fm_bd_s, if_neg (by decide), J_X10_sign_128, if_neg (by decide), sg_150y fm_up_get (by decide)] at e0
      have es : s0 = 61 := n3.mpr v61
      refine ⟨k + 2, 8, 3, 256, fm_up (fm_up A1 1 8 8) 1 7 (nI (k + 2)), _, by omega, by omega, ?_, e0, fm_up_get, ?_, by rw [fm_up_ne (by omega), fm_up_get], by rw [fm_up_ne (by omega), fm_up_ne (by omega)]; exact g22, by rw [fm_up_ne (by omega), fm_up_get], Or.inr ⟨rfl, by unfold sgt; decide⟩, fun q j z => ?_, fun q j z => by rw [fm_up_ne (by omega), fm_up_ne (by omega), fb2 q j (by omega), fb1 q j (by omega)]⟩
      · rw [rs s0 n1, ea, es]
        simp (decide := true) only [J_X6_readSign_44, J_X6_readSign_247, fm_lt, reduceIte]
        rw [sg_278y (Or.inl rfl), g1, nI_1]
      · rw [fm_up_get, fm_up_ne (by omega), fb2 _ _ (by omega), gb1, nI_1]
      · rw [fm_up_ne (by omega), fm_up_ne (by omega), f1 q j (by omega)]
    · rw [if_neg v61, J_X10_sign_106, if_pos rfl, n2, fm_bd_s] at e0
      have es : ¬ s0 = 61 := fun z => v61 (n3.mp z)
      by_cases v62 : v = 62
      · have hk2 : k + 1 < n := by
          by_cases z : n ≤ k + 1
          · exact absurd v62 (n5 z).2
          · omega
        rw [if_pos v62, fm_lt, J_X10_sign_128, if_neg (by decide), sg_150y fm_up_get (by decide)] at e0
        have es2 : s0 = 62 := n4.mpr v62
        refine ⟨k + 2, 10, 3, 257, fm_up (fm_up A1 1 8 10) 1 7 (nI (k + 2)), _, by omega, by omega, ?_, e0, fm_up_get, ?_, by rw [fm_up_ne (by omega), fm_up_get], by rw [fm_up_ne (by omega), fm_up_ne (by omega)]; exact g22, by rw [fm_up_ne (by omega), fm_up_get], Or.inr ⟨rfl, by unfold sgt; decide⟩, fun q j z => ?_, fun q j z => by rw [fm_up_ne (by omega), fm_up_ne (by omega), fb2 q j (by omega), fb1 q j (by omega)]⟩
        · rw [rs s0 n1, ea, es2]
          simp (decide := true) only [J_X6_readSign_44, J_X6_readSign_247, fm_lt, reduceIte]
          rw [sg_278y (Or.inr (Or.inl rfl)), g1, nI_1]
        · rw [fm_up_get, fm_up_ne (by omega), fb2 _ _ (by omega), gb1, nI_1]
        · rw [fm_up_ne (by omega), fm_up_ne (by omega), f1 q j (by omega)]
      · rw [if_neg v62, J_X10_sign_128, if_neg (by decide), sg_150 g23 (by decide)] at e0
        have es2 : ¬ s0 = 62 := fun z => v62 (n4.mp z)
        refine ⟨k + 1, 7, 3, 60, fm_up A1 1 8 7, B2, by omega, by omega, ?_, e0, by rw [fm_up_ne (by omega)]; exact g1, by rw [fb2 _ _ (by omega)]; exact gb1, fm_up_get, g22, g23, Or.inr ⟨rfl, by unfold sgt; decide⟩, fun q j z => by rw [fm_up_ne (by omega), f1 q j (by omega)], fun q j z => by rw [fb2 q j (by omega), fb1 q j (by omega)]⟩
        rw [rs s0 n1, ea]
        simp (decide := true) only [J_X6_readSign_44, J_X6_readSign_247, fm_lt, reduceIte]
        rw [if_neg es, if_neg es2]
        exact sg_278 (by decide) (by decide) (by decide)
  by_cases c62 : B.1 77 k = 62
  · have ea : A.1 2 k = 62 := (ch_eq hc (c := 62) (by omega)).mpr c62
    generalize hB2 : fm_up (fm_up B1 76 22 3) 76 23 62 = B2
    have fb2 : ∀ q j, (q ≠ 76 ∨ (j ≠ 22 ∧ j ≠ 23)) → B2.1 q j = B1.1 q j := fun q j z => by rw [← hB2, fm_up_ne (by omega), fm_up_ne (by omega)]
    have g22 : B2.1 76 22 = 3 := by rw [← hB2, fm_up_ne (by omega), fm_up_get]
    have g23 : B2.1 76 23 = 62 := by rw [← hB2, fm_up_get]
    have e0 : F_X10_sign (B.1 77 k) B = J_X10_sign_128 62 B2 := by
      rw [c62, md_sg3 (by simp), ebm, J_X10_sign_76]
      simp only [fm_lt]
      rw [hB2, if_neg (by decide), J_X10_sign_106, if_neg (by decide)]
    obtain ⟨s0, v, n1, n2, n3, n4, n5⟩ := tk_next (tb1 B2 fb2) g1 (by rw [fb2 _ _ (by omega)]; exact gb1) (by omega)
    rw [J_X10_sign_128, if_pos rfl, n2, fm_bd_s] at e0
    by_cases v61 : v = 61
    · have hk2 : k + 1 < n := by
        by_cases z : n ≤ k + 1
        · exact absurd v61 (n5 z).1
        · omega
      rw [if_pos v61, fm_lt, sg_150y fm_up_get (by decide)] at e0
      have es : s0 = 61 := n3.mpr v61
      refine ⟨k + 2, 11, 3, 258, fm_up (fm_up A1 1 8 11) 1 7 (nI (k + 2)), _, by omega, by omega, ?_, e0, fm_up_get, ?_, by rw [fm_up_ne (by omega), fm_up_get], by rw [fm_up_ne (by omega), fm_up_ne (by omega)]; exact g22, by rw [fm_up_ne (by omega), fm_up_get], Or.inr ⟨rfl, by unfold sgt; decide⟩, fun q j z => ?_, fun q j z => by rw [fm_up_ne (by omega), fm_up_ne (by omega), fb2 q j (by omega), fb1 q j (by omega)]⟩
      · rw [rs s0 n1, ea, es]
        simp (decide := true) only [J_X6_readSign_44, J_X6_readSign_267, fm_lt, reduceIte]
        rw [sg_278y (Or.inr (Or.inr rfl)), g1, nI_1]
      · rw [fm_up_get, fm_up_ne (by omega), fb2 _ _ (by omega), gb1, nI_1]
      · rw [fm_up_ne (by omega), fm_up_ne (by omega), f1 q j (by omega)]
    · rw [if_neg v61, sg_150 g23 (by decide)] at e0
      have es : ¬ s0 = 61 := fun z => v61 (n3.mp z)
      refine ⟨k + 1, 12, 3, 62, fm_up A1 1 8 12, B2, by omega, by omega, ?_, e0, by rw [fm_up_ne (by omega)]; exact g1, by rw [fb2 _ _ (by omega)]; exact gb1, fm_up_get, g22, g23, Or.inr ⟨rfl, by unfold sgt; decide⟩, fun q j z => by rw [fm_up_ne (by omega), f1 q j (by omega)], fun q j z => by rw [fb2 q j (by omega), fb1 q j (by omega)]⟩
      rw [rs s0 n1, ea]
      simp (decide := true) only [J_X6_readSign_44, J_X6_readSign_267, fm_lt, reduceIte]
      rw [if_neg es]
      exact sg_278 (by decide) (by decide) (by decide)
  · -- no sign at all
    obtain ⟨s0, v, n1, -⟩ := tk_next (tb1 B1 (fun _ _ _ => rfl)) g1 gb1 (by omega)
    have na : ∀ c : Nat, c < 128 → ¬ B.1 77 k = nI c → ¬ A.1 2 k = nI c := fun c hc2 z y => z ((ch_eq hc hc2).mp y)
    have lt : B.1 77 k < 256 := by
      rcases hc with ⟨z, z1, -, z3⟩ | ⟨z, z1, z2, z3, -⟩
      · rw [z3]; exact nI_lt (b := 256) (by omega) (by omega)
      · rw [z3]; exact nI_lt (b := 256) (by omega) (by omega)
    refine ⟨k + 1, 1, 5, B.1 77 k, fm_up A1 1 8 1, fm_up (fm_up B1 76 22 5) 76 23 (B.1 77 k), by omega, by omega, ?_, ?_, by rw [fm_up_ne (by omega)]; exact g1, by rw [fm_up_ne (by omega), fm_up_ne (by omega)]; exact gb1, fm_up_get, by rw [fm_up_ne (by omega), fm_up_get], fm_up_get, Or.inl ⟨rfl, rfl⟩, fun q j z => by rw [fm_up_ne (by omega), f1 q j (by omega)], fun q j z => by rw [fm_up_ne (by omega), fm_up_ne (by omega), fb1 q j (by omega)]⟩
    · rw [rs s0 n1, sg_else (na 40 (by omega) c40) (na 41 (by omega) c41) (na 42 (by omega) c42) (na 43 (by omega) c43) (na 45 (by omega) c45) (na 47 (by omega) c47) (na 59 (by omega) c59) (na 60 (by omega) c60) (na 61 (by omega) c61) (na 62 (by omega) c62), sg_278 (by decide) (by decide) (by decide)]
    · rw [F_X10_sign]
      simp only [fm_lt]
      rw [if_neg c59, if_neg c40, if_neg c41, if_neg c43, if_neg c45, if_neg c42, if_neg c47, if_neg c60, if_neg c61, if_neg c62, ebm]
      exact md_sgn _ _ _ c60 c62 lt
