/-! motion: what the reference answers, and what the class will find -/
theorem on_motion {M : fm_M} (h : Inv M M) (a1 a2 : Int32) : ∃ (t : Nat) (w s : Int32), fm_isTd t = true ∧ M.1 0 1 = nI t ∧ F_X10_motion a1 a2 M = some (w, fm_up M 76 0 s) ∧ Inv (fm_up M 76 0 s) (fm_up M 76 0 s) ∧ ((s = 1 ∧ F_X9_isMotion a1 M = some (0, M)) ∨ (s = 2 ∧ F_X9_isMotion a1 M = some (1, M) ∧ ¬ a2 = 0 ∧ ¬ a2 = 1 ∧ ¬ a2 = 2 ∧ ¬ a2 = 3) ∨ (s = 0 ∧ F_X9_isMotion a1 M = some (1, M) ∧ ∃ m : Nat, m < 10 ∧ a1 = nI m ∧ ((a2 = 0 ∧ w = M.1 (t + 7) m) ∨ (a2 = 1 ∧ w = M.1 41 m) ∨ (a2 = 2 ∧ w = M.1 42 m) ∨ (a2 = 3 ∧ w = M.1 43 m)))) := by
  obtain ⟨t, nf, nm, kd, km, h⟩ := h
  have ht := fm_td (iv_tt h)
  have hi : ∀ s, Inv (fm_up M 76 0 s) (fm_up M 76 0 s) := fun s => ⟨t, nf, nm, kd, km, iv_cg h (fun q k z => fm_up_ne (by unfold iv_pA at z; omega)) (fun q k z => fm_up_ne (by unfold iv_pB at z; omega))⟩
  refine ⟨t, ?_⟩
  rcases iv_isMotion h a1 with ⟨e1, e2⟩ | ⟨m, m1, m2, rfl, e1, e2⟩
  · refine ⟨0, 1, iv_tt h, h.1.1, ?_, hi _, Or.inl ⟨rfl, e1⟩⟩
    rw [F_X10_motion, e2, fm_bd_s, if_pos rfl, J_X10_motion_27, fm_lt, fm_up_get, if_neg n10]
  · rw [F_X10_motion, e2, fm_bd_s, if_neg n10]
    have bad : ¬ a2 = 0 → ¬ a2 = 1 → ¬ a2 = 2 → ¬ a2 = 3 → ∃ (w s : Int32), fm_isTd t = true ∧ M.1 0 1 = nI t ∧ J_X10_motion_22 (nI m) a2 M = some (w, fm_up M 76 0 s) ∧ Inv (fm_up M 76 0 s) (fm_up M 76 0 s) ∧ ((s = 1 ∧ F_X9_isMotion (nI m) M = some (0, M)) ∨ (s = 2 ∧ F_X9_isMotion (nI m) M = some (1, M) ∧ ¬ a2 = 0 ∧ ¬ a2 = 1 ∧ ¬ a2 = 2 ∧ ¬ a2 = 3) ∨ (s = 0 ∧ F_X9_isMotion (nI m) M = some (1, M) ∧ ∃ m_1 : Nat, m_1 < 10 ∧ nI m = nI m_1 ∧ ((a2 = 0 ∧ w = M.1 (t + 7) m_1) ∨ (a2 = 1 ∧ w = M.1 41 m_1) ∨ (a2 = 2 ∧ w = M.1 42 m_1) ∨ (a2 = 3 ∧ w = M.1 43 m_1)))) := by
      intro x0 x1 x2 x3
      refine ⟨0, 2, iv_tt h, h.1.1, ?_, hi _, Or.inr (Or.inl ⟨rfl, e1, x0, x1, x2, x3⟩)⟩
      rw [J_X10_motion_22, J_X10_motion_27, fm_lt, fm_up_get, if_neg (by decide)]
    by_cases c1 : a2 < 0
    · rw [if_pos c1]
      exact bad (fun z => by rw [z] at c1; exact absurd c1 (by decide)) (fun z => by rw [z] at c1; exact absurd c1 (by decide)) (fun z => by rw [z] at c1; exact absurd c1 (by decide)) (fun z => by rw [z] at c1; exact absurd c1 (by decide))
    · rw [if_neg c1]
      by_cases c2 : a2 ≤ 3
      · rw [if_pos c2, J_X10_motion_27, fm_lt, fm_up_get, if_pos rfl]
        obtain ⟨d1, d2, d3, d4⟩ := h.2.2.2.1.2.2.2.2.2 m m1
        obtain ⟨g1, g2, g3⟩ := h.2.2.2.2.1.2.2 m m1
        have ec : Int32.toNatClampNeg (nI m) = m := nI_clamp (by omega)
        rw [ec, fm_gd_t (show fm_inb (nI m) 20 = true from nu_inb (by omega) (by omega)), fm_gd_t (show fm_inb (nI m) 230 = true from nu_inb (by omega) (by omega)), fm_gd_t (show fm_inb (nI m) 230 = true from nu_inb (by omega) (by omega)), fm_gd_t (show fm_inb (nI m) 230 = true from nu_inb (by omega) (by omega)), fm_up_ne (show (85 : Nat) ≠ 76 ∨ _ from Or.inl (by omega)), fm_up_ne (show (99 : Nat) ≠ 76 ∨ _ from Or.inl (by omega)), fm_up_ne (show (100 : Nat) ≠ 76 ∨ _ from Or.inl (by omega)), fm_up_ne (show (101 : Nat) ≠ 76 ∨ _ from Or.inl (by omega))]
        rw [Nat.mul_zero, Nat.zero_add] at g1 g2 g3
        obtain ⟨j, hj, rfl⟩ := nI_of2 (M := 3) (n := 3) rfl c1 c2
        have : j = 0 ∨ j = 1 ∨ j = 2 ∨ j = 3 := by omega
        rcases this with rfl | rfl | rfl | rfl
        · rw [if_pos (show nI 0 = (0 : Int32) from rfl)]
          exact ⟨M.1 85 m, 0, iv_tt h, h.1.1, rfl, hi _, Or.inr (Or.inr ⟨rfl, e1, m, by omega, rfl, Or.inl ⟨rfl, d2.symm⟩⟩)⟩
        · rw [if_neg (show ¬ nI 1 = (0 : Int32) by decide), if_pos (show nI 1 = (1 : Int32) from rfl)]
          exact ⟨M.1 99 m, 0, iv_tt h, h.1.1, rfl, hi _, Or.inr (Or.inr ⟨rfl, e1, m, by omega, rfl, Or.inr (Or.inl ⟨rfl, g1.symm⟩)⟩)⟩
        · rw [if_neg (show ¬ nI 2 = (0 : Int32) by decide), if_neg (show ¬ nI 2 = (1 : Int32) by decide), if_pos (show nI 2 = (2 : Int32) from rfl)]
          exact ⟨M.1 100 m, 0, iv_tt h, h.1.1, rfl, hi _, Or.inr (Or.inr ⟨rfl, e1, m, by omega, rfl, Or.inr (Or.inr (Or.inl ⟨rfl, g2.symm⟩))⟩)⟩
        · rw [if_neg (show ¬ nI 3 = (0 : Int32) by decide), if_neg (show ¬ nI 3 = (1 : Int32) by decide), if_neg (show ¬ nI 3 = (2 : Int32) by decide)]
          exact ⟨M.1 101 m, 0, iv_tt h, h.1.1, rfl, hi _, Or.inr (Or.inr ⟨rfl, e1, m, by omega, rfl, Or.inr (Or.inr (Or.inr ⟨rfl, g3.symm⟩))⟩)⟩
      · rw [if_neg c2]
        exact bad (fun z => c2 (by rw [z]; decide)) (fun z => c2 (by rw [z]; decide)) (fun z => c2 (by rw [z]; decide)) (fun z => c2 (by rw [z]; decide))
