/-! minutes, images, days that go by -/
abbrev pI {α : Type} (oA oB : Option (α × fm_M)) : Prop := rR Inv Eq oA oB
theorem pu_I {α : Type} {t nf nm kd km : Nat} {oA oB : Option (α × fm_M)} (h : pu t nf nm kd km oA oB) : pI oA oB := rR_mono h (fun _ _ z => ⟨t, nf, nm, kd, km, z⟩) (fun _ _ z => z)
theorem nar01 : vp_nar .boolean 0 = 0 ∧ vp_nar .boolean 1 = 1 := by decide
/-- one more minute -/
theorem iv_mn_add {A B A2 B2 : fm_M} {t nf nm kd km : Nat} (h : iv_all A B t nf nm kd km) (hk : km < 24) (hA : ∀ q k, iv_pA q k → (q ≠ 63 ∨ k ≠ 2) → (q < 64 ∨ 65 < q ∨ k ≠ km) → A2.1 q k = A.1 q k) (hB : ∀ q k, iv_pB q k → (q ≠ 76 ∨ k ≠ 55) → (q < 106 ∨ 108 < q ∨ k ≠ km) → B2.1 q k = B.1 q k) (a : A2.1 63 2 = nI (km + 1)) (b : B2.1 76 55 = nI (km + 1)) (hnew : (B2.1 108 km = -1 ∧ (∃ m : Nat, m < nm ∧ A2.1 65 km = nI m ∧ B2.1 106 km = nI m) ∧ (A2.1 64 km = 0 ∨ A2.1 64 km = 1) ∧ B2.1 107 km = A2.1 64 km) ∨ (A2.1 64 km = 2 ∧ ∃ j : Nat, j < km ∧ A2.1 65 km = nI j ∧ B2.1 108 km = nI j)) : iv_all A2 B2 t nf nm kd (km + 1) := by
  obtain ⟨⟨h1, h2, h3⟩, h4, h5, h6, h7, h8, h9, h10, h11, h12⟩ := h
  have ht := fm_td h6.1.1
  have hnf := h6.1.2.1
  have hnm := h6.1.2.2.1
  have hA' : ∀ q k, iv_pA q k → q < 63 → A2.1 q k = A.1 q k := fun q k z y => hA q k z (by omega) (by omega)
  have hB' : ∀ q k, iv_pB q k → q < 106 → (q ≠ 76 ∨ k ≠ 55) → B2.1 q k = B.1 q k := fun q k z y w => hB q k z w (by omega)
  refine ⟨⟨by rw [hA' 0 1 (by unfold iv_pA; omega) (by omega)]; exact h1, by rw [hA' 1 5 (by unfold iv_pA; omega) (by omega)]; exact h2, fun i hi => by rw [hA' 3 i (by unfold iv_pA; omega) (by omega)]; exact h3 i hi⟩, iv_tp_cg h4 (fun q k z => hA' q k (by unfold iv_pA; omega) (by omega)) (fun q k z => hB' q k (by unfold iv_pB; omega) (by omega) (by omega)), ?_, iv_td_cg h6 (fun q k a b => hA' q k (by unfold iv_pA; omega) (by omega)) (fun q k a b => hB' q k (by unfold iv_pB; omega) (by omega) (by omega)), iv_st_cg h7 hnf hnm (fun q k a b => hA' q k (by unfold iv_pA; omega) (by omega)) (fun q k a => hB' q k (by unfold md_cc at a; unfold iv_pB; omega) (by unfold md_cc at a; omega) (by unfold md_cc at a; omega)), iv_so_cg h8 (fun q k a => hA' q k (by unfold iv_pA; omega) (by omega)) (fun q k a => hB' q k (by unfold iv_pB; omega) (by omega) (by omega)), iv_im_cg h9 hnf hnm (fun q k a => hA' q k (by unfold iv_pA; omega) (by omega)) (fun q k a => hB' q k (by unfold md_cc at a; unfold iv_pB; omega) (by unfold md_cc at a; omega) (by unfold md_cc at a; omega)), iv_dd_cg h10 hnf hnm (fun q k a => hA' q k (by unfold iv_pA; omega) (by omega)) (fun q k a => hB' q k (by unfold iv_pB; omega) (by omega) (by omega)), ?_, ?_⟩
  · rw [hA' 1 3 (by unfold iv_pA; omega) (by omega), hA' 1 4 (by unfold iv_pA; omega) (by omega), hB' 76 26 (by unfold iv_pB; omega) (by omega) (by omega), hB' 76 27 (by unfold iv_pB; omega) (by omega) (by omega)]; exact h5
  · obtain ⟨m1, m2, m3, m4, m5, m6⟩ := h11
    have e3 : A2.1 63 3 = A.1 63 3 := hA _ _ (by unfold iv_pA; omega) (by omega) (by omega)
    have e56 : B2.1 76 56 = B.1 76 56 := hB _ _ (by unfold iv_pB; omega) (by omega) (by omega)
    refine ⟨by omega, a, b, by rw [e3, e56]; exact m4, ?_, fun i hi => ?_⟩
    · rw [e3]
      rcases m5 with z | ⟨n, z1, z2⟩
      · exact Or.inl z
      · exact Or.inr ⟨n, by omega, z2⟩
    · by_cases e : i = km
      · subst e; exact hnew
      · rw [hA 64 i (by unfold iv_pA; omega) (by omega) (by omega), hA 65 i (by unfold iv_pA; omega) (by omega) (by omega), hB 106 i (by unfold iv_pB; omega) (by omega) (by omega), hB 107 i (by unfold iv_pB; omega) (by omega) (by omega), hB 108 i (by unfold iv_pB; omega) (by omega) (by omega)]
        exact m6 i (by omega)
  · unfold iv_md
    rw [hB' 76 43 (by unfold iv_pB; omega) (by omega) (by omega), hB' 76 44 (by unfold iv_pB; omega) (by omega) (by omega), hB' 76 45 (by unfold iv_pB; omega) (by omega) (by omega), hB' 76 46 (by unfold iv_pB; omega) (by omega) (by omega)]
    exact h12
theorem pI_minute {A B : fm_M} {t nf nm kd km : Nat} (h : iv_all A B t nf nm kd km) (a1 a2 : Int32) (ha2 : a2 = 0 ∨ a2 = 1) : pI (F_X9_minute a1 a2 A) (F_X10_minute a1 a2 B) := by
  have h0 := iv_thr h 0
  rw [F_X9_minute, F_X10_minute]
  simp only [fm_lt]
  generalize fm_up B 76 0 0 = B1 at *
  rcases iv_isMotion h0 a1 with ⟨e1, e2⟩ | ⟨f, hf, hf8, rfl, e1, e2⟩
  · rw [e1, e2, fm_bd_s, fm_bd_s, if_pos rfl, if_pos rfl]; exact pu_I (rR_ret h0 rfl)
  rw [e1, e2, fm_bd_s, fm_bd_s, if_neg n10, if_neg n10]
  obtain ⟨m1, m2, m3, -⟩ := h0.2.2.2.2.2.2.2.2.1
  have key : pI (F_X4_add a2 (nI f) A) (if B1.1 76 55 = 24 then some ((-1), B1) else fm_gd (fm_inb (B1.1 76 55) 24) (fm_gd (fm_inb ((fm_up B1 106 (Int32.toNatClampNeg (B1.1 76 55)) (nI f)).1 76 55) 24) (fm_gd (fm_inb ((fm_up (fm_up B1 106 (Int32.toNatClampNeg (B1.1 76 55)) (nI f)) 107 (Int32.toNatClampNeg ((fm_up B1 106 (Int32.toNatClampNeg (B1.1 76 55)) (nI f)).1 76 55)) (vp_nar .boolean a2)).1 76 55) 24) (some ((fm_up (fm_up (fm_up (fm_up B1 106 (Int32.toNatClampNeg (B1.1 76 55)) (nI f)) 107 (Int32.toNatClampNeg ((fm_up B1 106 (Int32.toNatClampNeg (B1.1 76 55)) (nI f)).1 76 55)) (vp_nar .boolean a2)) 108 (Int32.toNatClampNeg ((fm_up (fm_up B1 106 (Int32.toNatClampNeg (B1.1 76 55)) (nI f)) 107 (Int32.toNatClampNeg ((fm_up B1 106 (Int32.toNatClampNeg (B1.1 76 55)) (nI f)).1 76 55)) (vp_nar .boolean a2)).1 76 55)) (-1)) 76 55 ((fm_up (fm_up (fm_up B1 106 (Int32.toNatClampNeg (B1.1 76 55)) (nI f)) 107 (Int32.toNatClampNeg ((fm_up B1 106 (Int32.toNatClampNeg (B1.1 76 55)) (nI f)).1 76 55)) (vp_nar .boolean a2)) 108 (Int32.toNatClampNeg ((fm_up (fm_up B1 106 (Int32.toNatClampNeg (B1.1 76 55)) (nI f)) 107 (Int32.toNatClampNeg ((fm_up B1 106 (Int32.toNatClampNeg (B1.1 76 55)) (nI f)).1 76 55)) (vp_nar .boolean a2)).1 76 55)) (-1)).1 76 55 + 1)).1 76 55 - 1, fm_up (fm_up (fm_up (fm_up B1 106 (Int32.toNatClampNeg (B1.1 76 55)) (nI f)) 107 (Int32.toNatClampNeg ((fm_up B1 106 (Int32.toNatClampNeg (B1.1 76 55)) (nI f)).1 76 55)) (vp_nar .boolean a2)) 108 (Int32.toNatClampNeg ((fm_up (fm_up B1 106 (Int32.toNatClampNeg (B1.1 76 55)) (nI f)) 107 (Int32.toNatClampNeg ((fm_up B1 106 (Int32.toNatClampNeg (B1.1 76 55)) (nI f)).1 76 55)) (vp_nar .boolean a2)).1 76 55)) (-1)) 76 55 ((fm_up (fm_up (fm_up B1 106 (Int32.toNatClampNeg (B1.1 76 55)) (nI f)) 107 (Int32.toNatClampNeg ((fm_up B1 106 (Int32.toNatClampNeg (B1.1 76 55)) (nI f)).1 76 55)) (vp_nar .boolean a2)) 108 (Int32.toNatClampNeg ((fm_up (fm_up B1 106 (Int32.toNatClampNeg (B1.1 76 55)) (nI f)) 107 (Int32.toNatClampNeg ((fm_up B1 106 (Int32.toNatClampNeg (B1.1 76 55)) (nI f)).1 76 55)) (vp_nar .boolean a2)).1 76 55)) (-1)).1 76 55 + 1)))))) := by
    rw [F_X4_add, m2]
    by_cases hk : km = 24
    · subst hk
      rw [if_neg (by decide), if_pos (by rw [m3]; rfl)]
      exact pu_I (rR_ret h0 rfl)
    · rw [if_pos (show nI km < 24 from nI_lt (b := 24) (by omega) (by omega)), if_neg (by rw [m3]; exact fun z => hk ((nI_eq (by omega) (b := 24) (by omega)).mp z))]
      simp (disch := omega) only [fm_lt, fm_up_ne, m2, m3, nu_inb, fm_gd1, nI_clamp, nI_1, fm_up_get, nI_pred]
      have n01 : vp_nar .boolean a2 = a2 := by rcases ha2 with rfl | rfl; exact nar01.1; exact nar01.2
      rw [n01]
      refine ⟨_, _, _, _, rfl, rfl, rfl, t, nf, nm, kd, km + 1, iv_mn_add h0 (by omega) (fun q k z1 z2 z3 => ?_) (fun q k z1 z2 z3 => ?_) fm_up_get fm_up_get (Or.inl ?_)⟩
      · simp (disch := omega) only [fm_up_ne]
      · simp (disch := omega) only [fm_up_ne]
      · simp (disch := omega) only [fm_up_ne, fm_up_get]
        exact ⟨by trivial, ⟨f, hf, rfl, rfl⟩, ha2, by trivial⟩
  rcases ha2 with rfl | rfl
  · rw [if_pos rfl]
    obtain ⟨v, w, A2, B2, k1, k2, k3, k4⟩ := key
    rw [k1, fm_bd_s]
    exact ⟨v, w, A2, B2, rfl, k2, k3, k4⟩
  · rw [if_neg n10]
    obtain ⟨v, w, A2, B2, k1, k2, k3, k4⟩ := key
    rw [k1, fm_bd_s]
    exact ⟨v, w, A2, B2, rfl, k2, k3, k4⟩
theorem pI_out {A B : fm_M} {t nf nm kd km : Nat} (h : iv_all A B t nf nm kd km) (a1 : Int32) : pI (F_X9_out a1 A) (F_X10_out a1 B) := by
  have h0 := iv_thr h 0
  rw [F_X9_out, F_X10_out]
  simp only [fm_lt]
  generalize fm_up B 76 0 0 = B1 at *
  obtain ⟨m1, m2, m3, -⟩ := h0.2.2.2.2.2.2.2.2.1
  rw [m2, m3]
  by_cases d0 : a1 < 0
  · rw [if_pos d0, if_pos d0]; exact pu_I (rR_ret h0 rfl)
  rw [if_neg d0, if_neg d0]
  obtain ⟨j, hj, rfl⟩ := nI_of d0
  by_cases d1 : km ≤ j
  · rw [if_pos (nI_le d1 hj), if_pos (nI_le d1 hj)]; exact pu_I (rR_ret h0 rfl)
  rw [if_neg (nI_ge (by omega) (by omega)), if_neg (nI_ge (by omega) (by omega)), F_X4_add, m2]
  by_cases hk : km = 24
  · subst hk
    rw [if_neg (by decide), if_pos (by rfl), fm_bd_s]
    exact pu_I (rR_ret h0 rfl)
  · rw [if_pos (show nI km < 24 from nI_lt (b := 24) (by omega) (by omega)), if_neg (show ¬ nI km = 24 from fun z => hk ((nI_eq (by omega) (b := 24) (by omega)).mp z))]
    simp (disch := omega) only [fm_lt, fm_up_ne, m2, m3, nu_inb, fm_gd1, nI_clamp, nI_1, fm_up_get, nI_pred, fm_bd_s]
    refine ⟨_, _, _, _, rfl, rfl, rfl, t, nf, nm, kd, km + 1, iv_mn_add h0 (by omega) (fun q k z1 z2 z3 => ?_) (fun q k z1 z2 z3 => ?_) fm_up_get fm_up_get (Or.inr ?_)⟩
    · simp (disch := omega) only [fm_up_ne]
    · simp (disch := omega) only [fm_up_ne]
    · simp (disch := omega) only [fm_up_ne, fm_up_get]
      exact ⟨by trivial, j, by omega, rfl, rfl⟩
/-- what is put in the place of one part -/
theorem iv_up {A B A2 B2 : fm_M} {t nf nm kd km kd2 km2 : Nat} (h : iv_all A B t nf nm kd km) (hA : ∀ q k, iv_pA q k → q < 38 → (q ≠ 0 ∨ k ≤ 2) → A2.1 q k = A.1 q k) (hB : ∀ q k, iv_pB q k → q < 94 → (q ≠ 76 ∨ k = 2 ∨ k = 26 ∨ k = 27 ∨ (43 ≤ k ∧ k ≤ 46)) → B2.1 q k = B.1 q k)
    (x1 : iv_td A2 B2 t nf nm → iv_st A2 B2 38 0 nf nm) (x2 : iv_td A2 B2 t nf nm → iv_so A2 B2 t 38 nf nm) (x3 : iv_td A2 B2 t nf nm → iv_im A2 B2 t nf nm) (x4 : iv_td A2 B2 t nf nm → iv_dd A2 B2 t nf nm kd2) (x5 : iv_mn A2 B2 nm km2) : iv_all A2 B2 t nf nm kd2 km2 := by
  obtain ⟨⟨h1, h2, h3⟩, h4, h5, h6, -, -, -, -, -, h12⟩ := h
  have ht := fm_td h6.1.1
  have td : iv_td A2 B2 t nf nm := iv_td_cg h6 (fun q k a b => hA q k (by unfold iv_pA; omega) (by omega) (by omega)) (fun q k a b => hB q k (by unfold iv_pB; omega) (by omega) (by omega))
  refine ⟨⟨by rw [hA 0 1 (by unfold iv_pA; omega) (by omega) (by omega)]; exact h1, by rw [hA 1 5 (by unfold iv_pA; omega) (by omega) (by omega)]; exact h2, fun i hi => by rw [hA 3 i (by unfold iv_pA; omega) (by omega) (by omega)]; exact h3 i hi⟩, iv_tp_cg h4 (fun q k z => hA q k (by unfold iv_pA; omega) (by omega) (by omega)) (fun q k z => hB q k (by unfold iv_pB; omega) (by omega) (by omega)), ?_, td, x1 td, x2 td, x3 td, x4 td, x5, ?_⟩
  · rw [hA 1 3 (by unfold iv_pA; omega) (by omega) (by omega), hA 1 4 (by unfold iv_pA; omega) (by omega) (by omega), hB 76 26 (by unfold iv_pB; omega) (by omega) (by omega), hB 76 27 (by unfold iv_pB; omega) (by omega) (by omega)]; exact h5
  · unfold iv_md
    rw [hB 76 43 (by unfold iv_pB; omega) (by omega) (by omega), hB 76 44 (by unfold iv_pB; omega) (by omega) (by omega), hB 76 45 (by unfold iv_pB; omega) (by omega) (by omega), hB 76 46 (by unfold iv_pB; omega) (by omega) (by omega)]
    exact h12
theorem pI_known {A B : fm_M} {t nf nm kd km : Nat} (h : iv_all A B t nf nm kd km) (a1 : Int32) : pI (F_X9_known a1 A) (F_X10_known a1 B) := by
  have h0 := iv_thr h 0
  rw [F_X9_known, F_X10_known]
  simp only [fm_lt]
  generalize fm_up B 76 0 0 = B1 at *
  obtain ⟨m1, m2, m3, m4, m5, m6⟩ := h0.2.2.2.2.2.2.2.2.1
  have hnf := (iv_nf h0).1
  have hnm := (iv_nm h0).1
  have ht := fm_td (iv_tt h)
  rw [m2, m3]
  by_cases d0 : a1 < -1
  · rw [if_pos d0, if_pos d0]; exact pu_I (rR_ret h0 rfl)
  rw [if_neg d0, if_neg d0]
  by_cases d1 : a1 ≤ nI km
  · rw [if_pos d1, if_pos d1]
    have hA : ∀ q k, (q ≠ 63 ∨ k ≠ 3) → (fm_up A 63 3 a1).1 q k = A.1 q k := fun q k z => fm_up_ne z
    have hB : ∀ q k, (q ≠ 76 ∨ k ≠ 56) → (fm_up B1 76 56 a1).1 q k = B1.1 q k := fun q k z => fm_up_ne z
    refine ⟨_, _, _, _, rfl, rfl, rfl, t, nf, nm, kd, km, iv_up h0 (fun q k z1 z2 z3 => hA q k (by omega)) (fun q k z1 z2 z3 => hB q k (by omega)) (fun _ => iv_st_cg h0.2.2.2.2.1 hnf hnm (fun q k _ _ => hA q k (by omega)) (fun q k z => hB q k (by unfold md_cc at z; omega))) (fun _ => iv_so_cg h0.2.2.2.2.2.1 (fun q k _ => hA q k (by omega)) (fun q k z => hB q k (by omega))) (fun _ => iv_im_cg h0.2.2.2.2.2.2.1 hnf hnm (fun q k _ => hA q k (by omega)) (fun q k z => hB q k (by unfold md_cc at z; omega))) (fun _ => iv_dd_cg h0.2.2.2.2.2.2.2.1 hnf hnm (fun q k _ => hA q k (by omega)) (fun q k z => hB q k (by omega))) ⟨m1, ?_, ?_, ?_, ?_, fun i hi => ?_⟩⟩
    · rw [hA _ _ (by omega)]; exact m2
    · rw [hB _ _ (by omega)]; exact m3
    · rw [fm_up_get, fm_up_get]
    · rw [fm_up_get]
      by_cases z : a1 < 0
      · refine Or.inl (Int32.toInt_inj.mp ?_)
        have z1 := Int32.lt_iff_toInt_lt.mp z
        have z2 : ¬ a1.toInt < (-1 : Int32).toInt := fun y => d0 (Int32.lt_iff_toInt_lt.mpr y)
        rw [show (-1 : Int32).toInt = -1 from by decide] at z2 ⊢
        rw [show (0 : Int32).toInt = 0 from rfl] at z1
        omega
      · obtain ⟨j, hj, rfl⟩ := nI_of z
        exact Or.inr ⟨j, (nI_leI hj (by omega)).mp d1, rfl⟩
    · simp (disch := omega) only [hA, hB]
      exact m6 i hi
  · rw [if_neg d1, if_neg d1]; exact pu_I (rR_ret h0 rfl)
theorem pI_keep {A B : fm_M} {t nf nm kd km : Nat} (h : iv_all A B t nf nm kd km) : pI (F_X9_keep A) (F_X10_keep B) := by
  have h0 := iv_thr h 0
  rw [F_X9_keep, F_X10_keep]
  simp only [fm_lt]
  generalize fm_up B 76 0 0 = B1 at *
  have hnf := (iv_nf h0).1
  have hnm := (iv_nm h0).1
  have ht := fm_td (iv_tt h)
  obtain ⟨-, -, -, td, st, so, im, dd, mn, -⟩ := id h0
  obtain ⟨A2, e1, e2, e3, e4, e5⟩ := cl_copy (A := A) (p := 52) (q := 38) rfl rfl (by omega) (Or.inr so.1.2.2)
  obtain ⟨B2, g1, ⟨g2, g3, g4, g5⟩, g6, g7, g8⟩ := md_copy (B := B1) (a := 2) (b := 0) (by omega) (by omega) (by omega)
  rw [e1, fm_bd_s, show F_X10_copies 2 0 B1 = _ from g1, fm_bd_s, fm_gd_t (by decide), ck_0]
  have hA : ∀ q k, (q < 52 ∨ 57 < q) → (q ≠ 0 ∨ k ≠ 5) → (fm_up A2 0 5 1).1 q k = A.1 q k := fun q k z y => by rw [fm_up_ne y, e5 q k (by omega)]
  have hB : ∀ q k, ¬ md_cc 2 q k → (q ≠ 76 ∨ k ≠ 41) → (fm_up B2 76 41 1).1 q k = B1.1 q k := fun q k z y => by rw [fm_up_ne y, g8 q k z]
  obtain ⟨⟨s1, s2, s3, s4⟩, s5, s6⟩ := id st
  obtain ⟨⟨o1, o2, o3⟩, o4, o5, o6, ⟨d, o7, o8, o9⟩, o10⟩ := id so
  have hA0 : ∀ q k, (fm_up A2 0 5 1).1 q k = A2.1 q k ∨ (q = 0 ∧ k = 5) := fun q k => by
    by_cases z : q = 0 ∧ k = 5
    · exact Or.inr z
    · exact Or.inl (fm_up_ne (by omega))
  refine ⟨_, _, _, _, rfl, rfl, ?_, t, nf, nm, kd, km, iv_up h0 (fun q k z1 z2 z3 => hA q k (by omega) (by omega)) (fun q k z1 z2 z3 => hB q k (by unfold md_cc; omega) (by omega)) (fun _ => iv_st_cg st hnf hnm (fun q k _ _ => hA q k (by omega) (by omega)) (fun q k z => hB q k (by unfold md_cc at z ⊢; omega) (by unfold md_cc at z; omega))) (fun _ => iv_so_cg so (fun q k _ => hA q k (by omega) (by omega)) (fun q k z => hB q k (by unfold md_cc; omega) (by omega))) (fun _ => ?_) (fun _ => iv_dd_cg dd hnf hnm (fun q k _ => hA q k (by omega) (by omega)) (fun q k z => hB q k (by unfold md_cc; omega) (by omega))) (iv_mn_cg mn (fun q k _ => hA q k (by omega) (by omega)) (fun q k z => hB q k (by unfold md_cc; omega) (by omega)))⟩
  · rw [hA 38 0 (by omega) (by omega), hB 94 0 (by unfold md_cc; omega) (by omega)]; exact s1
  · refine ⟨Or.inr fm_up_get, by rw [fm_up_get, fm_up_get], fun _ => ⟨⟨⟨?_, ?_, ?_, ?_⟩, fun f hf => ?_, fun m hm => ?_⟩, ⟨⟨?_, ?_, ?_⟩, fun f hf => ?_, fun m hm => ?_, fun f hf => ?_, ?_, ?_⟩⟩⟩
    · rw [fm_up_ne (by omega), fm_up_ne (by omega), e2 0 (by omega), g2]; exact s1
    · rw [fm_up_ne (by omega), fm_up_ne (by omega), e2 2 (by omega), g3]; exact s2
    · rw [fm_up_ne (by omega), fm_up_ne (by omega), e2 3 (by omega), g4]; exact s3
    · rw [fm_up_ne (by omega), fm_up_ne (by omega), e2 4 (by omega), g5]; exact s4
    · rw [fm_up_ne (by omega), fm_up_ne (by omega), (e3 f (by omega)).1, g6 f (by omega)]; exact s5 f hf
    · simp (disch := omega) only [fm_up_ne]
      rw [(e4 m (by omega)).1, (e4 m (by omega)).2.1, (e4 m (by omega)).2.2, (g7 m (by omega)).1, (g7 m (by omega)).2.1, (g7 m (by omega)).2.2]; exact s6 m hm
    · rw [fm_up_ne (by omega), fm_up_ne (by omega), e2 5 (by omega), e5 t 6 (by omega)]; exact o1
    · rw [fm_up_ne (by omega), e2 6 (by omega)]; exact o2
    · rw [fm_up_ne (by omega), e2 7 (by omega)]; exact o3
    · rw [fm_up_ne (by omega), fm_up_ne (by omega), (e3 f (by omega)).2, e5 _ _ (by omega)]; exact o4 f hf
    · simp (disch := omega) only [fm_up_ne]
      rw [(e4 m (by omega)).2.1, (e4 m (by omega)).2.2]; exact o5 m hm
    · rw [fm_up_ne (by omega), (e3 f (by omega)).1]; exact o6 f hf
    · refine ⟨d, o7, by rw [fm_up_ne (by omega), e2 0 (by omega)]; exact o8, ?_⟩
      rw [fm_up_ne (by omega), e2 1 (by omega), o9, md_wet_cg (fun q k z => hB q k (by unfold md_cc; omega) (by omega))]
    · rw [fm_up_ne (by omega), e2 4 (by omega)]; exact o10
theorem pI_back {A B : fm_M} {t nf nm kd km : Nat} (h : iv_all A B t nf nm kd km) : pI (F_X9_back A) (F_X10_back B) := by
  have h0 := iv_thr h 0
  rw [F_X9_back, F_X10_back]
  simp only [fm_lt]
  generalize fm_up B 76 0 0 = B1 at *
  have hnf := (iv_nf h0).1
  have hnm := (iv_nm h0).1
  have ht := fm_td (iv_tt h)
  obtain ⟨-, -, -, td, -, -, im, dd, mn, -⟩ := id h0
  rcases im.1 with z | z
  · rw [if_pos z, if_pos (by rw [← im.2.1]; exact z)]; exact pu_I (rR_ret h0 rfl)
  obtain ⟨st, so⟩ := im.2.2 z
  rw [if_neg (by rw [z]; decide), if_neg (by rw [← im.2.1, z]; decide)]
  obtain ⟨A2, e1, e2, e3, e4, e5⟩ := cl_copy (A := A) (p := 38) (q := 52) rfl rfl (by omega) (Or.inr so.1.2.2)
  obtain ⟨B2, g1, ⟨g2, g3, g4, g5⟩, g6, g7, g8⟩ := md_copy (B := B1) (a := 0) (b := 2) (by omega) (by omega) (by omega)
  rw [e1, fm_bd_s, show F_X10_copies 0 2 B1 = _ from g1, fm_bd_s, fm_gd_t (by decide), ck_0]
  have hA : ∀ q k, (q < 38 ∨ 43 < q) → (q ≠ 59 ∨ k ≠ 3) → (fm_up A2 59 3 0).1 q k = A.1 q k := fun q k z y => by rw [fm_up_ne y, e5 q k (by omega)]
  have hB : ∀ q k, ¬ md_cc 0 q k → (q ≠ 76 ∨ k ≠ 42) → (fm_up B2 76 42 0).1 q k = B1.1 q k := fun q k z y => by rw [fm_up_ne y, g8 q k z]
  obtain ⟨⟨s1, s2, s3, s4⟩, s5, s6⟩ := id st
  obtain ⟨⟨o1, o2, o3⟩, o4, o5, o6, ⟨d, o7, o8, o9⟩, o10⟩ := id so
  refine ⟨_, _, _, _, rfl, rfl, ?_, t, nf, nm, 0, km, iv_up h0 (fun q k z1 z2 z3 => hA q k (by omega) (by omega)) (fun q k z1 z2 z3 => hB q k (by unfold md_cc; omega) (by omega)) (fun _ => ?_) (fun _ => ?_) (fun _ => iv_im_cg im hnf hnm (fun q k _ => hA q k (by omega) (by omega)) (fun q k z => hB q k (by unfold md_cc at z ⊢; omega) (by unfold md_cc at z; omega))) (fun _ => ⟨by omega, fm_up_get, fm_up_get, fun j hj => absurd hj (by omega)⟩) (iv_mn_cg mn (fun q k _ => hA q k (by omega) (by omega)) (fun q k z => hB q k (by unfold md_cc; omega) (by omega)))⟩
  · rw [fm_up_ne (by omega), e2 0 (by omega), fm_up_ne (by omega), g2]; exact s1
  · refine ⟨⟨?_, ?_, ?_, ?_⟩, fun f hf => ?_, fun m hm => ?_⟩
    · rw [fm_up_ne (by omega), fm_up_ne (by omega), e2 0 (by omega), g2]; exact s1
    · rw [fm_up_ne (by omega), fm_up_ne (by omega), e2 2 (by omega), g3]; exact s2
    · rw [fm_up_ne (by omega), fm_up_ne (by omega), e2 3 (by omega), g4]; exact s3
    · rw [fm_up_ne (by omega), fm_up_ne (by omega), e2 4 (by omega), g5]; exact s4
    · rw [fm_up_ne (by omega), fm_up_ne (by omega), (e3 f (by omega)).1, g6 f (by omega)]; exact s5 f hf
    · simp (disch := omega) only [fm_up_ne]
      rw [(e4 m (by omega)).1, (e4 m (by omega)).2.1, (e4 m (by omega)).2.2, (g7 m (by omega)).1, (g7 m (by omega)).2.1, (g7 m (by omega)).2.2]; exact s6 m hm
  · refine ⟨⟨?_, ?_, ?_⟩, fun f hf => ?_, fun m hm => ?_, fun f hf => ?_, ?_, ?_⟩
    · rw [fm_up_ne (by omega), fm_up_ne (by omega), e2 5 (by omega), e5 t 6 (by omega)]; exact o1
    · rw [fm_up_ne (by omega), e2 6 (by omega)]; exact o2
    · rw [fm_up_ne (by omega), e2 7 (by omega)]; exact o3
    · rw [fm_up_ne (by omega), fm_up_ne (by omega), (e3 f (by omega)).2, e5 _ _ (by omega)]; exact o4 f hf
    · simp (disch := omega) only [fm_up_ne]
      rw [(e4 m (by omega)).2.1, (e4 m (by omega)).2.2]; exact o5 m hm
    · rw [fm_up_ne (by omega), (e3 f (by omega)).1]; exact o6 f hf
    · refine ⟨d, o7, by rw [fm_up_ne (by omega), e2 0 (by omega)]; exact o8, ?_⟩
      rw [fm_up_ne (by omega), e2 1 (by omega), o9, md_wet_cg (fun q k z => hB q k (by unfold md_cc; omega) (by omega))]
    · rw [fm_up_ne (by omega), e2 4 (by omega)]; exact o10
