/-! texts: both read them alike -/
theorem rx_text {A B : fm_M} {t nf nm kd km : Nat} (h : iv_all A B t nf nm kd km) (a : Int32) : ∃ (v : Int32) (A' B' : fm_M), F_X9_text a A = some (v, A') ∧ F_X10_text a B = some (v, B') ∧ Inv A' B' ∧ (∀ q k, 76 ≤ q → A'.1 q k = A.1 q k) ∧ (∀ q k, q < 76 → B'.1 q k = B.1 q k) := by
  have h0 := iv_thr h 0
  rw [F_X9_text, F_X10_text, fm_lt]
  have f01 : ∀ q k, q < 76 → (fm_up B 76 0 0).1 q k = B.1 q k := fun q k z => fm_up_ne (by omega)
  generalize fm_up B 76 0 0 = B1 at *
  obtain ⟨k, k1, k2, k3, k4⟩ := id h0.2.1
  have i0 : Inv A B1 := ⟨t, nf, nm, kd, km, h0⟩
  by_cases c1 : a < 0
  · rw [if_pos c1, if_pos c1]; exact ⟨_, A, B1, rfl, rfl, i0, fun _ _ _ => rfl, f01⟩
  rw [if_neg c1, if_neg c1, k2, k3]
  by_cases c2' : ¬ a ≤ nI k
  · rw [if_neg c2', if_neg c2']; exact ⟨_, A, B1, rfl, rfl, i0, fun _ _ _ => rfl, f01⟩
  have c2 : a ≤ nI k := Decidable.of_not_not c2'
  obtain ⟨n, hn, rfl⟩ := nI_of2 (nI_toInt (by omega)) c1 c2
  have ht := fm_td (iv_tt h0)
  obtain ⟨u, eu⟩ : ∃ u, u = 25 - t := ⟨_, rfl⟩
  have hu : fm_isTd u = true := by rcases ht with rfl | rfl <;> (subst eu; rfl)
  have hu2 := fm_td hu
  have h5 : A.1 1 5 = nI u := by rw [h0.1.2.1, ← eu]
  obtain ⟨A2, M16, M22, B2, w15, w21, x1, x2, x3, x4, hb, hx, hd, h18, a2, b2, fA, fB⟩ := t_start (A := A) (B := B1) (u := u) hu h5 h0.1.2.2 hn k1 k4
  obtain ⟨v, A3, B3, y1, y2, y3, y4, y5⟩ := t_loop (u := u) (n := n) (nI n) (nI n) w21 700 0 fm_fuel fm_fuel 0 0 0 0 0 0 A2 B2 (by omega) (by unfold fm_fuel; omega) (by unfold fm_fuel; omega) hb hx hd h18
  have gA : ∀ q k, q ≠ 1 → (q < u ∨ u + 14 < q) → A3.1 q k = A.1 q k := fun q k z1 z2 => by rw [y3 q k (by unfold twA; omega), fA q k z1 z2]
  have gB : ∀ q k, ¬ twB q k → (q ≠ 76 ∨ (k ≠ 2 ∧ k ≠ 19)) → B3.1 q k = B1.1 q k := fun q k z1 z2 => by rw [y4 q k z1, fB q k z1 z2]
  have a3 : A3.1 1 2 = 0 := by rw [y3 _ _ (by unfold twA; omega)]; exact a2
  have a35 : A3.1 1 5 = nI u := (xb_t hb y3 y4).2.2
  have b3 : B3.1 76 2 = 0 := by rw [y4 _ _ (by unfold twB; omega)]; exact b2
  rw [nI_0] at y1
  rw [if_pos c2, if_pos c2, x1, fm_bd_s, y1, fm_bd_s]
  obtain ⟨B4, eB4⟩ : ∃ z, fm_up (fm_up B3 76 26 (B3.1 76 24)) 76 27 ((fm_up B3 76 26 (B3.1 76 24)).1 76 25) = z := ⟨_, rfl⟩
  have fB4 : ∀ q k, (q ≠ 76 ∨ (k ≠ 26 ∧ k ≠ 27)) → B4.1 q k = B3.1 q k := fun q k z => by rw [← eB4, fm_up_ne (by omega), fm_up_ne (by omega)]
  have b26 : B4.1 76 26 = B3.1 76 24 := by rw [← eB4, fm_up_ne (by omega), fm_up_get]
  have b27 : B4.1 76 27 = B3.1 76 25 := by rw [← eB4, fm_up_get, fm_up_ne (by omega)]
  rcases y5 with y5 | ⟨lo, L, nf2, nm2, nw2, a5, b5, z1, z2, z3⟩
  · obtain ⟨f, f1, f2, f3, f4, f5⟩ := id y5
    rw [if_neg y5.a, fm_lt, fm_lt, fm_lt, fm_lt, fm_lt, x2, fm_bd_s, x3, fm_bd_s, fm_lt, fm_lt, fm_lt, fm_lt, x4, fm_bd_s, y2, fm_bd_s, fm_lt, fm_lt, eB4, fB4 76 24 (by omega), if_neg y5.b]
    refine ⟨_, A3, B4, rfl, rfl, ⟨t, nf, nm, kd, km, t_bad h0 (fun q k w1 w2 => gA q k w1 (by omega)) (by rw [a35, h5]) a3 (fun q k w1 w2 => by rw [fB4 q k (by omega), gB q k w1 (by omega)]) (by rw [fB4 _ _ (by omega)]; exact b3) (by rw [b26, f3, f4]) (by rw [b27, f5])⟩, fun q k z => gA q k (by omega) (by omega), fun q k z => by rw [fB4 q k (by omega), gB q k (by unfold twB; omega) (by omega), f01 q k z]⟩
  · have e1 : Int32.toNatClampNeg (A3.1 0 1) = t := by rw [gA _ _ (by omega) (by omega), h0.1.1, nI_clamp (by omega)]
    have e2 : Int32.toNatClampNeg (A3.1 1 5) = u := by rw [a35, nI_clamp (by omega)]
    have ex : F_X6_exchange t A3 = some (u, fm_up A3 1 5 (nI t)) := by rw [F_X6_exchange, fm_gd_t (iv_tt h0), fm_lt, e2, fm_gd_t hu, fm_lt]
    obtain ⟨C1, C2, C3, C4, C5, C6, C7, C8, C9, C10, C11, C12, C13, C14, g1, g2, g3, g4, g5, g6, g7, g8, g9, g10, g11, g12, g13, g14, hh1, hh2⟩ := md_halves B4
    obtain ⟨B5, eB5⟩ : ∃ z, fm_up (fm_up (fm_up (fm_up C14 76 55 0) 76 56 (-1)) 76 41 0) 76 42 0 = z := ⟨_, rfl⟩
    have fB5 : ∀ q k, (q ≠ 76 ∨ (k ≠ 55 ∧ k ≠ 56 ∧ k ≠ 41 ∧ k ≠ 42)) → B5.1 q k = C14.1 q k := fun q k z => by rw [← eB5, fm_up_ne (by omega), fm_up_ne (by omega), fm_up_ne (by omega), fm_up_ne (by omega)]
    have k76 : ∀ k, k ≠ 55 ∧ k ≠ 56 ∧ k ≠ 41 ∧ k ≠ 42 → B5.1 76 k = B4.1 76 k := fun k z => by rw [fB5 76 k (by omega), hh2 76 k (by omega)]
    obtain ⟨A4, eA4⟩ : ∃ z, fm_up (fm_up A3 1 5 (nI t)) 0 1 (nI u) = z := ⟨_, rfl⟩
    have fA4 : ∀ q k, q ≠ 0 → (q ≠ 1 ∨ k ≠ 5) → A4.1 q k = A3.1 q k := fun q k z z2 => by rw [← eA4, fm_up_ne (by omega), fm_up_ne (by omega)]
    have a01 : A4.1 0 1 = nI u := by rw [← eA4, fm_up_get]
    have htd : iv_td A4 B5 u nf2 nm2 := t_td (B := B4) hu (XR_cg z1 (fun _ _ _ => rfl) (fun q k z => fB4 q k (by unfold cB at z; omega))) (LDp_cg z2 (fun _ _ _ => rfl) (fun q k z => fB4 q k (by omega))) (fun q k w1 w2 => fA4 q k (by omega) (by omega)) (fun q k w1 w2 w3 => by rw [fB5 q k (by omega)]; exact hh1 q k w1 w2 w3)
    obtain ⟨A5, B6, p1, p2, p3, p5, p6, p4⟩ := t_new htd ⟨a01, by rw [← eA4, fm_up_ne (by omega), fm_up_get]; congr 1; omega, fun i hi => by rw [fA4 _ _ (by omega) (by omega), gA _ _ (by omega) (by omega)]; exact h0.1.2.2 i hi⟩ ⟨by rw [fA4 _ _ (by omega) (by omega)]; exact a3, by rw [k76 2 (by omega), fB4 _ _ (by omega)]; exact b3⟩ ⟨by rw [fA4 _ _ (by omega) (by omega), k76 26 (by omega), b26, z1.1.1, z1.1.2.1], by rw [fA4 _ _ (by omega) (by omega), k76 27 (by omega), b27, z1.1.2.2]⟩ (by
      obtain ⟨j1, j2, j3, j4⟩ := h0.2.2.2.2.2.2.2.2.2
      exact ⟨by rw [k76 43 (by omega), fB4 _ _ (by omega), gB _ _ (by unfold twB; omega) (by omega)]; exact j1, by rw [k76 44 (by omega), fB4 _ _ (by omega), gB _ _ (by unfold twB; omega) (by omega)]; exact j2, by rw [k76 45 (by omega), fB4 _ _ (by omega), gB _ _ (by unfold twB; omega) (by omega)]; exact j3, by rw [k76 46 (by omega), fB4 _ _ (by omega), gB _ _ (by unfold twB; omega) (by omega)]; exact j4⟩) ⟨by rw [← eB5, fm_up_ne (by omega), fm_up_ne (by omega), fm_up_ne (by omega), fm_up_get], by rw [← eB5, fm_up_ne (by omega), fm_up_ne (by omega), fm_up_get], by rw [← eB5, fm_up_ne (by omega), fm_up_get], by rw [← eB5, fm_up_get]⟩
    rw [if_pos z1.1.1, fm_lt, e1, fm_gd_t (iv_tt h0), ex, fm_bd_s, fm_gd_t hu, fm_lt, eA4, fm_lt, a01, nI_clamp (show u < 2 ^ 31 by omega), fm_gd_t hu, p1, fm_bd_s, fm_lt, F_X4_forget, fm_lt, fm_lt, fm_bd_s, fm_lt]
    rw [fm_lt, fm_lt, fm_lt, fm_lt, fm_lt, x2, fm_bd_s, x3, fm_bd_s, fm_lt, fm_lt, fm_lt, fm_lt, x4, fm_bd_s, y2, fm_bd_s, fm_lt, fm_lt, eB4, fB4 76 24 (by omega), if_pos z1.1.2.1, g1, fm_bd_s, g2, fm_bd_s, g3, fm_bd_s, g4, fm_bd_s, g5, fm_bd_s, g6, fm_bd_s, g7, fm_bd_s, g8, fm_bd_s, g9, fm_bd_s, g10, fm_bd_s, g11, fm_bd_s, g12, fm_bd_s, g13, fm_bd_s, g14, fm_bd_s, fm_lt, fm_lt, fm_lt, fm_lt, eB5, F_X10_begins, p2, fm_bd_s, fm_bd_s]
    have ev : B6.1 76 18 = v := by rw [p3, k76 18 (by omega), fB4 _ _ (by omega), z3]
    rw [ev]
    exact ⟨v, fm_up (fm_up (fm_up (fm_up A5 59 3 0) 63 2 0) 63 3 (-1)) 0 5 0, B6, rfl, rfl, ⟨u, nf2, nm2, 0, 0, p4⟩, fun q k z => by rw [p5 q k z, fA4 q k (by omega) (by omega), gA q k (by omega) (by omega)], fun q k z => by rw [p6 q k z, fB5 q k (by omega), hh2 q k (by omega), fB4 q k (by omega), gB q k (by unfold twB; omega) (by omega), f01 q k z]⟩
theorem pI_text {A B : fm_M} {t nf nm kd km : Nat} (h : iv_all A B t nf nm kd km) (a : Int32) : pI (F_X9_text a A) (F_X10_text a B) := by
  obtain ⟨v, A', B', e1, e2, e3, -⟩ := rx_text h a
  exact ⟨v, v, A', B', e1, e2, rfl, e3⟩
