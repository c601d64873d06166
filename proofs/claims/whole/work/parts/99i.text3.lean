/-! texts: the first token, and the end -/
theorem t_start {A B : fm_M} {u n k : Nat} (hu : fm_isTd u = true) (h5 : A.1 1 5 = nI u) (hw : iv_wd A) (hn : n ≤ k) (hk : k ≤ 700) (hc : ∀ i, i < k → ∃ z : Nat, z < 256 ∧ B.1 77 i = nI z ∧ A.1 2 i = (nI z).toInt8.toInt32) : ∃ (A2 M16 M22 B2 : fm_M) (w15 w21 : Int32), F_X6_begin (nI n) A = some ((), A2) ∧ G_X10_text_47 fm_fuel (nI n) 0 (fm_up (fm_up (fm_up (fm_up (fm_up B 76 19 (nI n)) 76 2 0) 76 20 0) 76 24 0) 76 25 (-1)) = some (w15, M16) ∧ G_X10_text_96 fm_fuel (nI n) 3 M16 = some (w21, M22) ∧ F_X10_token (fm_up (fm_up (fm_up (fm_up M22 76 17 0) 76 18 0) 76 28 0) 76 29 0) = some ((), B2) ∧ xb A2 B2 u n ∧ XR A2 B2 u n 0 0 0 0 ∧ LDp A2 B2 u 0 0 0 0 0 0 ∧ B2.1 76 18 = nI 0 ∧ A2.1 1 2 = 0 ∧ B2.1 76 2 = 0 ∧ (∀ q k, q ≠ 1 → (q < u ∨ u + 14 < q) → A2.1 q k = A.1 q k) ∧ (∀ q k, ¬ twB q k → (q ≠ 76 ∨ (k ≠ 2 ∧ k ≠ 19)) → B2.1 q k = B.1 q k) := by
  have h2 := fm_td hu
  obtain ⟨A1, c1, ⟨v1, v2, v3, v4, v5, v6, v7, v8⟩, c3, c4, c5⟩ := cl_clear (A := A) hu
  obtain ⟨M6, eM6⟩ : ∃ z, fm_up (fm_up (fm_up (fm_up (fm_up B 76 19 (nI n)) 76 2 0) 76 20 0) 76 24 0) 76 25 (-1) = z := ⟨_, rfl⟩
  rw [eM6]
  obtain ⟨w15, M16, d1, d2, d3⟩ := md_47 (nI n) 10 0 fm_fuel M6 (by omega) (by unfold fm_fuel; omega)
  obtain ⟨w21, M22, e1, e2, e3⟩ := md_96 (nI n) 3 3 fm_fuel M16 (by omega) (by unfold fm_fuel; omega)
  obtain ⟨B1, eB1⟩ : ∃ z, fm_up (fm_up (fm_up (fm_up M22 76 17 0) 76 18 0) 76 28 0) 76 29 0 = z := ⟨_, rfl⟩
  obtain ⟨A11, eA11⟩ : ∃ z, fm_up (fm_up (fm_up (fm_up (fm_up (fm_up A1 1 6 (nI n)) 1 7 0) 1 2 0) 1 11 0) 1 3 0) 1 4 (-1) = z := ⟨_, rfl⟩
  have fA : ∀ q k, q ≠ 1 → A11.1 q k = A1.1 q k := fun q k z => by rw [← eA11, fm_up_ne (by omega), fm_up_ne (by omega), fm_up_ne (by omega), fm_up_ne (by omega), fm_up_ne (by omega), fm_up_ne (by omega)]
  have fA0 : ∀ q k, q ≠ 1 → (q < u ∨ u + 14 < q) → A11.1 q k = A.1 q k := fun q k z z2 => by rw [fA q k z, c5 q k z2]
  have fM6 : ∀ q k, (q ≠ 76 ∨ (k ≠ 19 ∧ k ≠ 2 ∧ k ≠ 20 ∧ k ≠ 24 ∧ k ≠ 25)) → M6.1 q k = B.1 q k := fun q k z => by rw [← eM6, fm_up_ne (by omega), fm_up_ne (by omega), fm_up_ne (by omega), fm_up_ne (by omega), fm_up_ne (by omega)]
  have fB1 : ∀ q k, (q ≠ 76 ∨ (k ≠ 17 ∧ k ≠ 18 ∧ k ≠ 28 ∧ k ≠ 29)) → B1.1 q k = M22.1 q k := fun q k z => by rw [← eB1, fm_up_ne (by omega), fm_up_ne (by omega), fm_up_ne (by omega), fm_up_ne (by omega)]
  have gM : ∀ q k, q ≠ 78 → (q ≠ 88 ∧ q ≠ 89) → M22.1 q k = M6.1 q k := fun q k z1 z2 => by rw [e3 q k (by omega), d3 q k (by omega)]
  have fB0 : ∀ q k, ¬ twB q k → (q ≠ 76 ∨ (k ≠ 2 ∧ k ≠ 19)) → B1.1 q k = B.1 q k := fun q k z1 z2 => by
    unfold twB at z1
    rw [fB1 q k (by omega), e3 q k (by omega), d3 q k (by omega), fM6 q k (by omega)]
  have b19 : B1.1 76 19 = nI n := by rw [fB1 _ _ (by omega), gM _ _ (by omega) (by omega), ← eM6, fm_up_ne (by omega), fm_up_ne (by omega), fm_up_ne (by omega), fm_up_ne (by omega), fm_up_get]
  have b2 : B1.1 76 2 = 0 := by rw [fB1 _ _ (by omega), gM _ _ (by omega) (by omega), ← eM6, fm_up_ne (by omega), fm_up_ne (by omega), fm_up_ne (by omega), fm_up_get]
  have b20 : B1.1 76 20 = nI 0 := by rw [fB1 _ _ (by omega), gM _ _ (by omega) (by omega), ← eM6, fm_up_ne (by omega), fm_up_ne (by omega), fm_up_get]; rfl
  have b24 : B1.1 76 24 = 0 := by rw [fB1 _ _ (by omega), gM _ _ (by omega) (by omega), ← eM6, fm_up_ne (by omega), fm_up_get]
  have b25 : B1.1 76 25 = -1 := by rw [fB1 _ _ (by omega), gM _ _ (by omega) (by omega), ← eM6, fm_up_get]
  have b17 : B1.1 76 17 = 0 := by rw [← eB1, fm_up_ne (by omega), fm_up_ne (by omega), fm_up_ne (by omega), fm_up_get]
  have b18 : B1.1 76 18 = 0 := by rw [← eB1, fm_up_ne (by omega), fm_up_ne (by omega), fm_up_get]
  have b28 : B1.1 76 28 = 0 := by rw [← eB1, fm_up_ne (by omega), fm_up_get]
  have b29 : B1.1 76 29 = 0 := by rw [← eB1, fm_up_get]
  have b78 : ∀ j, j < 10 → B1.1 78 (10 + j) = dv j := fun j hj => by rw [fB1 _ _ (by omega), e3 _ _ (by omega), d2 j (by omega) hj]
  have b88 : ∀ r, r < 3 → B1.1 88 (3 + r) = 0 ∧ B1.1 89 (3 + r) = 0 := fun r hr => ⟨by rw [fB1 _ _ (by omega), (e2 (3 + r) (by omega) (by omega)).1], by rw [fB1 _ _ (by omega), (e2 (3 + r) (by omega) (by omega)).2]⟩
  have a5 : A11.1 1 5 = nI u := by rw [← eA11, fm_up_ne (by omega), fm_up_ne (by omega), fm_up_ne (by omega), fm_up_ne (by omega), fm_up_ne (by omega), fm_up_ne (by omega), c5 _ _ (by omega)]; exact h5
  have a6 : A11.1 1 6 = nI n := by rw [← eA11, fm_up_ne (by omega), fm_up_ne (by omega), fm_up_ne (by omega), fm_up_ne (by omega), fm_up_ne (by omega), fm_up_get]
  have a7 : A11.1 1 7 = nI 0 := by rw [← eA11, fm_up_ne (by omega), fm_up_ne (by omega), fm_up_ne (by omega), fm_up_ne (by omega), fm_up_get]; rfl
  have a2 : A11.1 1 2 = 0 := by rw [← eA11, fm_up_ne (by omega), fm_up_ne (by omega), fm_up_ne (by omega), fm_up_get]
  have a11 : A11.1 1 11 = 0 := by rw [← eA11, fm_up_ne (by omega), fm_up_ne (by omega), fm_up_get]
  have a3 : A11.1 1 3 = 0 := by rw [← eA11, fm_up_ne (by omega), fm_up_get]
  have a4 : A11.1 1 4 = -1 := by rw [← eA11, fm_up_get]
  have hb : tb A11 B1 n := ⟨by omega, a6, b19, fun i hi => by
    obtain ⟨z, z1, z2, z3⟩ := hc i (by omega)
    rw [fA0 _ _ (by omega) (by omega), fB0 _ _ (by unfold twB; omega) (by omega), z2, z3]; exact ch_mk z1, fun i hi => by rw [fA0 _ _ (by omega) (by omega)]; exact hw i hi⟩
  obtain ⟨p, k2, A2, B2, x1, x2, x3, x4, x5, x6, x7, x8, x9, x10, x11, x12, x13⟩ := tk_adv hb a7 b20 (by omega)
  have gA : ∀ q k, q ≠ 1 → A2.1 q k = A1.1 q k := fun q k z => by rw [x12 q k (by omega), fA q k z]
  have gB : ∀ q k, q ≠ 76 → B2.1 q k = B1.1 q k := fun q k z => x13 q k (by omega)
  refine ⟨A2, M16, M22, B2, w15, w21, ?_, d1, e1, by rw [eB1]; exact x5, ⟨hu, tb_cg hb (fun q k z => x12 q k (by omega)) (fun q k z => x13 q k (by omega)), by rw [x12 _ _ (by omega)]; exact a5⟩, ⟨⟨by rw [x12 _ _ (by omega)]; exact a3, by rw [x13 _ _ (by omega)]; exact b24, by rw [x12 _ _ (by omega), x13 _ _ (by omega), a4, b25]⟩, ⟨p, k2, by omega, x2, x3, x6, x7, x8, x9, x10, x11⟩, ⟨by rw [gA _ _ (by omega)]; exact c4.1, by rw [gB _ _ (by omega), show (18 : Nat) = 10 + 8 from rfl, b78 8 (by omega)]; rfl, by rw [gA _ _ (by omega)]; exact c4.2, by rw [x13 _ _ (by omega)]; exact b29, by omega, by omega⟩, ⟨by rw [x13 _ _ (by omega)]; exact b28, by omega⟩, fun i hi => absurd hi (by omega)⟩, ?_, by rw [x13 _ _ (by omega)]; exact b18, by rw [x12 _ _ (by omega)]; exact a2, by rw [x13 _ _ (by omega)]; exact b2, fun q k z z2 => by rw [x12 q k (by omega), fA0 q k z z2], fun q k z z2 => by rw [x13 q k (by unfold twB at z; omega), fB0 q k z z2]⟩
  · have em : i_min (nI n) 700 = nI n := by unfold i_min; rw [if_neg (show ¬ (700 : Int32) < nI n from nI_nlt (a := 700) (by omega) (by omega))]
    rw [F_X6_begin, fm_lt, h5, nI_clamp (by omega), fm_gd_t hu, c1, fm_bd_s, em]
    simp only [fm_lt, eA11]
    rw [x4, fm_bd_s]
  · refine ⟨⟨⟨by omega, by omega, by omega⟩, by rw [gA _ _ (by omega)]; exact v1, by rw [gB _ _ (by omega), show (10 : Nat) = 10 + 0 from rfl, b78 0 (by omega)]; rfl, by rw [gA _ _ (by omega)]; exact v3, by rw [gB _ _ (by omega), show (11 : Nat) = 10 + 1 from rfl, b78 1 (by omega)]; rfl, by rw [gA _ _ (by omega)]; exact v4, by rw [gB _ _ (by omega), show (13 : Nat) = 10 + 3 from rfl, b78 3 (by omega)]; rfl⟩, ⟨⟨?_, ?_, ?_, ?_, ?_⟩, ⟨10, by omega, by rw [gA _ _ (by omega)]; exact v5⟩, ⟨5, by omega, by rw [gA _ _ (by omega)]; exact v7⟩, ⟨0, by omega, by rw [gA _ _ (by omega)]; exact v8⟩, ⟨0, by omega, by rw [gA _ _ (by omega)]; exact v2⟩⟩, fun f hf => absurd hf (by omega), fun f hf => absurd hf (by omega), fun f hf => absurd hf (by omega), ⟨by omega, by omega, by rw [x12 _ _ (by omega)]; exact a11, by rw [x13 _ _ (by omega)]; exact b17, fun _ _ => rfl⟩, fun r hr => ⟨0, 0, by rw [gA _ _ (by omega)]; exact (c3 r hr).1, by rw [gA _ _ (by omega)]; exact (c3 r hr).2, by rw [gB _ _ (by omega)]; exact (b88 r hr).1, by rw [gB _ _ (by omega)]; exact (b88 r hr).2, by omega, by omega, fun z => absurd z (by omega), ?_⟩⟩
    · rw [gA _ _ (by omega), v5, gB _ _ (by omega), show (12 : Nat) = 10 + 2 from rfl, b78 2 (by omega)]; rfl
    · rw [gA _ _ (by omega), v6, gB _ _ (by omega), show (14 : Nat) = 10 + 4 from rfl, b78 4 (by omega)]; rfl
    · rw [gA _ _ (by omega), v7, gB _ _ (by omega), show (15 : Nat) = 10 + 5 from rfl, b78 5 (by omega)]; rfl
    · rw [gA _ _ (by omega), v8, gB _ _ (by omega), show (16 : Nat) = 10 + 6 from rfl, b78 6 (by omega)]; rfl
    · rw [gA _ _ (by omega), v2, gB _ _ (by omega), show (19 : Nat) = 10 + 9 from rfl, b78 9 (by omega)]; rfl
    · rw [Nat.zero_testBit]; exact ⟨fun z => absurd z (by decide), fun z => absurd z (by omega)⟩
/-- the council as a text begins it -/
theorem t_new {A B : fm_M} {u nf nm : Nat} (hd : iv_td A B u nf nm) (h0 : A.1 0 1 = nI u ∧ A.1 1 5 = nI (25 - u) ∧ iv_wd A) (h1 : A.1 1 2 = 0 ∧ B.1 76 2 = 0) (h2 : A.1 1 3 = B.1 76 26 ∧ A.1 1 4 = B.1 76 27) (h3 : iv_md B) (b1 : B.1 76 55 = 0 ∧ B.1 76 56 = -1 ∧ B.1 76 41 = 0 ∧ B.1 76 42 = 0) : ∃ A2 B2 : fm_M, F_X7_begin 38 u A = some ((), A2) ∧ F_X10_starts 0 B = some ((), B2) ∧ B2.1 76 18 = B.1 76 18 ∧ (∀ q k, 76 ≤ q → (fm_up (fm_up (fm_up (fm_up A2 59 3 0) 63 2 0) 63 3 (-1)) 0 5 0).1 q k = A.1 q k) ∧ (∀ q k, q < 76 → B2.1 q k = B.1 q k) ∧ iv_all (fm_up (fm_up (fm_up (fm_up A2 59 3 0) 63 2 0) 63 3 (-1)) 0 5 0) B2 u nf nm 0 0 := by
  have hu := hd.1.1
  have h4 := fm_td hu
  obtain ⟨A2, x1, ⟨p0, p1, p2, p3, p4, p5, p6, p7⟩, x2, x3, x4⟩ := cl_begin (p := 38) rfl hu hd.2.1.1
  obtain ⟨B2, y1, ⟨q0, q1, q2, q3⟩, y2, y3, y4, y5⟩ := md_starts (c := 0) (by omega) hd.1.2.1 hd.1.2.2.1 hd.1.2.2.2.2.1 hd.1.2.2.2.2.2.2
  have fB : ∀ q k, q < 94 ∨ 101 < q → B2.1 q k = B.1 q k := fun q k z => y5 q k (by unfold md_cc; omega)
  obtain ⟨A3, e3⟩ : ∃ z, fm_up (fm_up (fm_up (fm_up A2 59 3 0) 63 2 0) 63 3 (-1)) 0 5 0 = z := ⟨_, rfl⟩
  have f3 : ∀ q k, (q ≠ 0 ∨ k ≠ 5) → q ≠ 59 → q ≠ 63 → A3.1 q k = A2.1 q k := fun q k z1 z2 z3 => by rw [← e3, fm_up_ne (by omega), fm_up_ne (by omega), fm_up_ne (by omega), fm_up_ne (by omega)]
  have fA : ∀ q k, (q ≠ 0 ∨ k ≠ 5) → (q < 38 ∨ 43 < q) → q ≠ 59 → q ≠ 63 → A3.1 q k = A.1 q k := fun q k z1 z2 z3 z4 => by rw [f3 q k z1 z3 z4, x4 q k (by omega)]
  have hd3 : iv_td A3 B2 u nf nm := iv_td_cg hd (fun q k z1 z2 => fA q k (by omega) (by omega) (by omega) (by omega)) (fun q k z1 z2 => fB q k (by omega))
  refine ⟨A2, B2, x1, y1, fB _ _ (by omega), fun q k z => by rw [e3]; exact fA q k (by omega) (by omega) (by omega) (by omega), fun q k z => fB q k (by omega), ?_⟩
  rw [e3]
  refine ⟨⟨by rw [fA _ _ (by omega) (by omega) (by omega) (by omega)]; exact h0.1, by rw [fA _ _ (by omega) (by omega) (by omega) (by omega)]; exact h0.2.1, fun i hi => by rw [fA _ _ (by omega) (by omega) (by omega) (by omega)]; exact h0.2.2 i hi⟩, ⟨0, by omega, by rw [fA _ _ (by omega) (by omega) (by omega) (by omega)]; exact h1.1, by rw [fB _ _ (by omega)]; exact h1.2, fun i hi => absurd hi (by omega)⟩, by rw [fA _ _ (by omega) (by omega) (by omega) (by omega), fA _ _ (by omega) (by omega) (by omega) (by omega), fB _ _ (by omega), fB _ _ (by omega)]; exact h2, hd3, ⟨⟨?_, ?_, ?_, ?_⟩, fun f hf => ?_, fun m hm => ⟨?_, ?_, ?_⟩⟩, ⟨⟨?_, ?_, ?_⟩, fun f hf => ?_, fun m hm => Or.inl ⟨?_, ?_⟩, fun f hf => ?_, ⟨0, by omega, ?_, ?_⟩, ⟨0, by omega, ?_⟩⟩, ⟨Or.inl ?_, ?_, fun z => ?_⟩, ⟨by omega, ?_, by rw [fB _ _ (by omega)]; exact b1.2.2.2, fun j hj => absurd hj (by omega)⟩, ⟨by omega, ?_, by rw [fB _ _ (by omega)]; exact b1.1, ?_, Or.inl ?_, fun i hi => absurd hi (by omega)⟩, ?_⟩
  · rw [f3 _ _ (by omega) (by omega) (by omega), p0, q0]
  · rw [f3 _ _ (by omega) (by omega) (by omega), p2, q1, hd.2.2.1.2.1]
  · rw [f3 _ _ (by omega) (by omega) (by omega), p3, q2]
  · rw [f3 _ _ (by omega) (by omega) (by omega), p4, q3]
  · have := hd.1.2.1
    rw [f3 _ _ (by omega) (by omega) (by omega), (x2 f (by omega)).1, y2 f hf, (hd.2.2.2.2.1 f hf).2.1]
  · have := hd.1.2.2.1
    rw [f3 _ _ (by omega) (by omega) (by omega), (x3 m (by omega)).1, y3 m hm, (hd.2.2.2.2.2 m hm).2.2.1]
  · have := hd.1.2.2.1
    rw [f3 _ _ (by omega) (by omega) (by omega), (x3 m (by omega)).2.1, (y4 m (by omega)).1]
  · have := hd.1.2.2.1
    rw [f3 _ _ (by omega) (by omega) (by omega), (x3 m (by omega)).2.2, (y4 m (by omega)).2]
  · rw [f3 _ _ (by omega) (by omega) (by omega), p5, fA _ _ (by omega) (by omega) (by omega) (by omega)]
  · rw [f3 _ _ (by omega) (by omega) (by omega), p6]
  · rw [f3 _ _ (by omega) (by omega) (by omega), p7]
  · have := hd.1.2.1
    rw [f3 _ _ (by omega) (by omega) (by omega), (x2 f (by omega)).2, fA _ _ (by omega) (by omega) (by omega) (by omega)]
  · have := hd.1.2.2.1
    rw [f3 _ _ (by omega) (by omega) (by omega), (x3 m (by omega)).2.1]
  · have := hd.1.2.2.1
    rw [f3 _ _ (by omega) (by omega) (by omega), (x3 m (by omega)).2.2]
  · have := hd.1.2.1
    rw [f3 _ _ (by omega) (by omega) (by omega), (x2 f (by omega)).1]
    exact (hd.2.2.2.2.1 f hf).2.2.2.2.2.2
  · rw [f3 _ _ (by omega) (by omega) (by omega), p0]; rfl
  · rw [f3 _ _ (by omega) (by omega) (by omega), p1]
    unfold md_wet
    rw [fB 78 3 (by omega), fB 87 _ (by omega)]; rfl
  · rw [f3 _ _ (by omega) (by omega) (by omega), p4]; rfl
  · rw [← e3, fm_up_get]
  · rw [← e3, fm_up_get, fB _ _ (by omega), b1.2.2.1]
  · rw [← e3, fm_up_get] at z; exact absurd z (by decide)
  · rw [← e3, fm_up_ne (by omega), fm_up_ne (by omega), fm_up_ne (by omega), fm_up_get]; rfl
  · rw [← e3, fm_up_ne (by omega), fm_up_ne (by omega), fm_up_get]; rfl
  · rw [← e3, fm_up_ne (by omega), fm_up_get, fB _ _ (by omega), b1.2.1]
  · rw [← e3, fm_up_ne (by omega), fm_up_get]
  · obtain ⟨k1, k2, k3, k4⟩ := h3
    exact ⟨by rw [fB _ _ (by omega)]; exact k1, by rw [fB _ _ (by omega)]; exact k2, by rw [fB _ _ (by omega)]; exact k3, by rw [fB _ _ (by omega)]; exact k4⟩
