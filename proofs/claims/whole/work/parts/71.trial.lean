/-! what comes of days ahead, tried otherwise, by chance, by the wet -/
theorem rl_carries {A B : fm_M} {p t c nf : Nat} (h : rl_h A B p t c nf) (h1 : A.1 t 0 = nI nf) (h2 : B.1 78 0 = nI nf) (h3 : A.1 t 13 = B.1 78 2) (n : Int32) : ∃ (v u : Int32) (A2 B1 B2 : fm_M), F_X7_carries p t n A = some (v, A2) ∧ F_X10_humAll (nI c) n B = some (u, B1) ∧ F_X10_passes (nI c) n u B1 = some (v, B2) ∧ (v = 0 ∨ v = 1) ∧ (∀ q k, q ≠ t + 15 → A2.1 q k = A.1 q k) ∧ (∀ q k, (q ≠ 76 ∨ k ≠ 32) → B1.1 q k = B.1 q k) ∧ (∀ q k, (q ≠ 76 ∨ k ≠ 32) → B2.1 q k = B.1 q k) := by
  obtain ⟨u, A1, B1, e1, e2, -⟩ := rl_humAll h h1 h2 n
  have fA := rl_frA (fr_X7_humOfAll p t n A) e1
  have fB := rl_frB (fr_X10_humAll (nI c) n B) e2
  have ht := h.2.1
  have h' := rl_h_cg h fA fB
  obtain ⟨v, A2, B2, g1, g2, g3⟩ := rl_passes h' (by rw [fA t 13 (by omega), fB 78 2 (by omega)]; exact h3) n (nI u)
  have gA := rl_frA (fr_X7_passes p t n (nI u) A1) g1
  have gB := rl_frB (fr_X10_passes (nI c) n (nI u) B1) g2
  refine ⟨v, nI u, A2, B1, B2, ?_, e2, g2, g3, fun q k z => by rw [gA q k z, fA q k z], fB, fun q k z => by rw [gB q k z, fB q k z]⟩
  rw [F_X7_carries, fm_gd_t h.1, fm_gd_t h.2.1, e1, fm_bd_s, g1, fm_bd_s, fm_gd_t (show fm_z01 v = true from decide_eq_true g3)]
theorem rl_d_cg {A B A2 B2 : fm_M} {p t c nf nm : Nat} (h : rl_d A B p t c nf nm) (hA : ∀ q k, (q ≠ p ∨ k ≠ 1) → q ≠ t + 15 → (q ≤ 60 ∨ 75 < q) → A2.1 q k = A.1 q k) (hB : ∀ q k, (q ≠ 76 ∨ (k ≠ 32 ∧ k ≠ 45)) → (q ≤ 101) → B2.1 q k = B.1 q k) : rl_d A2 B2 p t c nf nm := by
  obtain ⟨⟨hp, ht, ⟨hc, ⟨nw, o2, o3⟩, dd, o4, o5⟩, hnf, hlw, hday⟩, hfk, hcs, hmo⟩ := h
  have hp3 := rl_st3 hp
  have ht2 := fm_td ht
  have hw : ∀ f, md_width B2 f = md_width B f := fun f => by
    unfold md_width
    rw [hB 76 46 (by omega) (by omega), hB 76 47 (by omega) (by omega), hB 81 f (by omega) (by omega)]
  refine ⟨⟨hp, ht, ⟨hc, ⟨nw, o2, by rw [hB _ _ (by omega) (by omega)]; exact o3⟩, dd, o4, by rw [hB _ _ (by omega) (by omega)]; exact o5⟩, hnf, fun r hr => ev_law_cg (hlw r hr) (fun q k h1 h2 => hA q k (by omega) (by omega) (by omega)) (fun q k _ _ => hB q k (by omega) (by omega)), by rw [hA _ _ (by omega) (by omega) (by omega), hB _ _ (by omega) (by omega)]; exact hday⟩, fun f hf => ?_, ?_, fun m hm => ?_⟩
  · simp (disch := omega) only [hA, hB, hw]; exact hfk f hf
  · simp (disch := omega) only [hA, hB]; exact hcs
  · simp (disch := omega) only [hA, hB]; exact hmo m hm
theorem iv_verd {A B : fm_M} {t nf nm kd km : Nat} (h : iv_all A B t nf nm kd km) (w : Int32) : ∃ v : Nat, v ≤ 10 ∧ F_X7_verdicts 38 t w A = some (nI v, A) ∧ F_X10_manyOf 0 w B = some (nI v, B) := by
  obtain ⟨gn, g1, g2⟩ := iv_nm h
  exact rl_verd (c := 0) w rfl (iv_tt h) (by omega) gn g1 g2 (fun m hm => (h.2.2.2.2.1.2.2 m hm).2.1)
theorem rl_d_verd {A B : fm_M} {p t c nf nm : Nat} (h : rl_d A B p t c nf nm) (w : Int32) : ∃ v : Nat, v ≤ 10 ∧ F_X7_verdicts p t w A = some (nI v, A) ∧ F_X10_manyOf (nI c) w B = some (nI v, B) :=
  rl_verd w h.1.1 h.1.2.1 h.1.2.2.1.1 h.2.2.1.2.2.2.2.1 h.2.2.1.2.2.1 h.2.2.1.2.2.2.1 (fun m hm => (h.2.2.2 m hm).2.2.1)
theorem pI_ahead {A B : fm_M} {t nf nm kd km : Nat} (h : iv_all A B t nf nm kd km) (a1 a2 a3 : Int32) : pI (F_X9_ahead a1 a2 a3 A) (F_X10_ahead a1 a2 a3 B) := by
  have h0 := iv_thr h 0
  rw [F_X9_ahead, F_X10_ahead]
  simp only [fm_lt]
  generalize fm_up B 76 0 0 = B1 at *
  have hnf := (iv_nf h0).1
  have hnm := (iv_nm h0).1
  rcases isSpan_ok a1 with ⟨e1, e2⟩ | ⟨n, hn, rfl, c1, c2, e1⟩
  · rw [e1, fm_bd_s, if_pos rfl]
    by_cases c1 : a1 < 0
    · rw [if_pos c1]; exact pu_I (rR_ret h0 rfl)
    · rw [if_neg c1, if_pos (e2.resolve_left c1)]; exact pu_I (rR_ret h0 rfl)
  rw [e1, fm_bd_s, if_neg n10, if_neg c1, if_neg c2]
  by_cases c3 : a2 < 0
  · rw [if_pos c3, if_pos c3]; exact pu_I (rR_ret h0 rfl)
  rw [if_neg c3, if_neg c3]
  by_cases c4 : 3 < a2
  · rw [if_pos c4, if_pos c4]; exact pu_I (rR_ret h0 rfl)
  rw [if_neg c4, if_neg c4]
  have key : (a2 = 3 → ∃ f, f < nf ∧ a3 = nI f) → pI (J_X9_ahead_31 (nI n) a2 a3 A) (J_X10_ahead_39 (nI n) a2 a3 B1) := by
    intro hf
    rw [J_X9_ahead_31, J_X10_ahead_39]
    obtain ⟨A2, B2, x1, x2, x3, x4, x5, x6, x7⟩ := iv_trial h0
    obtain ⟨A3, B3, y1, y2, y3, y4, y5⟩ := iv_ahead (n := n) x3 x4 x5 (by omega)
    simp only [fm_lt]
    rw [x1, fm_bd_s, iv_t x3, fm_gd_t (iv_tt h), y1, fm_bd_s, x2, fm_bd_s, y2, fm_bd_s]
    by_cases d3 : a2 = 3
    · obtain ⟨f, hf1, rfl⟩ := hf d3
      rw [if_pos d3, if_neg (by rw [d3]; decide), if_neg (by rw [d3]; decide), if_neg (by rw [d3]; decide), fm_gd_t (nu_inb (by omega) (by omega)), nI_clamp (by omega), show (8 : Int32) + nI f = nI (8 + f) from nI_add 8 f, fm_gd_t (nu_inb (by omega) (by omega)), nI_clamp (by omega)]
      exact pu_I (rR_ret y3 (y4.2.1 f hf1).1)
    rw [if_neg d3]
    by_cases d2 : a2 = 2
    · rw [if_pos d2, if_neg (by rw [d2]; decide), if_neg (by rw [d2]; decide), if_pos d2, iv_t y3, fm_gd_t (iv_tt h)]
      obtain ⟨v, g1, g2⟩ := rl_heard (A := A3) (B := B3) (p := 45) (c := 1) (nm := nm) rfl (iv_tt h) (by omega) hnm y4.2.2.1.2.2.1 y4.2.2.1.2.2.2.1 y5 (fun m hm => (y4.2.2.2 m hm).2.2.2)
      obtain ⟨u, i1, i2⟩ := rl_heard (A := A3) (B := B3) (p := 38) (c := 0) (nm := nm) rfl (iv_tt h) (by omega) hnm y4.2.2.1.2.2.1 y4.2.2.1.2.2.2.1 y3.2.2.2.2.2.1.2.2.1 (fun m hm => (y3.2.2.2.2.1.2.2 m hm).2.2)
      rw [g1, fm_bd_s, iv_t y3, fm_gd_t (iv_tt h), i1, fm_bd_s, show F_X10_heardAll 1 B3 = _ from g2, fm_bd_s, show F_X10_heardAll 0 B3 = _ from i2, fm_bd_s]
      exact pu_I (rR_ret y3 rfl)
    rw [if_neg d2]
    have vk : ∀ w, pI (J_X9_ahead_107 (nI n) a2 a3 w A3) (fm_bd (F_X10_manyOf 1 w B3) (fun v6 M7 => fm_bd (F_X10_manyOf 0 w M7) (fun v8 M9 => some ((v6 - v8), M9)))) := by
      intro w
      obtain ⟨v, -, g1, g2⟩ := rl_d_verd y4 w
      obtain ⟨u, -, i1, i2⟩ := iv_verd y3 w
      rw [J_X9_ahead_107]
      simp only [fm_lt]
      rw [iv_t y3, fm_gd_t (iv_tt h), g1, fm_bd_s, iv_t y3, fm_gd_t (iv_tt h), i1, fm_bd_s, show F_X10_manyOf 1 w B3 = _ from g2, fm_bd_s, i2, fm_bd_s]
      exact pu_I (rR_ret y3 rfl)
    by_cases d0 : a2 = 0
    · rw [if_pos d0, if_pos d0]; exact vk 1
    rw [if_neg d0, if_neg d0]
    have d1 : a2 = 1 := by
      have p0 : a2.toInt ≠ 0 := fun z => d0 (Int32.toInt_inj.mp z)
      have p2 : a2.toInt ≠ 2 := fun z => d2 (Int32.toInt_inj.mp z)
      have p3 : a2.toInt ≠ 3 := fun z => d3 (Int32.toInt_inj.mp z)
      have q1 : ¬ a2.toInt < 0 := fun z => c3 (Int32.lt_iff_toInt_lt.mpr z)
      have q2 : ¬ 3 < a2.toInt := fun z => c4 (Int32.lt_iff_toInt_lt.mpr z)
      exact Int32.toInt_inj.mp (show a2.toInt = 1 by omega)
    rw [if_pos d1]
    exact vk 0
  by_cases c5 : a2 = 3
  · rw [if_pos c5, if_pos c5]
    rcases iv_isFork h0 a3 with ⟨g1, g2⟩ | ⟨f, hf, hf8, rfl, g1, g2⟩
    · rw [g1, g2, fm_bd_s, fm_bd_s, if_pos rfl, if_pos rfl]; exact pu_I (rR_ret h0 rfl)
    · rw [g1, g2, fm_bd_s, fm_bd_s, if_neg n10, if_neg n10]; exact key (fun _ => ⟨f, hf, rfl⟩)
  · rw [if_neg c5, if_neg c5]; exact key (fun z => absurd z c5)
/-- the trial, with what is tried -/
theorem rl_try {A B A3 B3 : fm_M} {t nf nm kd km : Nat} (h : iv_all A B t nf nm kd km) (st : iv_st A B 38 0 nf nm) (hA : ∀ q k, (q < 45 ∨ 50 < q) → A3.1 q k = A.1 q k) (hB : ∀ q k, (q ≠ 76 ∨ (k ≠ 43 ∧ k ≠ 44)) → ¬ md_cc 1 q k → B3.1 q k = B.1 q k)
    (c0 : A3.1 45 0 = A.1 38 0) (ec : iv_ec B B3 0 1) (c1 : ∀ f, f < 8 → A3.1 46 f = A.1 39 f ∧ A3.1 47 f = A.1 40 f) (c2 : ∀ m, m < 10 → A3.1 48 m = A.1 41 m ∧ A3.1 49 m = A.1 42 m ∧ A3.1 50 m = A.1 43 m)
    (h6 : ∀ f, f < nf → (nI f = A3.1 45 6 ↔ (B3.1 76 43 = 2 ∧ nI f = B3.1 76 44))) (h4 : ∀ f, f < nf → (rl_bit (A3.1 45 4) f = 1 ↔ (B3.1 76 43 ≠ 5 ∧ rl_bit (A.1 38 4) f = 1))) (h5 : ∀ f, f < nf → (rl_bit (A3.1 45 5) f = 1 ↔ (B3.1 76 43 ≠ 4 ∧ rl_bit (A.1 38 5) f = 1))) (h7 : A3.1 45 7 = 0 ↔ B3.1 76 43 = 3) : rl_d A3 B3 45 t 1 nf nm := by
  have ht := fm_td (iv_tt h)
  have hnf := (iv_nf h).1
  have hnm := (iv_nm h).1
  have td : iv_td A3 B3 t nf nm := iv_td_cg h.2.2.2.1 (fun q k a b => hA q k (by omega)) (fun q k a b => hB q k (by omega) (by unfold md_cc; omega))
  obtain ⟨⟨a1, a2, a3, a4, a5, a6, a7⟩, ⟨b1, b2⟩, ⟨t1, t2, t3, t4, t5, t6⟩, -, d1, d2⟩ := td
  obtain ⟨⟨s1, s2, s3, s4⟩, s5, s6⟩ := id st
  obtain ⟨⟨o1, o2, o3⟩, o4, o5, o6, ⟨dd, o7, o8, o9⟩, o10⟩ := id h.2.2.2.2.2.1
  obtain ⟨m1, m2, m3, m4⟩ := h.2.2.2.2.2.2.2.2.2
  obtain ⟨⟨e1, e2, e3, e4⟩, e5, e6⟩ := ec
  obtain ⟨nw, w1, w2, w3, w4⟩ := id b1
  have cr : A.1 38 5 = B3.1 78 9 := by rw [o1, ← t5, hA t 6 (by omega)]
  refine ⟨⟨rfl, a1, ⟨by omega, ⟨nw, w1, w3⟩, dd, by omega, by rw [e1, ← s1]; exact o8⟩, a2, b2, by rw [c0, e1]; exact s1⟩, fun f hf => ?_, ⟨a4, a5, a6, a7, a3, t1, t4, h7⟩, fun m hm => ⟨(d2 m hm).2.1, ?_⟩⟩
  · obtain ⟨x1, x2, x3, x4, x5, x6, x7⟩ := d1 f hf
    have hw : md_width B3 f = B3.1 81 f := by
      unfold md_width
      rw [hB 76 46 (by omega) (by unfold md_cc; omega), m4, if_neg (fun z => absurd (z ▸ nI_pos (show f < 2 ^ 31 by omega)) (by decide))]
    refine ⟨by rw [(c1 f (by omega)).1, e5 f (by omega)]; exact s5 f hf, ?_, x4, x6, h6 f hf, ?_, ?_⟩
    · rw [(c1 f (by omega)).2, hw, ← x3, hA (t + 3) f (by omega)]; exact o4 f hf
    · rw [e4, ← s4]; exact h4 f hf
    · rw [← cr]; exact h5 f hf
  · rw [(c2 m (by omega)).1, (c2 m (by omega)).2.1, (c2 m (by omega)).2.2, (e6 m (by omega)).1, (e6 m (by omega)).2.1, (e6 m (by omega)).2.2]; exact s6 m hm
theorem pI_tried {A B : fm_M} {t nf nm kd km : Nat} (h : iv_all A B t nf nm kd km) (a1 a2 a3 : Int32) : pI (F_X9_tried a1 a2 a3 A) (F_X10_tried a1 a2 a3 B) := by
  have h0 := iv_thr h 0
  rw [F_X9_tried, F_X10_tried]
  simp only [fm_lt]
  generalize fm_up B 76 0 0 = B1 at *
  have hnf := (iv_nf h0).1
  have hnm := (iv_nm h0).1
  have ht := fm_td (iv_tt h)
  have no : ∀ x, pI (some ((-1 : Int32), A)) (J_X10_tried_35 x a2 a3 B1) := fun x => by rw [J_X10_tried_35, J_X10_tried_36, if_pos rfl]; exact pu_I (rR_ret h0 rfl)
  have no2 : ∀ x, pI (some ((-1 : Int32), A)) (J_X10_tried_36 x a2 a3 0 B1) := fun x => by rw [J_X10_tried_36, if_pos rfl]; exact pu_I (rR_ret h0 rfl)
  by_cases c1 : a1 < 0
  · rw [if_pos c1, if_neg (by intro z; rw [z] at c1; exact absurd c1 (by decide)), if_pos c1]; exact no _
  by_cases c2 : 5 < a1
  · rw [if_neg c1, if_pos c2, if_neg (by intro z; rw [z] at c2; exact absurd c2 (by decide)), if_neg c1, if_pos c2]; exact no _
  rw [if_neg c1, if_neg c2, if_neg c1, if_neg c2]
  rcases isSpan_ok a3 with ⟨e1, e2⟩ | ⟨n, hn, rfl, d1, d2, e1⟩
  · rw [e1, fm_bd_s, if_pos rfl]
    have no3 : ∀ x s, pI (some ((-1 : Int32), A)) (J_X10_tried_36 x a2 a3 s B1) := fun x s => by
      rw [J_X10_tried_36]
      by_cases q1 : s = 0
      · rw [if_pos q1]; exact pu_I (rR_ret h0 rfl)
      rw [if_neg q1]
      rcases e2 with e2 | e2
      · rw [if_pos e2]; exact pu_I (rR_ret h0 rfl)
      · by_cases q2 : a3 < 0
        · rw [if_pos q2]; exact pu_I (rR_ret h0 rfl)
        · rw [if_neg q2, if_neg (Int32.not_le.mpr e2)]; exact pu_I (rR_ret h0 rfl)
    by_cases q3 : a1 = 2
    · rw [if_pos q3]
      rcases iv_isFork h0 a2 with ⟨g1, g2⟩ | ⟨f, hf, hf8, -, g1, g2⟩
      · rw [g2, fm_bd_s]; exact no3 _ _
      · rw [g2, fm_bd_s]; exact no3 _ _
    · rw [if_neg q3]
      by_cases q4 : a2 = 0
      · rw [if_pos q4]; exact no3 _ _
      · rw [if_neg q4]; exact no _
  rw [e1, fm_bd_s, if_neg n10]
  have key : (a1 = 2 ∨ a2 = 0) → pI (J_X9_tried_38 a1 a2 (nI n) A) (J_X10_tried_36 a1 a2 (nI n) 1 B1) := by
    intro hor
    rw [J_X10_tried_36, if_neg n10, if_neg d1, if_pos (Int32.not_lt.mp d2), J_X9_tried_38]
    simp only [fm_lt]
    obtain ⟨⟨s1, s2, s3, s4⟩, s5, s6⟩ := id h0.2.2.2.2.1
    obtain ⟨⟨o1, o2, o3⟩, o4, o5, o6, ⟨dd, o7, o8, o9⟩, o10⟩ := id h0.2.2.2.2.2.1
    obtain ⟨m1, m2, m3, m4⟩ := id h0.2.2.2.2.2.2.2.2.2
    obtain ⟨A2, f1, f2, f3, f4, f5⟩ := cl_copy (A := A) (p := 45) (q := 38) rfl rfl (by omega) (Or.inr o3)
    obtain ⟨B2, g1, g2, g3, g4, g5⟩ := md_copy (B := fm_up (fm_up B1 76 43 a1) 76 44 a2) (a := 1) (b := 0) (by omega) (by omega) (by omega)
    have ec : iv_ec B1 B2 0 1 := iv_ec_tr (iv_ec_cg (fun q k z => by unfold md_cc at z; rw [fm_up_ne (by omega), fm_up_ne (by omega)])) (md_ec_copy ⟨g2, g3, g4⟩)
    have hB : ∀ q k, (q ≠ 76 ∨ (k ≠ 43 ∧ k ≠ 44)) → ¬ md_cc 1 q k → B2.1 q k = B1.1 q k := fun q k z y => by rw [g5 q k y, fm_up_ne (by omega), fm_up_ne (by omega)]
    have b43 : B2.1 76 43 = a1 := by rw [g5 _ _ (by unfold md_cc; omega), fm_up_ne (by omega), fm_up_get]
    have b44 : B2.1 76 44 = a2 := by rw [g5 _ _ (by unfold md_cc; omega), fm_up_get]
    have b45 : B2.1 76 45 = -1 := by rw [hB _ _ (by omega) (by unfold md_cc; omega)]; exact m3
    rw [f1, fm_bd_s, show F_X10_copies 1 0 (fm_up (fm_up B1 76 43 a1) 76 44 a2) = _ from g1, fm_bd_s]
    -- from a trial to the end
    have fin : ∀ A3 : fm_M, (∀ q k, (q ≠ 45 ∨ k < 4 ∨ 7 < k) → A3.1 q k = A2.1 q k) → rl_d A3 B2 45 t 1 nf nm → pI (J_X9_tried_124 a1 a2 (nI n) A3) (fm_bd (F_X10_goesOn (nI n) B2) (fun v6 M7 => fm_bd (F_X10_manyOf 1 1 (fm_up (fm_up M7 76 43 0) 76 44 (-1))) (fun v10 M11 => fm_bd (F_X10_manyOf 0 1 M11) (fun v12 M13 => some ((v10 - v12), M13))))) := by
      intro A3 hA3 hd
      have t3 : Int32.toNatClampNeg (A3.1 0 1) = t := by rw [hA3 0 1 (by omega), f5 0 1 (by omega)]; exact iv_t h0
      have hA : ∀ q k, (q < 45 ∨ 50 < q) → A3.1 q k = A.1 q k := fun q k z => by rw [hA3 q k (by omega), f5 q k z]
      have last : ∀ A4 B4 : fm_M, rl_d A4 B4 45 t 1 nf nm → (∀ q k, (q < 45 ∨ 50 < q) → q ≠ t + 15 → A4.1 q k = A.1 q k) → (∀ q k, ¬ md_k 1 q k → B4.1 q k = B2.1 q k) → pI (J_X9_tried_156 a1 a2 (nI n) A4) (fm_bd (F_X10_manyOf 1 1 (fm_up (fm_up B4 76 43 0) 76 44 (-1))) (fun v10 M11 => fm_bd (F_X10_manyOf 0 1 M11) (fun v12 M13 => some ((v10 - v12), M13)))) := by
        intro A4 B4 r4 hA4 hB4
        generalize hB5 : fm_up (fm_up B4 76 43 0) 76 44 (-1) = B5
        have u5 : ∀ q k, (q ≠ 76 ∨ (k ≠ 43 ∧ k ≠ 44)) → B5.1 q k = B4.1 q k := fun q k z => by rw [← hB5, fm_up_ne (by omega), fm_up_ne (by omega)]
        have i5 : iv_all A4 B5 t nf nm kd km := iv_cg h0 (fun q k z => hA4 q k (by unfold iv_pA at z; omega) (by unfold iv_pA at z; omega)) (fun q k z => by
          by_cases y1 : q = 76 ∧ k = 43
          · rw [y1.1, y1.2, m1, ← hB5, fm_up_ne (by omega), fm_up_get]
          by_cases y2 : q = 76 ∧ k = 44
          · rw [y2.1, y2.2, m2, ← hB5, fm_up_get]
          rw [u5 q k (by omega), hB4 q k (by unfold iv_pB at z; unfold md_k; omega), hB q k (by omega) (by unfold iv_pB at z; unfold md_cc; omega)])
        obtain ⟨v, -, x1, x2⟩ := rl_verd (A := A4) (B := B5) (p := 45) (c := 1) (nm := nm) 1 rfl (iv_tt h) (by omega) hnm (iv_nm i5).2.1 (iv_nm i5).2.2 (fun m hm => by rw [u5 _ _ (by omega)]; exact (r4.2.2.2 m hm).2.2.1)
        obtain ⟨u, -, x3, x4⟩ := iv_verd i5 1
        rw [J_X9_tried_156]
        simp only [fm_lt]
        rw [iv_t i5, fm_gd_t (iv_tt h), x1, fm_bd_s, iv_t i5, fm_gd_t (iv_tt h), x3, fm_bd_s, show F_X10_manyOf 1 1 B5 = _ from x2, fm_bd_s, x4, fm_bd_s]
        exact pu_I (rR_ret i5 rfl)
      have hv : rl_v A3 45 nm := fun m hm => by
        rw [hA3 _ _ (by omega), hA3 _ _ (by omega), (f4 m (by omega)).2.1, (f4 m (by omega)).2.2]
        exact o5 m hm
      have hpb : rl_pb A3 45 t nf := ⟨fun f hf => by rw [hA3 _ _ (by omega), (f3 f (by omega)).1]; exact o6 f hf, by rw [hA t 16 (by omega)]; exact h0.2.2.2.1.2.2.2.1.2.2.1⟩
      have hw : rl_w A3 B2 t := rl_w_cg h0.2.2.2.1.2.1.1 (fun q k z => hA q k (by omega)) (fun q k z => hB q k (by omega) (by unfold md_cc; omega))
      have b94 : B2.1 94 1 = nI dd := by rw [ec.1.1, ← s1]; exact o8
      rw [J_X9_tried_124]
      simp only [fm_lt]
      rw [t3]
      by_cases c : a1 = 1
      · obtain ⟨A4, B4, x1, x2, x3, x4⟩ := rl_dry (n := n) (by omega) n 0 fm_fuel fm_fuel dd A3 B2 hd hv hpb (by rw [b43]; exact c) b94 (by omega) (by omega) (by unfold fm_fuel; omega) (by unfold fm_fuel; omega)
        have pd : F_X7_passDryDays 45 t (nI n) A3 = some ((), A4) := by rw [F_X7_passDryDays, fm_gd_t (show fm_isSt 45 = true from rfl), fm_gd_t (iv_tt h), show G_X7_passDryDays_2 fm_fuel 45 t (nI n) 0 A3 = _ from x1, fm_bd_s]
        rw [if_pos c, fm_gd_t (iv_tt h), pd, fm_bd_s, F_X10_goesOn, show G_X10_goesOn_2 fm_fuel (nI n) 0 B2 = _ from x2, fm_bd_s, fm_bd_s]
        exact last A4 B4 x3 (fun q k z y => by rw [fr_u (fr_X7_passDryDays 45 t (nI n) A3) pd q k (by simp only [fm_nW, and_true]; omega), hA q k z]) x4
      · have hdm : A3.1 45 1 = md_damp B2 1 := by
          rw [md_damp_w (by rw [b43]; exact c) b45 b94, hA3 45 1 (by omega), f2 1 (by omega), o9]
          exact (md_wet_cg (fun q k z => hB q k (by omega) (by unfold md_cc; omega))).symm
        obtain ⟨A4, B4, x1, x2, x3, -, -, -, -, x4, -⟩ := rl_days1 (n := n) (by omega) n 0 fm_fuel fm_fuel dd A3 B2 hd hv hpb hw hdm (by rw [b43]; exact c) b45 b94 (by omega) (by omega) (by unfold fm_fuel; omega) (by unfold fm_fuel; omega)
        have pd : F_X7_passDays 45 t (nI n) A3 = some ((), A4) := by rw [F_X7_passDays, fm_gd_t (show fm_isSt 45 = true from rfl), fm_gd_t (iv_tt h), show G_X7_passDays_2 fm_fuel 45 t (nI n) 0 A3 = _ from x1, fm_bd_s]
        rw [if_neg c, fm_gd_t (iv_tt h), pd, fm_bd_s, F_X10_goesOn, show G_X10_goesOn_2 fm_fuel (nI n) 0 B2 = _ from x2, fm_bd_s, fm_bd_s]
        exact last A4 B4 x3 (fun q k z y => by rw [fr_u (fr_X7_passDays 45 t (nI n) A3) pd q k (by simp only [fm_nW, and_true]; omega), hA q k z]) x4
    have p4 : A2.1 45 4 = A.1 38 4 := f2 4 (by omega)
    have p5 : A2.1 45 5 = A.1 38 5 := f2 5 (by omega)
    have p6 : A2.1 45 6 = -1 := by rw [f2 6 (by omega)]; exact o2
    have p7 : A2.1 45 7 = 1 := by rw [f2 7 (by omega)]; exact o3
    have q6 : ∀ f, f < nf → ¬ nI f = -1 := fun f hf z => absurd (z ▸ nI_pos (show f < 2 ^ 31 by omega)) (by decide)
    have tr : ∀ A3 : fm_M, (∀ q k, (q ≠ 45 ∨ k < 4 ∨ 7 < k) → A3.1 q k = A2.1 q k) → (∀ f, f < nf → (nI f = A3.1 45 6 ↔ (a1 = 2 ∧ nI f = a2))) → (∀ f, f < nf → (rl_bit (A3.1 45 4) f = 1 ↔ (a1 ≠ 5 ∧ rl_bit (A.1 38 4) f = 1))) → (∀ f, f < nf → (rl_bit (A3.1 45 5) f = 1 ↔ (a1 ≠ 4 ∧ rl_bit (A.1 38 5) f = 1))) → (A3.1 45 7 = 0 ↔ a1 = 3) → rl_d A3 B2 45 t 1 nf nm := fun A3 hA3 z6 z4 z5 z7 =>
      rl_try h0 h0.2.2.2.2.1 (fun q k z => by rw [hA3 q k (by omega), f5 q k z]) hB (by rw [hA3 _ _ (by omega)]; exact f2 0 (by omega)) ec (fun f hf => by rw [hA3 _ _ (by omega), hA3 _ _ (by omega)]; exact f3 f hf) (fun m hm => by rw [hA3 _ _ (by omega), hA3 _ _ (by omega), hA3 _ _ (by omega)]; exact f4 m hm) (by rw [b43, b44]; exact z6) (by rw [b43]; exact z4) (by rw [b43]; exact z5) (by rw [b43]; exact z7)
    have n0 : ∀ {x : Int32} {y : Int32} {z : Prop}, x = y → ¬ y = x → z := fun a b => absurd a.symm b
    by_cases k2 : a1 = 2
    · rw [if_pos k2]
      refine fin _ (fun q k z => fm_up_ne (by omega)) (tr _ (fun q k z => fm_up_ne (by omega)) (fun f hf => ?_) (fun f hf => ?_) (fun f hf => ?_) ?_)
      · rw [fm_up_get]; exact ⟨fun z => ⟨k2, z⟩, fun z => z.2⟩
      · rw [fm_up_ne (by omega), p4, k2]; exact ⟨fun z => ⟨by decide, z⟩, fun z => z.2⟩
      · rw [fm_up_ne (by omega), p5, k2]; exact ⟨fun z => ⟨by decide, z⟩, fun z => z.2⟩
      · rw [fm_up_ne (by omega), p7, k2]; exact ⟨fun z => absurd z (by decide), fun z => absurd z (by decide)⟩
    rw [if_neg k2]
    by_cases k3 : a1 = 3
    · rw [if_pos k3]
      refine fin _ (fun q k z => fm_up_ne (by omega)) (tr _ (fun q k z => fm_up_ne (by omega)) (fun f hf => ?_) (fun f hf => ?_) (fun f hf => ?_) ?_)
      · rw [fm_up_ne (by omega), p6]; exact ⟨fun z => absurd z (q6 f hf), fun z => absurd z.1 k2⟩
      · rw [fm_up_ne (by omega), p4, k3]; exact ⟨fun z => ⟨by decide, z⟩, fun z => z.2⟩
      · rw [fm_up_ne (by omega), p5, k3]; exact ⟨fun z => ⟨by decide, z⟩, fun z => z.2⟩
      · rw [fm_up_get]; exact ⟨fun _ => k3, fun _ => rfl⟩
    rw [if_neg k3]
    by_cases k4 : a1 = 4
    · rw [if_pos k4]
      refine fin _ (fun q k z => fm_up_ne (by omega)) (tr _ (fun q k z => fm_up_ne (by omega)) (fun f hf => ?_) (fun f hf => ?_) (fun f hf => ?_) ?_)
      · rw [fm_up_ne (by omega), p6]; exact ⟨fun z => absurd z (q6 f hf), fun z => absurd z.1 k2⟩
      · rw [fm_up_ne (by omega), p4, k4]; exact ⟨fun z => ⟨by decide, z⟩, fun z => z.2⟩
      · rw [fm_up_get]; exact ⟨fun z => absurd z (rl_bit0 f), fun z => absurd k4 z.1⟩
      · rw [fm_up_ne (by omega), p7]; exact ⟨fun z => absurd z (by decide), fun z => absurd z k3⟩
    rw [if_neg k4]
    by_cases k5 : a1 = 5
    · rw [if_pos k5]
      refine fin _ (fun q k z => fm_up_ne (by omega)) (tr _ (fun q k z => fm_up_ne (by omega)) (fun f hf => ?_) (fun f hf => ?_) (fun f hf => ?_) ?_)
      · rw [fm_up_ne (by omega), p6]; exact ⟨fun z => absurd z (q6 f hf), fun z => absurd z.1 k2⟩
      · rw [fm_up_get]; exact ⟨fun z => absurd z (rl_bit0 f), fun z => absurd k5 z.1⟩
      · rw [fm_up_ne (by omega), p5]; exact ⟨fun z => ⟨k4, z⟩, fun z => z.2⟩
      · rw [fm_up_ne (by omega), p7]; exact ⟨fun z => absurd z (by decide), fun z => absurd z k3⟩
    rw [if_neg k5]
    refine fin _ (fun _ _ _ => rfl) (tr _ (fun _ _ _ => rfl) (fun f hf => ?_) (fun f hf => ?_) (fun f hf => ?_) ?_)
    · rw [p6]; exact ⟨fun z => absurd z (q6 f hf), fun z => absurd z.1 k2⟩
    · rw [p4]; exact ⟨fun z => ⟨k5, z⟩, fun z => z.2⟩
    · rw [p5]; exact ⟨fun z => ⟨k4, z⟩, fun z => z.2⟩
    · rw [p7]; exact ⟨fun z => absurd z (by decide), fun z => absurd z k3⟩
  by_cases c3 : a1 = 2
  · rw [if_pos c3, if_pos c3]
    rcases iv_isFork h0 a2 with ⟨g1, g2⟩ | ⟨f, hf, hf8, -, g1, g2⟩
    · rw [g1, g2, fm_bd_s, fm_bd_s, if_pos rfl]; exact no2 _
    · rw [g1, g2, fm_bd_s, fm_bd_s, if_neg n10]; exact key (Or.inl c3)
  · rw [if_neg c3, if_neg c3]
    by_cases c4 : a2 = 0
    · rw [if_pos c4, if_pos c4]; exact key (Or.inr c4)
    · rw [if_neg c4, if_neg c4]; exact no _
