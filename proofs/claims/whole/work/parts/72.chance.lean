/-! days by chance; how likely by the wet; how far a fork must be filed -/
theorem ch_wet (x : Int32) : ∃ w : Nat, True ∧ i_rem ((x &&& 2147483647) / 65536) 10 = nI w ∧ i_rem ((x &&& 2147483647) >>> (16 &&& 31)) 10 = nI w ∧ w < 10 := by
  obtain ⟨j, hj, ej⟩ := pk_andE x (m := 2147483647) 31 (by decide)
  rw [ej]
  refine ⟨j / 65536 % 10, trivial, ?_, ?_, by omega⟩
  · rw [show (65536 : Int32) = nI 65536 from rfl, pk_div hj (by omega) (by omega), i_rem, show (10 : Int32) = nI 10 from rfl, pk_rem (by omega) (by omega) (by omega)]
  · rw [pk_shrN hj (16 &&& 31) 16 (by decide), i_rem, show (10 : Int32) = nI 10 from rfl, pk_rem (by omega) (by omega) (by omega)]
theorem md_damp_x {B : fm_M} {c w : Nat} (h1 : ¬ B.1 76 43 = 1) (h2 : B.1 76 45 = nI w) (hw : w < 2 ^ 31) : md_damp B c = nI w := by
  unfold md_damp
  rw [if_neg h1, h2, if_neg (fun z => absurd (z ▸ nI_pos hw) (by decide))]
theorem rl_chance {t nf nm n : Nat} (hn : n < 2 ^ 31) (l1 l3 l5 l6 l9 : Int32) : ∀ (m i fa fb dd : Nat) (x : Int32) (A B : fm_M), rl_d A B 45 t 1 nf nm → rl_v A 45 nm → rl_pb A 45 t nf → ¬ B.1 76 43 = 1 → B.1 94 1 = nI dd → dd + m < 100000 → i + m = n → m < fa → m < fb → ∃ (y : Int32) (A2 B2 : fm_M), G_X7_passDaysByChance_6 fa 45 t (nI n) l9 x (nI i) A = some ((y, nI n), A2) ∧ G_X10_chance_57 fb l1 (nI n) l3 l5 l6 x (nI i) B = some ((y, nI n), B2) ∧ rl_d A2 B2 45 t 1 nf nm ∧ (∀ q k, ¬ md_k 1 q k → (q ≠ 76 ∨ k ≠ 45) → B2.1 q k = B.1 q k) := by
  intro m
  induction m with
  | zero =>
    intro i fa fb dd x A B h hv hb h43 hdd hlt hi hfa hfb
    have : i = n := by omega
    subst this
    obtain ⟨fa, rfl⟩ : ∃ z, fa = z + 1 := ⟨fa - 1, by omega⟩
    obtain ⟨fb, rfl⟩ : ∃ z, fb = z + 1 := ⟨fb - 1, by omega⟩
    refine ⟨x, A, B, ?_, ?_, h, fun _ _ _ _ => rfl⟩
    · rw [G_X7_passDaysByChance_6, if_pos (nI_le (Nat.le_refl _) (by omega))]
    · rw [G_X10_chance_57, if_pos (nI_le (Nat.le_refl _) (by omega))]
  | succ m ih =>
    intro i fa fb dd x A B h hv hb h43 hdd hlt hi hfa hfb
    obtain ⟨fa, rfl⟩ : ∃ z, fa = z + 1 := ⟨fa - 1, by omega⟩
    obtain ⟨fb, rfl⟩ : ∃ z, fb = z + 1 := ⟨fb - 1, by omega⟩
    have ht2 := fm_td h.1.2.1
    rw [G_X7_passDaysByChance_6, if_neg (nI_ge (by omega) (by omega)), G_X10_chance_57, if_neg (nI_ge (by omega) (by omega))]
    simp only [fm_lt]
    obtain ⟨w, -, w1, w2, w3⟩ := ch_wet (x * 1103515245 + 12345)
    rw [w1, w2]
    generalize (x * 1103515245 + 12345) &&& 2147483647 = x2
    have h1 : rl_d (fm_up A 45 1 (nI w)) (fm_up B 76 45 (nI w)) 45 t 1 nf nm := rl_d_cg h (fun q k z _ _ => fm_up_ne z) (fun q k z _ => fm_up_ne (by omega))
    have g43 : ¬ (fm_up B 76 45 (nI w)).1 76 43 = 1 := by rw [fm_up_ne (by omega)]; exact h43
    obtain ⟨A1, B1, e1, e2, e3, e4, e5, e6, e7, e8, e9⟩ := rl_day h1 (rl_v_cg hv (fun q k z => fm_up_ne (by omega))) (rl_pb_cg hb (fun q k z => fm_up_ne (by omega))) (by rw [fm_up_get, md_damp_x g43 fm_up_get (by omega)]) (by rw [fm_up_ne (by omega)]; exact hdd) (by omega)
    rw [e1, fm_bd_s, show F_X10_dayGoes 1 (fm_up B 76 45 (nI w)) = _ from e2, fm_bd_s, nI_1]
    obtain ⟨y, A2, B2, f1, f2, f3, f4⟩ := ih (i + 1) fa fb (dd + 1) x2 A1 B1 e3 e4 e5 (by rw [e9 76 43 (by unfold md_k; omega)]; exact g43) e6 (by omega) (by omega) (by omega) (by omega)
    exact ⟨y, A2, B2, f1, f2, f3, fun q k z y => by rw [f4 q k z y, e9 q k z, fm_up_ne y]⟩
theorem iv_chance {A0 : fm_M} {t nf nm kd km n v0 : Nat} (hn : n ≤ 99) (l1 l3 : Int32) (hv0 : F_X7_verdicts 38 t 1 A0 = some (nI v0, A0)) : ∀ (m i fa fb : Nat) (c5 x : Int32) (A B : fm_M), iv_all A B t nf nm kd km → iv_all A0 B t nf nm kd km → i + m = 10 → m < fa → m < fb → rR (fun A B => iv_all A B t nf nm kd km) (fun a b => a.1 = b.2.1) (G_X9_chance_50 fa l1 (nI n) l3 (nI v0) c5 x (nI i) A) (G_X10_chance_41 fb l1 (nI n) l3 x c5 (nI i) B) := by
  intro m
  induction m with
  | zero =>
    intro i fa fb c5 x A B h hz hi hfa hfb
    obtain ⟨fa, rfl⟩ : ∃ z, fa = z + 1 := ⟨fa - 1, by omega⟩
    obtain ⟨fb, rfl⟩ : ∃ z, fb = z + 1 := ⟨fb - 1, by omega⟩
    have : i = 10 := by omega
    subst this
    rw [G_X9_chance_50, if_pos (by decide), G_X10_chance_41, if_pos (by decide)]
    exact rR_ret h rfl
  | succ m ih =>
    intro i fa fb c5 x A B h hz hi hfa hfb
    obtain ⟨fa, rfl⟩ : ∃ z, fa = z + 1 := ⟨fa - 1, by omega⟩
    obtain ⟨fb, rfl⟩ : ∃ z, fb = z + 1 := ⟨fb - 1, by omega⟩
    have ht2 := fm_td (iv_tt h)
    have hl : ¬ (10 : Int32) ≤ nI i := nI_ge (b := 10) (by omega) (by omega)
    rw [G_X9_chance_50, if_neg hl, G_X10_chance_41, if_neg hl]
    simp only [fm_lt]
    obtain ⟨A2, B2, x1, x2, x3, x4, x5, x6, x7⟩ := iv_trial h
    obtain ⟨y1, y2⟩ := iv_d x3.2.2.2.1 x4 x5 x3.2.2.2.2.2.2.2.2.2 rfl (c := 1) (by omega)
    obtain ⟨-, -, o5, o6, ⟨d, o7, o8, o9⟩, -⟩ := id x5
    have md1 := x3.2.2.2.2.2.2.2.2.2
    obtain ⟨y, A3, B3, f1, f2, f3, f4⟩ := rl_chance (n := n) (by omega) l1 l3 c5 (nI i) x n 0 fm_fuel fm_fuel d x A2 B2 y1 o5 ⟨o6, x3.2.2.2.1.2.2.2.1.2.2.1⟩ (by rw [md1.1]; decide) (by rw [← x4.1.1]; exact o8) (by omega) (by omega) (by unfold fm_fuel; omega) (by unfold fm_fuel; omega)
    have pd : F_X7_passDaysByChance 45 t (nI n) x A2 = some (y, A3) := by rw [F_X7_passDaysByChance, fm_gd_t (show fm_isSt 45 = true from rfl), fm_gd_t (iv_tt h), show G_X7_passDaysByChance_6 fm_fuel 45 t (nI n) x x 0 A2 = _ from f1, fm_bd_s]
    have hB4 : ∀ q k, ¬ md_k 1 q k → (fm_up B3 76 45 (-1)).1 q k = B2.1 q k := fun q k z => by
      by_cases y1 : q = 76 ∧ k = 45
      · rw [y1.1, y1.2, fm_up_get]; exact md1.2.2.1.symm
      · rw [fm_up_ne (by omega), f4 q k z (by omega)]
    generalize hB5 : fm_up B3 76 45 (-1) = B4 at hB4
    have u4 : ∀ q k, (q ≠ 76 ∨ k ≠ 45) → B4.1 q k = B3.1 q k := fun q k z => by rw [← hB5, fm_up_ne z]
    have i4 : iv_all A3 B4 t nf nm kd km := iv_cg x3 (fun q k z => fr_u (fr_X7_passDaysByChance 45 t (nI n) x A2) pd q k (by unfold iv_pA at z; simp only [fm_nW, and_true]; omega)) (fun q k z => hB4 q k (by unfold iv_pB at z; unfold md_k; omega))
    have z4 : iv_all A0 B4 t nf nm kd km := iv_cg hz (fun _ _ _ => rfl) (fun q k z => by rw [hB4 q k (by unfold iv_pB at z; unfold md_k; omega), x7 q k (by unfold iv_pB at z; unfold md_cc; omega)])
    have hnm := (iv_nm i4).1
    obtain ⟨v, -, g1, g2⟩ := rl_verd (A := A3) (B := B4) (p := 45) (c := 1) (nm := nm) 1 rfl (iv_tt h) (by omega) hnm (iv_nm i4).2.1 (iv_nm i4).2.2 (fun m hm => by rw [u4 _ _ (by omega)]; exact (f3.2.2.2 m hm).2.2.1)
    obtain ⟨u, -, g3, g4⟩ := iv_verd z4 1
    rw [hv0] at g3
    have ev : nI v0 = nI u := (Prod.mk.inj (Option.some.inj g3)).1
    rw [← ev] at g4
    rw [x1, fm_bd_s, iv_t x3, fm_gd_t (iv_tt h), pd, fm_bd_s, iv_t i4, fm_gd_t (iv_tt h), g1, fm_bd_s, x2, fm_bd_s, show G_X10_chance_57 fm_fuel l1 (nI n) l3 c5 (nI i) x 0 B2 = _ from f2, fm_bd_s, hB5, show F_X10_manyOf 1 1 B4 = _ from g2, fm_bd_s, g4, fm_bd_s, Int32.add_zero, nI_1]
    by_cases hc : nI v - nI v0 < l3
    · rw [if_pos hc, if_pos hc]; exact ih (i + 1) fa fb c5 y A3 B4 i4 z4 (by omega) (by omega) (by omega)
    · rw [if_neg hc, if_neg hc]; exact ih (i + 1) fa fb (c5 + 1) y A3 B4 i4 z4 (by omega) (by omega) (by omega)
theorem pu_chance {A B : fm_M} {t nf nm kd km : Nat} (h : iv_all A B t nf nm kd km) (a1 a2 a3 : Int32) : pu t nf nm kd km (F_X9_chance a1 a2 a3 A) (F_X10_chance a1 a2 a3 B) := by
  have h0 := iv_thr h 0
  rw [F_X9_chance, F_X10_chance]
  simp only [fm_lt]
  generalize fm_up B 76 0 0 = B1 at *
  by_cases c1 : a1 < 0
  · rw [if_pos c1, if_pos c1]; exact rR_ret h0 rfl
  rw [if_neg c1, if_neg c1]
  by_cases c2 : a2 < 1
  · rw [if_pos c2, if_pos c2]; exact rR_ret h0 rfl
  rw [if_neg c2, if_neg c2]
  by_cases c3 : 99 < a2
  · rw [if_pos c3, if_pos c3]; exact rR_ret h0 rfl
  rw [if_neg c3, if_neg c3]
  by_cases c4 : a3 < 0
  · rw [if_pos c4, if_pos c4]; exact rR_ret h0 rfl
  rw [if_neg c4, if_neg c4]
  by_cases c5 : a3 ≤ 10
  · rw [if_pos c5, if_pos c5]
    have c2' : ¬ a2 < 0 := fun z => c2 (Int32.lt_iff_toInt_lt.mpr (by have := Int32.lt_iff_toInt_lt.mp z; rw [show (0 : Int32).toInt = 0 from rfl] at this; rw [show (1 : Int32).toInt = 1 from rfl]; omega))
    obtain ⟨n, hn, rfl⟩ := nI_of2 (M := 99) (n := 99) rfl c2' (Int32.not_lt.mp c3)
    obtain ⟨v0, -, g1, g2⟩ := iv_verd h0 1
    rw [iv_t h0, fm_gd_t (iv_tt h), g1, fm_bd_s]
    exact rR_bd (iv_chance (A0 := A) hn a1 a3 g1 10 0 fm_fuel fm_fuel 0 a1 A B1 h0 h0 (by omega) (by unfold fm_fuel; omega) (by unfold fm_fuel; omega)) (fun a b A2 B2 hP hI => rR_ret hI hP)
  · rw [if_neg c5, if_neg c5]; exact rR_ret h0 rfl
/-! likely -/
theorem iv_trial0 {A B : fm_M} {t nf nm kd km : Nat} (h : iv_all A B t nf nm kd km) : ∃ A2, F_X7_copyFrom 45 38 A = some ((), A2) ∧ iv_all A2 B t nf nm kd km ∧ iv_st A2 B 45 0 nf nm ∧ iv_so A2 B t 45 nf nm ∧ (∀ q k, (q < 45 ∨ 50 < q) → A2.1 q k = A.1 q k) := by
  have hnf := (iv_nf h).1
  have hnm := (iv_nm h).1
  have ht := fm_td (iv_tt h)
  obtain ⟨⟨s1, s2, s3, s4⟩, s5, s6⟩ := id h.2.2.2.2.1
  obtain ⟨⟨o1, o2, o3⟩, o4, o5, o6, ⟨d, o7, o8, o9⟩, o10⟩ := id h.2.2.2.2.2.1
  obtain ⟨A2, e1, e2, e3, e4, e5⟩ := cl_copy (A := A) (p := 45) (q := 38) rfl rfl (by omega) (Or.inr o3)
  refine ⟨A2, e1, iv_cg h (fun q k z => e5 q k (by unfold iv_pA at z; omega)) (fun _ _ _ => rfl), ⟨⟨?_, ?_, ?_, ?_⟩, fun f hf => ?_, fun m hm => ?_⟩, ⟨⟨?_, ?_, ?_⟩, fun f hf => ?_, fun m hm => ?_, fun f hf => ?_, ⟨d, o7, ?_, ?_⟩, ?_⟩, e5⟩
  · rw [e2 0 (by omega)]; exact s1
  · rw [e2 2 (by omega)]; exact s2
  · rw [e2 3 (by omega)]; exact s3
  · rw [e2 4 (by omega)]; exact s4
  · rw [(e3 f (by omega)).1]; exact s5 f hf
  · rw [(e4 m (by omega)).1, (e4 m (by omega)).2.1, (e4 m (by omega)).2.2]; exact s6 m hm
  · rw [e2 5 (by omega), e5 t 6 (by omega)]; exact o1
  · rw [e2 6 (by omega)]; exact o2
  · rw [e2 7 (by omega)]; exact o3
  · rw [(e3 f (by omega)).2, e5 _ _ (by omega)]; exact o4 f hf
  · rw [(e4 m (by omega)).2.1, (e4 m (by omega)).2.2]; exact o5 m hm
  · rw [(e3 f (by omega)).1]; exact o6 f hf
  · rw [e2 0 (by omega)]; exact o8
  · rw [e2 1 (by omega)]; exact o9
  · rw [e2 4 (by omega)]; exact o10
theorem iv_likely {t nf nm g : Nat} (hg : g < nm) (l2 : Int32) : ∀ (m i fa fb acc : Nat) (A B : fm_M), rl_d A B 45 t 0 nf nm → A.1 0 1 = nI t → ¬ B.1 76 43 = 1 → i + m = 10 → acc ≤ i → m < fa → m < fb → ∃ (v : Nat) (A2 B2 : fm_M), v ≤ 10 ∧ G_X9_likely_35 fa (nI g) l2 (nI acc) (nI i) A = some ((nI v, nI 10), A2) ∧ G_X10_likely_29 fb (nI g) l2 (nI acc) (nI i) B = some ((nI v, nI 10), B2) ∧ (∀ q k, (q ≠ 45 ∨ k ≠ 1) → q ≠ t + 15 → A2.1 q k = A.1 q k) ∧ (∀ q k, (q ≠ 76 ∨ (k ≠ 32 ∧ k ≠ 45)) → B2.1 q k = B.1 q k) := by
  intro m
  induction m with
  | zero =>
    intro i fa fb acc A B h h01 h43 hi ha hfa hfb
    obtain ⟨fa, rfl⟩ : ∃ z, fa = z + 1 := ⟨fa - 1, by omega⟩
    obtain ⟨fb, rfl⟩ : ∃ z, fb = z + 1 := ⟨fb - 1, by omega⟩
    have : i = 10 := by omega
    subst this
    rw [G_X9_likely_35, if_pos (by decide), G_X10_likely_29, if_pos (by decide)]
    exact ⟨acc, A, B, ha, rfl, rfl, fun _ _ _ _ => rfl, fun _ _ _ => rfl⟩
  | succ m ih =>
    intro i fa fb acc A B h h01 h43 hi ha hfa hfb
    obtain ⟨fa, rfl⟩ : ∃ z, fa = z + 1 := ⟨fa - 1, by omega⟩
    obtain ⟨fb, rfl⟩ : ∃ z, fb = z + 1 := ⟨fb - 1, by omega⟩
    have ht := h.1.2.1
    have ht2 := fm_td ht
    have hnm := h.2.2.1.2.2.2.2.1
    rw [G_X9_likely_35, if_neg (show ¬ (9 : Int32) < nI i from nI_nlt (a := 9) (by omega) (by omega)), G_X10_likely_29, if_neg (show ¬ (10 : Int32) ≤ nI i from nI_ge (b := 10) (by omega) (by omega))]
    simp only [fm_lt, Int32.add_zero]
    have h1 : rl_d (fm_up A 45 1 (nI i)) (fm_up B 76 45 (nI i)) 45 t 0 nf nm := rl_d_cg h (fun q k z _ _ => fm_up_ne z) (fun q k z _ => fm_up_ne (by omega))
    have g43 : ¬ (fm_up B 76 45 (nI i)).1 76 43 = 1 := by rw [fm_up_ne (by omega)]; exact h43
    have hh := h1.h (by rw [fm_up_get, md_damp_x g43 fm_up_get (by omega)])
    have k1 : (fm_up A 45 1 (nI i)).1 0 1 = nI t := by rw [fm_up_ne (by omega)]; exact h01
    have k2 : ∀ q k, (q ≠ 45 ∨ k ≠ 1) → (fm_up A 45 1 (nI i)).1 q k = A.1 q k := fun q k z => fm_up_ne z
    have k3 : ∀ q k, (q ≠ 76 ∨ k ≠ 45) → (fm_up B 76 45 (nI i)).1 q k = B.1 q k := fun q k z => fm_up_ne z
    have en := (h1.2.2.2 g hg).1
    have ic : Int32.toNatClampNeg (nI g) = g := nI_clamp (by omega)
    generalize fm_up A 45 1 (nI i) = A1 at *
    generalize fm_up B 76 45 (nI i) = B1 at *
    obtain ⟨v, u, A2, B2, B3, e1, e2, e3, e4, e5, e6, e7⟩ := rl_carries hh h1.2.2.1.1 h1.2.2.1.2.1 h1.2.2.1.2.2.2.2.2.1 (A1.1 (t + 7) g)
    rw [k1, nI_clamp (by omega), fm_gd_t ht, fm_gd_t ht, fm_gd_t (show fm_inb (nI g) 10 = true from nu_inb (by omega) (by omega)), ic, e1, fm_bd_s, fm_gd_t (show fm_inb (nI g) 20 = true from nu_inb (by omega) (by omega)), fm_gd_t (show fm_inb (nI g) 20 = true from nu_inb (by omega) (by omega)), ← en, show F_X10_humAll 0 (A1.1 (t + 7) g) B1 = _ from e2, fm_bd_s, show F_X10_passes 0 (A1.1 (t + 7) g) u B2 = _ from e3, fm_bd_s, nI_1, nI_1]
    have r2 : rl_d A2 B3 45 t 0 nf nm := rl_d_cg h1 (fun q k _ z _ => e5 q k z) (fun q k z _ => e7 q k (by omega))
    have fin : ∀ acc2, acc2 ≤ i + 1 → ∃ (v : Nat) (A4 B4 : fm_M), v ≤ 10 ∧ G_X9_likely_35 fa (nI g) l2 (nI acc2) (nI (i + 1)) A2 = some ((nI v, nI 10), A4) ∧ G_X10_likely_29 fb (nI g) l2 (nI acc2) (nI (i + 1)) B3 = some ((nI v, nI 10), B4) ∧ (∀ q k, (q ≠ 45 ∨ k ≠ 1) → q ≠ t + 15 → A4.1 q k = A.1 q k) ∧ (∀ q k, (q ≠ 76 ∨ (k ≠ 32 ∧ k ≠ 45)) → B4.1 q k = B.1 q k) := by
      intro acc2 h2
      obtain ⟨v, A4, B4, x1, x2, x3, x4, x5⟩ := ih (i + 1) fa fb acc2 A2 B3 r2 (by rw [e5 _ _ (by omega)]; exact k1) (by rw [e7 _ _ (by omega)]; exact g43) (by omega) h2 (by omega) (by omega)
      exact ⟨v, A4, B4, x1, x2, x3, fun q k z y => by rw [x4 q k z y, e5 q k y, k2 q k z], fun q k z => by rw [x5 q k z, e7 q k (by omega), k3 q k (by omega)]⟩
    by_cases hc : v = 0
    · rw [if_pos hc, if_pos hc]; exact fin acc (by omega)
    · rw [if_neg hc, if_neg hc]; exact fin (acc + 1) (by omega)
theorem lk_cut (v : Nat) (hv : v ≤ 10) (l1 a2 : Int32) (A B : fm_M) : ∃ r, (if (i_rem (nI v) 10) = 0 then J_X9_likely_121 l1 a2 (nI v) 10 A else if (i_rem (nI v) 5) = 0 then J_X9_likely_121 l1 a2 (nI v) 5 A else if (i_rem (nI v) 2) = 0 then J_X9_likely_121 l1 a2 (nI v) 2 A else J_X9_likely_121 l1 a2 (nI v) 1 A) = some (r, A) ∧ fm_bd (F_X10_common (nI v) 10 B) (fun v16 M17 => if a2 = 0 then fm_gd (fm_nz v16) (some ((nI v / v16), M17)) else fm_gd (fm_nz v16) (some ((10 / v16), M17))) = some (r, B) := by
  have cm : ∀ g : Int32, (∀ k, G_X10_common_4 (k + 8) (nI v) 10 (nI v) 10 B = some ((g, 0), B)) → F_X10_common (nI v) 10 B = some (g, B) := fun g h => by
    rw [F_X10_common, show fm_fuel = 9992 + 8 from rfl, h 9992, fm_bd_s]
  have hv2 : v = 0 ∨ v = 1 ∨ v = 2 ∨ v = 3 ∨ v = 4 ∨ v = 5 ∨ v = 6 ∨ v = 7 ∨ v = 8 ∨ v = 9 ∨ v = 10 := by omega
  rcases hv2 with rfl | rfl | rfl | rfl | rfl | rfl | rfl | rfl | rfl | rfl | rfl
  · rw [if_pos (by decide), cm 10 (fun k => rfl), fm_bd_s, J_X9_likely_121]
    by_cases c : a2 = 0
    · rw [if_pos c, if_pos c]; exact ⟨_, rfl, rfl⟩
    · rw [if_neg c, if_neg c]; exact ⟨_, rfl, rfl⟩
  · rw [if_neg (by decide), if_neg (by decide), if_neg (by decide), cm 1 (fun k => rfl), fm_bd_s, J_X9_likely_121]
    by_cases c : a2 = 0
    · rw [if_pos c, if_pos c]; exact ⟨_, rfl, rfl⟩
    · rw [if_neg c, if_neg c]; exact ⟨_, rfl, rfl⟩
  · rw [if_neg (by decide), if_neg (by decide), if_pos (by decide), cm 2 (fun k => rfl), fm_bd_s, J_X9_likely_121]
    by_cases c : a2 = 0
    · rw [if_pos c, if_pos c]; exact ⟨_, rfl, rfl⟩
    · rw [if_neg c, if_neg c]; exact ⟨_, rfl, rfl⟩
  · rw [if_neg (by decide), if_neg (by decide), if_neg (by decide), cm 1 (fun k => rfl), fm_bd_s, J_X9_likely_121]
    by_cases c : a2 = 0
    · rw [if_pos c, if_pos c]; exact ⟨_, rfl, rfl⟩
    · rw [if_neg c, if_neg c]; exact ⟨_, rfl, rfl⟩
  · rw [if_neg (by decide), if_neg (by decide), if_pos (by decide), cm 2 (fun k => rfl), fm_bd_s, J_X9_likely_121]
    by_cases c : a2 = 0
    · rw [if_pos c, if_pos c]; exact ⟨_, rfl, rfl⟩
    · rw [if_neg c, if_neg c]; exact ⟨_, rfl, rfl⟩
  · rw [if_neg (by decide), if_pos (by decide), cm 5 (fun k => rfl), fm_bd_s, J_X9_likely_121]
    by_cases c : a2 = 0
    · rw [if_pos c, if_pos c]; exact ⟨_, rfl, rfl⟩
    · rw [if_neg c, if_neg c]; exact ⟨_, rfl, rfl⟩
  · rw [if_neg (by decide), if_neg (by decide), if_pos (by decide), cm 2 (fun k => rfl), fm_bd_s, J_X9_likely_121]
    by_cases c : a2 = 0
    · rw [if_pos c, if_pos c]; exact ⟨_, rfl, rfl⟩
    · rw [if_neg c, if_neg c]; exact ⟨_, rfl, rfl⟩
  · rw [if_neg (by decide), if_neg (by decide), if_neg (by decide), cm 1 (fun k => rfl), fm_bd_s, J_X9_likely_121]
    by_cases c : a2 = 0
    · rw [if_pos c, if_pos c]; exact ⟨_, rfl, rfl⟩
    · rw [if_neg c, if_neg c]; exact ⟨_, rfl, rfl⟩
  · rw [if_neg (by decide), if_neg (by decide), if_pos (by decide), cm 2 (fun k => rfl), fm_bd_s, J_X9_likely_121]
    by_cases c : a2 = 0
    · rw [if_pos c, if_pos c]; exact ⟨_, rfl, rfl⟩
    · rw [if_neg c, if_neg c]; exact ⟨_, rfl, rfl⟩
  · rw [if_neg (by decide), if_neg (by decide), if_neg (by decide), cm 1 (fun k => rfl), fm_bd_s, J_X9_likely_121]
    by_cases c : a2 = 0
    · rw [if_pos c, if_pos c]; exact ⟨_, rfl, rfl⟩
    · rw [if_neg c, if_neg c]; exact ⟨_, rfl, rfl⟩
  · rw [if_pos (by decide), cm 10 (fun k => rfl), fm_bd_s, J_X9_likely_121]
    by_cases c : a2 = 0
    · rw [if_pos c, if_pos c]; exact ⟨_, rfl, rfl⟩
    · rw [if_neg c, if_neg c]; exact ⟨_, rfl, rfl⟩
theorem pu_likely {A B : fm_M} {t nf nm kd km : Nat} (h : iv_all A B t nf nm kd km) (a1 a2 : Int32) : pu t nf nm kd km (F_X9_likely a1 a2 A) (F_X10_likely a1 a2 B) := by
  have h0 := iv_thr h 0
  rw [F_X9_likely, F_X10_likely]
  simp only [fm_lt]
  generalize fm_up B 76 0 0 = B1 at *
  have ht := fm_td (iv_tt h)
  rcases iv_isMotion h0 a1 with ⟨e1, e2⟩ | ⟨g, hg, hg8, rfl, e1, e2⟩
  · rw [e1, e2, fm_bd_s, fm_bd_s, if_pos rfl, if_pos rfl]; exact rR_ret h0 rfl
  rw [e1, e2, fm_bd_s, fm_bd_s, if_neg n10, if_neg n10]
  have key : pu t nf nm kd km (J_X9_likely_19 (nI g) a2 A) (fm_bd (G_X10_likely_29 fm_fuel (nI g) a2 0 0 B1) (fun w13 M14 => fm_bd (F_X10_common w13.1 10 (fm_up M14 76 45 (-1))) (fun v16 M17 => if a2 = 0 then fm_gd (fm_nz v16) (some ((w13.1 / v16), M17)) else fm_gd (fm_nz v16) (some ((10 / v16), M17))))) := by
    rw [J_X9_likely_19]
    obtain ⟨A2, x1, x2, x3, x4, x5⟩ := iv_trial0 h0
    obtain ⟨y1, y2⟩ := iv_d x2.2.2.2.1 x3 x4 x2.2.2.2.2.2.2.2.2.2 rfl (c := 0) (by omega)
    have md1 := x2.2.2.2.2.2.2.2.2.2
    obtain ⟨v, A3, B3, f0, f1, f2, f3, f4⟩ := iv_likely hg a2 10 0 fm_fuel fm_fuel 0 A2 B1 y1 x2.1.1 (by rw [md1.1]; decide) (by omega) (by omega) (by unfold fm_fuel; omega) (by unfold fm_fuel; omega)
    have i4 : iv_all A3 (fm_up B3 76 45 (-1)) t nf nm kd km := iv_cg x2 (fun q k z => f3 q k (by unfold iv_pA at z; omega) (by unfold iv_pA at z; omega)) (fun q k z => by
      by_cases y1 : q = 76 ∧ k = 45
      · rw [y1.1, y1.2, fm_up_get]; exact md1.2.2.1.symm
      · rw [fm_up_ne (by omega), f4 q k (by unfold iv_pB at z; omega)])
    rw [x1, fm_bd_s, show G_X9_likely_35 fm_fuel (nI g) a2 0 0 A2 = _ from f1, fm_bd_s, show G_X10_likely_29 fm_fuel (nI g) a2 0 0 B1 = _ from f2, fm_bd_s]
    obtain ⟨r, r1, r2⟩ := lk_cut v f0 (nI g) a2 A3 (fm_up B3 76 45 (-1))
    exact ⟨r, r, A3, _, r1, r2, rfl, i4⟩
  by_cases c0 : a2 = 0
  · rw [if_pos c0, if_neg (by rw [c0]; decide), if_pos (by rw [c0]; decide)]; exact key
  rw [if_neg c0]
  by_cases c1 : a2 = 1
  · rw [if_pos c1, if_neg (by rw [c1]; decide), if_pos (by rw [c1]; decide)]; exact key
  rw [if_neg c1]
  by_cases c2 : a2 < 0
  · rw [if_pos c2]; exact rR_ret h0 rfl
  rw [if_neg c2]
  by_cases c3 : a2 ≤ 1
  · exfalso
    obtain ⟨j, hj, rfl⟩ := nI_of2 (M := 1) (n := 1) rfl c2 c3
    rcases (show j = 0 ∨ j = 1 by omega) with rfl | rfl
    · exact c0 rfl
    · exact c1 rfl
  · rw [if_neg c3]; exact rR_ret h0 rfl
/-! room -/
theorem iv_wb {A B : fm_M} {t nf nm kd km f : Nat} (h : iv_all A B t nf nm kd km) (hf : f < nf) (n d : Int32) : ∃ g : Int32, F_X7_wouldBeat 38 (nI f) d n A = some (g, A) ∧ ∀ (fb : Nat) (l3 l4 : Int32), ¬ 2 ≤ l4 → l4 * l3 = d → G_X10_room_34 (fb + 1) (nI f) n l3 l4 B = if g = 0 then G_X10_room_34 fb (nI f) n l3 (l4 + 2) B else some (.inr l3, B) := by
  have hnf := (iv_nf h).1
  obtain ⟨h1, h2⟩ := iv_dn h
  have ic : Int32.toNatClampNeg (nI f) = f := nI_clamp (by omega)
  have b8 : fm_inb (nI f) 8 = true := nu_inb (by omega) (by omega)
  have b184 : fm_inb (nI f) 184 = true := nu_inb (by omega) (by omega)
  have b16 : fm_inb (nI f) 16 = true := nu_inb (by omega) (by omega)
  obtain ⟨p1, -⟩ := (iv_now h).2.2.1 f hf
  have pw : A.1 40 f = B.1 81 f := by
    rw [show A.1 40 f = A.1 (38 + 2) f from rfl, h.2.2.2.2.2.1.2.1 f hf]
    exact (h.2.2.2.1.2.2.2.2.1 f hf).2.2.1
  have ref : ∀ (fb : Nat) (l3 l4 : Int32), ¬ 2 ≤ l4 → l4 * l3 = d → G_X10_room_34 (fb + 1) (nI f) n l3 l4 B = fm_bd (F_X10_isNote (A.1 39 f + d) B) (fun v8 M9 => if v8 = 0 then G_X10_room_34 fb (nI f) n l3 (l4 + 2) M9 else fm_bd (F_X10_beatsOf 0 (A.1 39 f + d) n M9) (fun v10 M11 => fm_gd (fm_inb (nI f) 16) (if (M11.1 81 (Int32.toNatClampNeg (nI f))) < v10 then G_X10_room_34 fb (nI f) n l3 (l4 + 2) M11 else some (.inr l3, M11)))) := by
    intro fb l3 l4 h4 he
    rw [G_X10_room_34, if_neg h4, fm_gd_t b184, fm_lt, ic, he, ← p1]
  rw [F_X7_wouldBeat, fm_gd_t (show fm_isSt 38 = true from rfl), fm_gd_t b8, fm_lt, ic, show A.1 (38 + 1) f = A.1 39 f from rfl]
  rcases iv_isNote (A.1 39 f + d) with e3 | ⟨-, e3⟩
  · refine ⟨0, by rw [(e3 A).1, fm_bd_s, if_pos rfl], fun fb l3 l4 h4 he => ?_⟩
    rw [ref fb l3 l4 h4 he, (e3 B).2, fm_bd_s, if_pos rfl, if_pos rfl]
  · rw [(e3 A).1, fm_bd_s, if_neg n10, cl_beats, fm_bd_s, fm_gd_t b8, h2, show A.1 (38 + 2) f = A.1 40 f from rfl, pw]
    have rf2 : ∀ (fb : Nat) (l3 l4 : Int32), ¬ 2 ≤ l4 → l4 * l3 = d → G_X10_room_34 (fb + 1) (nI f) n l3 l4 B = if B.1 81 f < md_beats (i_max 1 (A.1 39 f + d - md_damp B 0)) n then G_X10_room_34 fb (nI f) n l3 (l4 + 2) B else some (.inr l3, B) := by
      intro fb l3 l4 h4 he
      rw [ref fb l3 l4 h4 he, (e3 B).2, fm_bd_s, if_neg n10, show F_X10_beatsOf 0 (A.1 39 f + d) n B = _ from md_beats_ok h1.1.2.2.1 (A.1 39 f + d) n, fm_bd_s, fm_gd_t b16, ic]
    by_cases c : B.1 81 f < md_beats (i_max 1 (A.1 39 f + d - md_damp B 0)) n
    · exact ⟨0, by rw [if_pos c], fun fb l3 l4 h4 he => by rw [rf2 fb l3 l4 h4 he, if_pos c, if_pos rfl]⟩
    · exact ⟨1, by rw [if_neg c], fun fb l3 l4 h4 he => by rw [rf2 fb l3 l4 h4 he, if_neg c, if_neg n10]⟩
theorem iv_room {A B : fm_M} {t nf nm kd km f : Nat} (h : iv_all A B t nf nm kd km) (hf : f < nf) (n : Int32) : ∀ (m i fa fb : Nat), i + m = 900 → m < fa → m < fb → (∃ x, G_X9_room_19 fa (nI f) n (nI i) A = some (.inr x, A) ∧ G_X10_room_24 fb (nI f) n (nI i) B = some (.inr x, B)) ∨ (∃ x y, G_X9_room_19 fa (nI f) n (nI i) A = some (.inl x, A) ∧ G_X10_room_24 fb (nI f) n (nI i) B = some (.inl y, B)) := by
  intro m
  induction m with
  | zero =>
    intro i fa fb hi hfa hfb
    obtain ⟨fa, rfl⟩ : ∃ z, fa = z + 1 := ⟨fa - 1, by omega⟩
    obtain ⟨fb, rfl⟩ : ∃ z, fb = z + 1 := ⟨fb - 1, by omega⟩
    have : i = 900 := by omega
    subst this
    rw [G_X9_room_19, if_pos (by decide), G_X10_room_24, if_pos (by decide)]
    exact Or.inr ⟨_, _, rfl, rfl⟩
  | succ m ih =>
    intro i fa fb hi hfa hfb
    obtain ⟨fa, rfl⟩ : ∃ z, fa = z + 1 := ⟨fa - 1, by omega⟩
    obtain ⟨fb, rfl⟩ : ∃ z, fb = z + 1 := ⟨fb - 1, by omega⟩
    rw [G_X9_room_19, if_neg (show ¬ (899 : Int32) < nI i from nI_nlt (a := 899) (by omega) (by omega)), G_X10_room_24, if_neg (show ¬ (900 : Int32) ≤ nI i from nI_ge (b := 900) (by omega) (by omega))]
    obtain ⟨g1, x1, x2⟩ := iv_wb h hf n (nI i)
    obtain ⟨g2, y1, y2⟩ := iv_wb h hf n (-nI i)
    have em : (-1 : Int32) * nI i = -nI i := by rw [Int32.neg_mul, Int32.one_mul]
    have e1 : (1 : Int32) * nI i = nI i := Int32.one_mul _
    rw [show fm_fuel = 9997 + 1 + 1 + 1 from rfl, y2 (9997 + 1 + 1) (nI i) (-1) (by decide) em, show (-1 : Int32) + 2 = 1 from by decide, x2 (9997 + 1) (nI i) 1 (by decide) e1, show (1 : Int32) + 2 = 3 from by decide, x1, fm_bd_s, y1, fm_bd_s, nI_1]
    have e3 : G_X10_room_34 (9997 + 1) (nI f) n (nI i) 3 B = some (.inl 3, B) := by rw [G_X10_room_34, if_pos (by decide)]
    rw [e3]
    by_cases c2 : g2 = 0
    · rw [if_pos c2, if_pos c2]
      by_cases c1 : g1 = 0
      · rw [if_pos c1, if_pos c1]
        exact ih (i + 1) fa fb (by omega) (by omega) (by omega)
      · rw [if_neg c1, if_neg c1]; exact Or.inl ⟨_, rfl, rfl⟩
    · rw [if_neg c2, if_neg c2]
      by_cases c1 : g1 = 0
      · rw [if_pos c1]; exact Or.inl ⟨_, rfl, rfl⟩
      · rw [if_neg c1]; exact Or.inl ⟨_, rfl, rfl⟩
theorem pu_room {A B : fm_M} {t nf nm kd km : Nat} (h : iv_all A B t nf nm kd km) (a1 a2 : Int32) : pu t nf nm kd km (F_X9_room a1 a2 A) (F_X10_room a1 a2 B) := by
  have h0 := iv_thr h 0
  rw [F_X9_room, F_X10_room]
  simp only [fm_lt]
  generalize fm_up B 76 0 0 = B1 at *
  rcases iv_isFork h0 a1 with ⟨e1, e2⟩ | ⟨f, hf, hf8, rfl, e1, e2⟩
  · rw [e1, e2, fm_bd_s, fm_bd_s, if_pos rfl, if_pos rfl]; exact rR_ret h0 rfl
  rw [e1, e2, fm_bd_s, fm_bd_s, if_neg n10, if_neg n10]
  rcases iv_isNote a2 with e3 | ⟨-, e3⟩
  · rw [(e3 A).1, (e3 B1).2, fm_bd_s, fm_bd_s, if_pos rfl, if_pos rfl]; exact rR_ret h0 rfl
  rw [(e3 A).1, (e3 B1).2, fm_bd_s, fm_bd_s, if_neg n10, if_neg n10]
  rcases iv_room h0 hf a2 900 0 fm_fuel fm_fuel (by omega) (by unfold fm_fuel; omega) (by unfold fm_fuel; omega) with ⟨x, r1, r2⟩ | ⟨x, y, r1, r2⟩
  · rw [show G_X9_room_19 fm_fuel (nI f) a2 0 A = _ from r1, show G_X10_room_24 fm_fuel (nI f) a2 0 B1 = _ from r2]; exact rR_ret h0 rfl
  · rw [show G_X9_room_19 fm_fuel (nI f) a2 0 A = _ from r1, show G_X10_room_24 fm_fuel (nI f) a2 0 B1 = _ from r2]; exact rR_ret h0 rfl
