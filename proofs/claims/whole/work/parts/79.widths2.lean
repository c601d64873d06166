/-! widths: the ten councils -/
theorem wd_rl {A B A2 B2 : fm_M} {t nf nm kd km f : Nat} {x : Int32} (h : iv_all A B t nf nm kd km) (hf : f < nf) (b46 : B2.1 76 46 = nI f) (b47 : B2.1 76 47 = x) (hB : ∀ q k, iv_pB q k → (q ≠ 76 ∨ k ≠ 46) → B2.1 q k = B.1 q k)
    (x1 : A2.1 45 0 = 0 ∧ A2.1 45 4 = 0 ∧ A2.1 45 5 = A.1 t 6 ∧ A2.1 45 6 = -1 ∧ A2.1 45 7 = 1) (x2 : ∀ g, g < nf → A2.1 46 g = A.1 (t + 2) g ∧ A2.1 47 g = if g = f then x else A.1 (t + 3) g) (x3 : ∀ m, m < nm → A2.1 48 m = A.1 (t + 8) m ∧ A2.1 49 m = -1 ∧ A2.1 50 m = -1)
    (hA : ∀ q k, iv_pA q k → A2.1 q k = A.1 q k) (y1 : B2.1 94 1 = 0 ∧ B2.1 97 1 = 0) (y2 : ∀ g, g < nf → B2.1 98 (8 + g) = B.1 80 g) (y3 : ∀ m, m < nm → B2.1 99 (10 + m) = B.1 86 m ∧ B2.1 100 (10 + m) = -1 ∧ B2.1 101 (10 + m) = -1) :
    rl_d A2 B2 45 t 1 nf nm ∧ rl_v A2 45 nm ∧ rl_pb A2 45 t nf ∧ rl_w A2 B2 t ∧ ¬ B2.1 76 43 = 1 ∧ B2.1 76 45 = -1 ∧ md_damp B2 1 = md_wet B 0 := by
  have ht := fm_td (iv_tt h)
  have hnf := (iv_nf h).1
  have hnm := (iv_nm h).1
  have td : iv_td A2 B2 t nf nm := iv_td_cg h.2.2.2.1 (fun q k a b => hA q k (by unfold iv_pA; omega)) (fun q k a b => hB q k (by unfold iv_pB; omega) (by omega))
  obtain ⟨⟨a1, a2, a3, a4, a5, a6, a7⟩, ⟨b1, b2⟩, ⟨t1, t2, t3, t4, t5, t6⟩, ⟨-, -, tr, -⟩, d1, d2⟩ := td
  obtain ⟨m1, m2, m3, m4⟩ := h.2.2.2.2.2.2.2.2.2
  have b43 : B2.1 76 43 = 0 := by rw [hB _ _ (by unfold iv_pB; omega) (by omega)]; exact m1
  have b45 : B2.1 76 45 = -1 := by rw [hB _ _ (by unfold iv_pB; omega) (by omega)]; exact m3
  obtain ⟨nw, w1, w2, w3, w4⟩ := id b1
  have n2 : ¬ B2.1 76 43 = 2 := by rw [b43]; decide
  have n3 : ¬ B2.1 76 43 = 3 := by rw [b43]; decide
  have n4 : B2.1 76 43 ≠ 4 := by rw [b43]; decide
  have n5 : B2.1 76 43 ≠ 5 := by rw [b43]; decide
  have n1 : ¬ B2.1 76 43 = 1 := by rw [b43]; decide
  refine ⟨⟨⟨rfl, a1, ⟨by omega, ⟨nw, w1, w3⟩, 0, by omega, y1.1⟩, a2, b2, by rw [x1.1, y1.1]⟩, fun g hg => ?_, ⟨a4, a5, a6, a7, a3, t1, t4, ⟨fun z => absurd z (by rw [x1.2.2.2.2]; decide), fun z => absurd z n3⟩⟩, fun m hm => ⟨(d2 m hm).2.1, ?_, ?_, ?_⟩⟩, fun m hm => Or.inl ⟨(x3 m hm).2.1, (x3 m hm).2.2⟩, ⟨fun g hg => ?_, tr⟩, b1, n1, b45, ?_⟩
  · obtain ⟨z1, z2, z3, z4, z5, z6, z7⟩ := d1 g hg
    have hw : md_width B2 g = if g = f then x else B2.1 81 g := by
      unfold md_width
      rw [b46, b47]
      by_cases c : g = f
      · rw [if_pos c, if_pos (by rw [c])]
      · rw [if_neg c, if_neg (fun y => c ((nI_eq (by omega) (by omega)).mp y))]
    refine ⟨?_, ?_, z4, z6, ⟨fun z => ?_, fun z => absurd z.1 n2⟩, ?_, ?_⟩
    · rw [show 8 * 1 + g = 8 + g by omega, y2 g hg, show A2.1 (45 + 1) g = _ from (x2 g hg).1, ← hA (t + 2) g (by unfold iv_pA; omega), z2, hB 80 g (by unfold iv_pB; omega) (by omega)]
    · rw [show A2.1 (45 + 2) g = _ from (x2 g hg).2, hw, ← z3, hA (t + 3) g (by unfold iv_pA; omega)]
    · rw [x1.2.2.2.1] at z
      exact absurd (z ▸ nI_pos (show g < 2 ^ 31 by omega)) (by decide)
    · rw [x1.2.1, y1.2]; exact ⟨fun z => absurd z (rl_bit0 g), fun z => absurd z.2 (rl_bit0 g)⟩
    · rw [x1.2.2.1, ← t5, hA t 6 (by unfold iv_pA; omega)]; exact ⟨fun z => ⟨n4, z⟩, fun z => z.2⟩
  · rw [show 10 * 1 + m = 10 + m by omega, (y3 m hm).1, show A2.1 (45 + 3) m = _ from (x3 m hm).1, ← hA (t + 8) m (by unfold iv_pA; omega), (d2 m hm).2.2.1, hB 86 m (by unfold iv_pB; omega) (by omega)]
  · rw [show 10 * 1 + m = 10 + m by omega, (y3 m hm).2.1]; exact (x3 m hm).2.1
  · rw [show 10 * 1 + m = 10 + m by omega, (y3 m hm).2.2]; exact (x3 m hm).2.2
  · obtain ⟨z1, z2, z3, z4, z5, z6, z7⟩ := d1 g hg
    obtain ⟨u, u1, u2, u3⟩ := z7
    exact ⟨u, u1, u2, by rw [show A2.1 (45 + 1) g = _ from (x2 g hg).1, ← hA (t + 2) g (by unfold iv_pA; omega)]; exact u3⟩
  · have := md_damp_w n1 b45 (show B2.1 94 1 = nI 0 from y1.1)
    rw [this]
    exact md_wet_cg (fun q k z => hB q k (by unfold iv_pB; omega) (by omega))
theorem wd_ten {A B : fm_M} {t nf nm kd km f kn z d : Nat} (h : iv_all A B t nf nm kd km) (hf : f < nf) (hk : kn ≤ km) (hd : d ≤ 100) (hr : ∀ A1 B1 : fm_M, (A1.1 63 2 = A.1 63 2 ∧ A1.1 63 3 = A.1 63 3) → (B1.1 76 55 = B.1 76 55 ∧ B1.1 76 56 = B.1 76 56) → F_X4_reach A1 = some (nI kn, A1) ∧ F_X10_knownMany B1 = some (nI kn, B1)) (hs : wd_s A B z kn) (hdue : ∀ j, j < kn → F_X4_tells (nI j) A = some (1, A) → ∃ g v : Nat, g < nm ∧ A.1 65 j = nI g ∧ A.1 (t + 8) g = nI v ∧ v < d) : ∀ (m i fa fb : Nat) (acc : Int32) (A1 B1 : fm_M), i + m = 10 → m < fa → m < fb → ag iv_pA A A1 → A1.1 63 4 = A.1 63 4 → (∀ q k, iv_pB q k → (q ≠ 76 ∨ k ≠ 46) → B1.1 q k = B.1 q k) → (∀ j, j < kn → B1.1 109 j = B.1 109 j) → B1.1 76 46 = nI f → ∃ (r x y : Int32) (A2 B2 : fm_M), G_X9_widths_34 fa (nI f) (nI d) acc (nI i) A1 = some ((r, x), A2) ∧ G_X10_widths_149 fb (nI f) (nI d - 1) acc (nI i) B1 = some ((r, y), B2) ∧ ag iv_pA A A2 ∧ (∀ q k, iv_pB q k → (q ≠ 76 ∨ k ≠ 46) → B2.1 q k = B.1 q k) := by
  have ht := fm_td (iv_tt h)
  have hnf := (iv_nf h).1
  have hnm := (iv_nm h).1
  intro m
  induction m with
  | zero =>
    intro i fa fb acc A1 B1 hi hfa hfb aA a4 aB b9 b46
    obtain ⟨fa, rfl⟩ : ∃ z, fa = z + 1 := ⟨fa - 1, by omega⟩
    obtain ⟨fb, rfl⟩ : ∃ z, fb = z + 1 := ⟨fb - 1, by omega⟩
    have : i = 10 := by omega
    subst this
    rw [G_X9_widths_34, if_pos (by decide), G_X10_widths_149, if_pos (by decide)]
    exact ⟨acc, _, _, A1, B1, rfl, rfl, aA, aB⟩
  | succ m ih =>
    intro i fa fb acc A1 B1 hi hfa hfb aA a4 aB b9 b46
    obtain ⟨fa, rfl⟩ : ∃ z, fa = z + 1 := ⟨fa - 1, by omega⟩
    obtain ⟨fb, rfl⟩ : ∃ z, fb = z + 1 := ⟨fb - 1, by omega⟩
    have t1 : Int32.toNatClampNeg (A1.1 0 1) = t := by rw [aA 0 1 (by unfold iv_pA; omega)]; exact iv_t h
    obtain ⟨a1, ⟨bw, -⟩, -⟩ := id h.2.2.2.1
    have hw1 : rl_w A1 B t := rl_w_cg bw (fun q k y => aA q k (by unfold iv_pA; omega)) (fun _ _ _ => rfl)
    obtain ⟨A2, e1, e2, e3, e4, e5⟩ := cl_begin (p := 45) rfl (iv_tt h) hw1
    generalize hA3 : fm_up A2 47 f (10 * nI i) = A3
    have f3 : ∀ q k, (q ≠ 47 ∨ k ≠ f) → A3.1 q k = A2.1 q k := fun q k y => by rw [← hA3, fm_up_ne y]
    have g3 : A3.1 47 f = 10 * nI i := by rw [← hA3, fm_up_get]
    have aA3 : ∀ q k, iv_pA q k → A3.1 q k = A.1 q k := fun q k y => by rw [f3 q k (by unfold iv_pA at y; omega), e5 q k (by unfold iv_pA at y; omega), aA q k y]
    generalize hB2 : fm_up B1 76 47 (10 * nI i) = B2
    have f2 : ∀ q k, (q ≠ 76 ∨ k ≠ 47) → B2.1 q k = B1.1 q k := fun q k y => by rw [← hB2, fm_up_ne y]
    have g2 : B2.1 76 47 = 10 * nI i := by rw [← hB2, fm_up_get]
    have aB2 : ∀ q k, iv_pB q k → (q ≠ 76 ∨ k ≠ 46) → B2.1 q k = B.1 q k := fun q k y w => by rw [f2 q k (by unfold iv_pB at y; omega), aB q k y w]
    obtain ⟨B3, k1, k2, k3, k4, k5, k6⟩ := md_starts (B := B2) (c := 1) (nf := nf) (nm := nm) (by omega) hnf hnm (by rw [aB2 78 0 (by unfold iv_pB; omega) (by omega)]; exact (iv_nf h).2.2) (by rw [aB2 78 1 (by unfold iv_pB; omega) (by omega)]; exact (iv_nm h).2.2)
    have aB3 : ∀ q k, iv_pB q k → (q ≠ 76 ∨ k ≠ 46) → B3.1 q k = B.1 q k := fun q k y w => by rw [k6 q k (by unfold iv_pB at y; unfold md_cc; omega), aB2 q k y w]
    obtain ⟨r1, r2, r3, r4, r5, r6, r7⟩ := wd_rl (A2 := A3) (B2 := B3) (x := 10 * nI i) h hf (by rw [k6 _ _ (by unfold md_cc; omega), f2 _ _ (by omega)]; exact b46) (by rw [k6 _ _ (by unfold md_cc; omega)]; exact g2) aB3 ⟨by rw [f3 _ _ (by omega)]; exact e2.1, by rw [f3 _ _ (by omega)]; exact e2.2.2.2.2.1, by rw [f3 _ _ (by omega), ← aA t 6 (by unfold iv_pA; omega)]; exact e2.2.2.2.2.2.1, by rw [f3 _ _ (by omega)]; exact e2.2.2.2.2.2.2.1, by rw [f3 _ _ (by omega)]; exact e2.2.2.2.2.2.2.2⟩ (fun g hg => ⟨by rw [f3 _ _ (by omega), show A2.1 46 g = _ from (e3 g (by omega)).1, aA _ _ (by unfold iv_pA; omega)], by
      by_cases c : g = f
      · rw [if_pos c, c]; exact g3
      · rw [if_neg c, f3 _ _ (by omega), show A2.1 47 g = _ from (e3 g (by omega)).2, aA _ _ (by unfold iv_pA; omega)]⟩) (fun m hm => ⟨by rw [f3 _ _ (by omega), show A2.1 48 m = _ from (e4 m (by omega)).1, aA _ _ (by unfold iv_pA; omega)], by rw [f3 _ _ (by omega)]; exact (e4 m (by omega)).2.1, by rw [f3 _ _ (by omega)]; exact (e4 m (by omega)).2.2⟩) aA3 ⟨k2.1, k2.2.2.2⟩ (fun g hg => by
        have := k3 g hg
        rw [show 8 * 1 + g = 8 + g by omega] at this
        rw [this, aB2 80 g (by unfold iv_pB; omega) (by omega)]) (fun m hm => by
        have q1 := k4 m hm
        have q2 := k5 m (by omega)
        rw [show 10 * 1 + m = 10 + m by omega] at q1 q2
        exact ⟨by rw [q1, aB2 86 m (by unfold iv_pB; omega) (by omega)], q2.1, q2.2⟩)
    have r8 : A3.1 45 1 = md_damp B3 1 := by rw [r7, f3 _ _ (by omega)]; exact e2.2.1
    have r9 : B3.1 94 1 = nI 0 := k2.1
    obtain ⟨A4, B4, s1, s2, s3, s4, s5, s6, s7, s8, s9⟩ := rl_days1 (n := d) (by omega) d 0 fm_fuel fm_fuel 0 A3 B3 r1 r2 r3 r4 r8 r5 r6 r9 (by omega) (by omega) (by unfold fm_fuel; omega) (by unfold fm_fuel; omega)
    obtain ⟨-, u2⟩ := st_days (n := d) (by omega) d 0 fm_fuel 0 A3 B3 A4 _ r1 r2 r3 r4 r8 r5 r6 r9 (by omega) (by omega) (by unfold fm_fuel; omega) s1
    have pd : F_X7_passDays 45 t (nI d) A3 = some ((), A4) := by rw [F_X7_passDays, fm_gd_t (show fm_isSt 45 = true from rfl), fm_gd_t (iv_tt h), show G_X7_passDays_2 fm_fuel 45 t (nI d) 0 A3 = _ from s1, fm_bd_s]
    have go : F_X10_goesOn (nI d) B3 = some ((), B4) := by rw [F_X10_goesOn, show G_X10_goesOn_2 fm_fuel (nI d) 0 B3 = _ from s2, fm_bd_s]
    have aA4 : ag iv_pA A A4 := fun q k y => by rw [fr_u (fr_X7_passDays 45 t (nI d) A3) pd q k (by unfold iv_pA at y; simp only [fm_nW, and_true]; omega), aA3 q k y]
    have a44 : A4.1 63 4 = A.1 63 4 := by rw [fr_u (fr_X7_passDays 45 t (nI d) A3) pd 63 4 (by simp only [fm_nW, and_true]; omega), f3 _ _ (by omega), e5 _ _ (by omega), a4]
    have aB4 : ∀ q k, iv_pB q k → (q ≠ 76 ∨ k ≠ 46) → B4.1 q k = B.1 q k := fun q k y w => by rw [s8 q k (by unfold iv_pB at y; unfold md_k; omega), aB3 q k y w]
    have b94 : ∀ j, j < kn → B4.1 109 j = B.1 109 j := fun j hj => by rw [s8 _ _ (by unfold md_k; omega), k6 _ _ (by unfold md_cc; omega), f2 _ _ (by omega), b9 j hj]
    have b464 : B4.1 76 46 = nI f := by rw [s8 _ _ (by unfold md_k; omega), k6 _ _ (by unfold md_cc; omega), f2 _ _ (by omega)]; exact b46
    have mn4 : iv_mn A4 B4 nm km := iv_mn_cg h.2.2.2.2.2.2.2.2.1 (fun q k y => aA4 q k (by unfold iv_pA; omega)) (fun q k y => aB4 q k (by unfold iv_pB; omega) (by omega))
    have s4' : wd_s A4 B4 z kn := ⟨hs.1, by rw [a44]; exact hs.2.1, fun j hj => by rw [b94 j hj]; exact hs.2.2 j hj⟩
    obtain ⟨q1, q2⟩ := hr A4 B4 ⟨aA4 _ _ (by unfold iv_pA; omega), aA4 _ _ (by unfold iv_pA; omega)⟩ ⟨aB4 _ _ (by unfold iv_pB; omega) (by omega), aB4 _ _ (by unfold iv_pB; omega) (by omega)⟩
    have tl : ∀ j, j < kn → F_X4_tells (nI j) A4 = some (1, A4) → F_X4_tells (nI j) A = some (1, A) := by
      intro j hj e
      have k24 := mn4.1
      rw [F_X4_tells, fm_gd_t (nu_inb (by omega) (by omega)), F_X9_bitOf, fm_bd_s, nI_clamp (by omega)] at e ⊢
      rw [aA4 64 j (by unfold iv_pA; omega), a44] at e
      by_cases c : A.1 64 j = 2
      · rw [if_pos c] at e; cases e
      · rw [if_neg c] at e ⊢
        by_cases c2 : (A.1 63 4 >>> (nI j &&& 31)) &&& 1 = 0
        · rw [if_pos c2]
        · rw [if_neg c2] at e; cases e
    obtain ⟨v, v1, v2⟩ := wd_agree mn4 hnm hk s4' q1 q2 (fun m hm => (s3.2.2.2 m hm).2.2.1) (fun j hj e => by
      obtain ⟨g, w, g1, g2, g3', g4⟩ := hdue j hj (tl j hj e)
      refine ⟨g, g1, by rw [aA4 _ _ (by unfold iv_pA; have := mn4.1; omega)]; exact g2, ?_⟩
      have ns := u2 g w g1 (by rw [show A3.1 (45 + 3) g = A2.1 48 g from f3 _ _ (by omega), show A2.1 48 g = _ from (e4 g (by omega)).1, aA _ _ (by unfold iv_pA; omega)]; exact g3') (by omega) (by omega)
      rcases s4 g g1 with y | y
      · exact absurd y.1 ns
      · exact y.1) (nI d - 1)
    have ed : (nI d - 1 + 1 : Int32) = nI d := Int32.sub_add_cancel _ _
    have fw : F_X10_fitsWidth (nI d - 1) B2 = some (v, B4) := by
      rw [F_X10_fitsWidth, show F_X10_starts 1 B2 = _ from k1, fm_bd_s, ed, go, fm_bd_s]
      exact v2
    rw [G_X9_widths_34, if_neg (show ¬ (10 : Int32) ≤ nI i from nI_ge (b := 10) (by omega) (by omega)), G_X10_widths_149, if_neg (show ¬ (10 : Int32) ≤ nI i from nI_ge (b := 10) (by omega) (by omega))]
    simp only [fm_lt]
    have t3 : Int32.toNatClampNeg (A3.1 0 1) = t := by rw [aA3 0 1 (by unfold iv_pA; omega)]; exact iv_t h
    rw [t1, fm_gd_t (iv_tt h), e1, fm_bd_s, fm_gd_t (nu_inb (by omega) (by omega)), nI_clamp (by omega), hA3, t3, fm_gd_t (iv_tt h), pd, fm_bd_s, v1, fm_bd_s, hB2, fw, fm_bd_s, nI_1]
    by_cases c : v = 0
    · rw [if_pos c, if_pos c, Int32.or_zero]; exact ih (i + 1) fa fb acc A4 B4 (by omega) (by omega) (by omega) aA4 a44 aB4 b94 b464
    · rw [if_neg c, if_neg c]; exact ih (i + 1) fa fb _ A4 B4 (by omega) (by omega) (by omega) aA4 a44 aB4 b94 b464
theorem pu_widths {A B : fm_M} {t nf nm kd km : Nat} (h : iv_all A B t nf nm kd km) (a1 : Int32) : pu t nf nm kd km (F_X9_widths a1 A) (F_X10_widths a1 B) := by
  have h0 := iv_thr h 0
  rw [F_X9_widths, F_X10_widths]
  simp only [fm_lt]
  generalize fm_up B 76 0 0 = B1 at *
  have hnm := (iv_nm h0).1
  rcases iv_isFork h0 a1 with ⟨e1, e2⟩ | ⟨f, hf, hf8, rfl, e1, e2⟩
  · rw [e1, e2, fm_bd_s, fm_bd_s, if_pos rfl, if_pos rfl]; exact rR_ret h0 rfl
  rw [e1, e2, fm_bd_s, fm_bd_s, if_neg n10, if_neg n10]
  obtain ⟨-, -, -, td, -, -, -, -, mn, md1⟩ := id h0
  obtain ⟨kn, hk, k24, hr⟩ := wd_kn mn
  have hrB : ∀ B2 : fm_M, (∀ q k, q ≠ 109 → B2.1 q k = B1.1 q k) → F_X10_knownMany B2 = some (nI kn, B2) := fun B2 fB => (hr A B2 ⟨rfl, rfl⟩ ⟨fB _ _ (by omega), fB _ _ (by omega)⟩).2
  obtain ⟨x, B2, c1, c2, c3⟩ := wd_clr k24 hrB (nI f) (-1) kn 0 fm_fuel B1 (by omega) (by unfold fm_fuel; omega) (fun _ _ _ => rfl) (fun j hj => by omega)
  have hrA : F_X4_reach (fm_up A 63 4 0) = some (nI kn, fm_up A 63 4 0) := (hr (fm_up A 63 4 0) B1 ⟨fm_up_ne (by omega), fm_up_ne (by omega)⟩ ⟨rfl, rfl⟩).1
  obtain ⟨z, x2, y2, A3, B3, s1, s2, s3, s4, s5⟩ := wd_sift mn hk (nI f) (-1) kn fm_fuel fm_fuel 0 (fm_up A 63 4 0) B2 (Nat.le_refl _) (by unfold fm_fuel; omega) (by unfold fm_fuel; omega) (fun q k y => fm_up_ne y) c2 ⟨by omega, fm_up_get, fun j hj => by rw [c3 j hj, Nat.zero_testBit]; rfl⟩
  have aA : ag iv_pA A A3 := fun q k y => s3 q k (by unfold iv_pA at y; omega)
  have aB : ag iv_pB B1 B3 := fun q k y => s4 q k (by unfold iv_pB at y; omega)
  have h3 := iv_cg h0 aA aB
  obtain ⟨r1, r2⟩ := hr A3 B3 ⟨aA _ _ (by unfold iv_pA; omega), aA _ _ (by unfold iv_pA; omega)⟩ ⟨aB _ _ (by unfold iv_pB; omega), aB _ _ (by unfold iv_pB; omega)⟩
  obtain ⟨d, x3, y3, d1, d2, d3, d4, d5⟩ := wd_days h3.2.2.2.2.2.2.2.2.1 hnm hk s5 r1 r2 (fun m hm => (h3.2.2.2.1.2.2.2.2.2 m hm).2.2) (nI f) kn 0 fm_fuel fm_fuel 0 (by omega) (by unfold fm_fuel; omega) (by unfold fm_fuel; omega) (by omega)
  obtain ⟨r, x4, y4, A5, B5, t1, t2, t3, t4⟩ := wd_ten h3 hf hk d1 (fun A6 B6 a b => hr A6 B6 ⟨by rw [a.1]; exact aA _ _ (by unfold iv_pA; omega), by rw [a.2]; exact aA _ _ (by unfold iv_pA; omega)⟩ ⟨by rw [b.1]; exact aB _ _ (by unfold iv_pB; omega), by rw [b.2]; exact aB _ _ (by unfold iv_pB; omega)⟩) s5 (fun j hj => d5 j (by omega) hj) 10 0 fm_fuel fm_fuel 0 A3 (fm_up B3 76 46 (nI f)) (by omega) (by unfold fm_fuel; omega) (by unfold fm_fuel; omega) ag_rf rfl (fun q k y w => fm_up_ne w) (fun j hj => fm_up_ne (by omega)) fm_up_get
  have s1' : F_X4_sift A = some ((), A3) := by
    rw [F_X4_sift, fm_lt, hrA, fm_bd_s, fm_lt, s1, fm_bd_s]
  rw [s1', fm_bd_s, iv_t h3, fm_gd_t (iv_tt h), F_X4_daysToHear, fm_gd_t (iv_tt h), show G_X4_daysToHear_4 fm_fuel t 0 0 A3 = _ from d3, fm_bd_s, fm_bd_s, show G_X9_widths_34 fm_fuel (nI f) (nI d) 0 0 A3 = _ from t1, fm_bd_s, show G_X10_widths_19 fm_fuel (nI f) (-1) 0 B1 = _ from c1, fm_bd_s, hrB B2 c2, fm_bd_s, s2, fm_bd_s, show G_X10_widths_90 fm_fuel (nI f) (-1) 0 B3 = _ from d4, fm_bd_s, show G_X10_widths_149 fm_fuel (nI f) (nI d - 1) 0 0 (fm_up B3 76 46 (nI f)) = _ from t2, fm_bd_s]
  refine rR_ret (iv_cg h3 t3 (fun q k y => ?_)) rfl
  by_cases w : q = 76 ∧ k = 46
  · rw [w.1, w.2, fm_up_get]
    exact (h3.2.2.2.2.2.2.2.2.2.2.2.2).symm
  · rw [fm_up_ne (by omega), t4 q k y (by omega)]
