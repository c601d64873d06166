/-! undone; days; what comes of days ahead; how near a fork may be filed -/
theorem iv_undo {A B A3 B3 : fm_M} {t nf nm k km : Nat} (h0 : iv_all A B t nf nm (k + 1) km) (hA : ∀ q j, (q ≠ 38 ∨ j < 2 ∨ 4 < j) → q ≠ 39 → q ≠ 41 → (q ≠ 59 ∨ j ≠ 3) → A3.1 q j = A.1 q j) (a59 : A3.1 59 3 = nI k) (b42 : B3.1 76 42 = nI k) (ec : iv_ec B B3 (3 + k) 0) (hB : ∀ q j, ¬ md_cc 0 q j → (q ≠ 76 ∨ j ≠ 42) → B3.1 q j = B.1 q j)
    (p2 : A3.1 38 2 = B.1 95 (3 + k)) (p3 : A3.1 38 3 = B.1 96 (3 + k)) (p4 : A3.1 38 4 = B.1 97 (3 + k)) (p6 : ∀ f, f < nf → A3.1 39 f = B.1 98 (8 * (3 + k) + f)) (p7 : ∀ m, m < nm → A3.1 41 m = B.1 99 (10 * (3 + k) + m)) : iv_all A3 B3 t nf nm k km := by
  have hnf := (iv_nf h0).1
  have hnm := (iv_nm h0).1
  have ht := fm_td (iv_tt h0)
  obtain ⟨⟨s1, s2, s3, s4⟩, s5, s6⟩ := id h0.2.2.2.2.1
  obtain ⟨⟨o1, o2, o3⟩, o4, o5, o6, ⟨d, o7, o8, o9⟩, o10⟩ := id h0.2.2.2.2.2.1
  obtain ⟨d1, d2, d3, d4⟩ := id h0.2.2.2.2.2.2.2.1
  have dl := d4 k (by omega)
  rw [if_pos rfl] at dl
  obtain ⟨l1, l2, l3, l4, -⟩ := dl
  obtain ⟨⟨b1, b2, b3, b4⟩, b5, b6⟩ := id ec
  refine iv_up h0 (fun q j z1 z2 z3 => hA q j (by omega) (by omega) (by omega) (by omega)) (fun q j z1 z2 z3 => hB q j (by unfold md_cc; omega) (by omega)) (fun _ => ⟨⟨?_, by rw [p2, b2], by rw [p3, b3], by rw [p4, b4]⟩, fun f hf => by rw [b5 f (by omega)]; exact p6 f hf, fun m hm => ⟨by rw [(b6 m (by omega)).1]; exact p7 m hm, ?_, ?_⟩⟩) (fun _ => ⟨⟨?_, ?_, ?_⟩, fun f hf => ?_, ?_, fun f hf => ?_, ⟨d, o7, ?_, ?_⟩, ?_⟩) (fun _ => ?_) (fun _ => ⟨by omega, a59, b42, fun j hj => ?_⟩) ?_
  · rw [hA _ _ (by omega) (by omega) (by omega) (by omega), b1, l1]; exact s1
  · rw [hA (38 + 4) _ (by omega) (by omega) (by omega) (by omega), (b6 m (by omega)).2.1, (l4 m hm).1]; exact (s6 m hm).2.1
  · rw [hA (38 + 5) _ (by omega) (by omega) (by omega) (by omega), (b6 m (by omega)).2.2, (l4 m hm).2]; exact (s6 m hm).2.2
  · rw [hA _ _ (by omega) (by omega) (by omega) (by omega), hA _ _ (by omega) (by omega) (by omega) (by omega)]; exact o1
  · rw [hA _ _ (by omega) (by omega) (by omega) (by omega)]; exact o2
  · rw [hA _ _ (by omega) (by omega) (by omega) (by omega)]; exact o3
  · rw [hA _ _ (by omega) (by omega) (by omega) (by omega), hA _ _ (by omega) (by omega) (by omega) (by omega)]; exact o4 f hf
  · exact rl_v_cg o5 (fun q k z => hA q k (by omega) (by omega) (by omega) (by omega))
  · rw [show 38 + 1 = 39 from rfl, p6 f hf]; exact l3 f hf
  · rw [hA _ _ (by omega) (by omega) (by omega) (by omega)]; exact o8
  · rw [hA _ _ (by omega) (by omega) (by omega) (by omega), o9]
    exact (md_wet_cg (fun q k z => hB q k (by unfold md_cc; omega) (by omega))).symm
  · rw [p4]; exact l2
  · exact iv_im_cg h0.2.2.2.2.2.2.1 hnf hnm (fun q k z => hA q k (by omega) (by omega) (by omega) (by omega)) (fun q k z => hB q k (by unfold md_cc at z ⊢; omega) (by unfold md_cc at z; omega))
  · have o := d4 j (by omega)
    rw [if_neg (by omega)] at o
    refine iv_dl_cg o hnf hnm (hA _ _ (by omega) (by omega) (by omega) (by omega)) (hA _ _ (by omega) (by omega) (by omega) (by omega)) (hA _ _ (by omega) (by omega) (by omega) (by omega)) (hA _ _ (by omega) (by omega) (by omega) (by omega)) (iv_ec_cg (fun q k z => hB q k (md_cc_ne z (by omega)) (by unfold md_cc at z; omega))) ?_
    by_cases z : j + 1 = k
    · rw [if_pos z, z]; exact ec
    · rw [if_neg z]; exact iv_ec_cg (fun q k z => hB q k (md_cc_ne z (by omega)) (by unfold md_cc at z; omega))
  · exact iv_mn_cg h0.2.2.2.2.2.2.2.2.1 (fun q k z => hA q k (by omega) (by omega) (by omega) (by omega)) (fun q k z => hB q k (by unfold md_cc; omega) (by omega))
theorem pI_undo {A B : fm_M} {t nf nm kd km : Nat} (h : iv_all A B t nf nm kd km) : pI (F_X9_undo A) (F_X10_undo B) := by
  have h0 := iv_thr h 0
  rw [F_X9_undo, F_X10_undo]
  simp only [fm_lt]
  generalize fm_up B 76 0 0 = B1 at *
  have hnf := (iv_nf h0).1
  have hnm := (iv_nm h0).1
  obtain ⟨⟨s1, s2, s3, s4⟩, o10, w1, w2⟩ := iv_now h0
  obtain ⟨d1, d2, d3, d4⟩ := id h0.2.2.2.2.2.2.2.1
  rw [d2, d3]
  by_cases hk : kd = 0
  · rw [if_pos (by rw [hk]; decide), if_pos (by rw [hk]; rfl)]; exact pu_I (rR_ret h0 rfl)
  obtain ⟨k, rfl⟩ : ∃ z, kd = z + 1 := ⟨kd - 1, by omega⟩
  rw [if_neg (show ¬ nI (k + 1) < 1 from nI_nlt (a := k + 1) (b := 1) (by omega) (by omega)), if_pos (show nI (k + 1) ≤ 20 from nI_le (b := 20) (by omega) (by omega)), if_neg (nI_ne0 (by omega) (by omega)), nI_pred]
  have dl := d4 k (by omega)
  rw [if_pos rfl] at dl
  obtain ⟨l1, l2, l3, l4, l5⟩ := dl
  have ik : Int32.toNatClampNeg (nI k) = k := nI_clamp (by omega)
  have bk : fm_inb (nI k) 20 = true := nu_inb (by omega) (by omega)
  have e3 : (fm_up A 59 3 (nI k)).1 59 3 = nI k := fm_up_get
  have e42 : (fm_up B1 76 42 (nI k)).1 76 42 = nI k := fm_up_get
  obtain ⟨B2, y1, y2, y3, y4, y5⟩ := md_copy (B := fm_up B1 76 42 (nI k)) (a := 0) (b := 3 + k) (by omega) (by omega) (by omega)
  have ex : (3 : Int32) + nI k = nI (3 + k) := nI_add 3 k
  rw [e3, fm_gd_t bk, fm_gd_t bk, fm_gd_t bk, ik, e42, ex, show F_X10_copies 0 (nI (3 + k)) (fm_up B1 76 42 (nI k)) = _ from y1, fm_bd_s]
  have b42 : B2.1 76 42 = nI k := by rw [y5 76 42 (by unfold md_cc; omega), fm_up_get]
  have ec : iv_ec B1 B2 (3 + k) 0 := iv_ec_tr (iv_ec_cg (fun q j z => fm_up_ne (by unfold md_cc at z; omega))) (md_ec_copy ⟨y2, y3, y4⟩)
  have hB : ∀ q j, ¬ md_cc 0 q j → (q ≠ 76 ∨ j ≠ 42) → B2.1 q j = B1.1 q j := fun q j z y => by rw [y5 q j z, fm_up_ne y]
  have f60 : (fm_up A 59 3 (nI k)).1 60 k = A.1 60 k := fm_up_ne (by omega)
  have f61 : (fm_up A 59 3 (nI k)).1 61 k = A.1 61 k := fm_up_ne (by omega)
  have f62 : (fm_up A 59 3 (nI k)).1 62 k = A.1 62 k := fm_up_ne (by omega)
  have g4 : (fm_up A 59 3 (nI k)).1 38 4 = A.1 38 4 := fm_up_ne (by omega)
  have g2 : (fm_up A 59 3 (nI k)).1 38 2 = A.1 38 2 := fm_up_ne (by omega)
  have g01 : (fm_up A 59 3 (nI k)).1 0 1 = A.1 0 1 := fm_up_ne (by omega)
  have n8 : ∀ f, 8 * 0 + f = f := fun f => by omega
  have n10 : ∀ f, 10 * 0 + f = f := fun f => by omega
  rw [f60, f61, f62, b42]
  rcases l5 with ⟨z0, z1, z2, z3, z4, z5⟩ | ⟨z0, z1, z2, z3, ⟨g, hg, z6, z7, z8⟩, z5⟩ | ⟨z0, z1, z2, z3, z4, ⟨g, hg, z6, z7, z8⟩⟩ | ⟨z0, z1, z2, z3, z4, z5⟩
  · rw [z0, if_pos rfl, g4]
    have hA : ∀ q j, (q ≠ 38 ∨ j ≠ 4) → (q ≠ 59 ∨ j ≠ 3) → (fm_up (fm_up A 59 3 (nI k)) 38 4 (A.1 38 4 ^^^ 1 <<< (A.1 61 k &&& 31))).1 q j = A.1 q j := fun q j z y => by rw [fm_up_ne z, fm_up_ne y]
    refine ⟨_, _, _, _, rfl, rfl, ?_, t, nf, nm, k, km, iv_undo h0 (fun q j y1 y2 y3 y4 => hA q j (by omega) y4) ?_ b42 ec hB ?_ ?_ ?_ (fun f hf => ?_) (fun m hm => ?_)⟩
    · rw [fm_up_ne (by omega), fm_up_get]
    · rw [fm_up_ne (by omega), fm_up_get]
    · rw [hA _ _ (by omega) (by omega), z1]; exact s2
    · rw [hA _ _ (by omega) (by omega), z2]; exact s3
    · rw [fm_up_get, z3, s4]
    · rw [hA _ _ (by omega) (by omega), z4 f hf, n8]; exact (w1 f hf).1
    · rw [hA _ _ (by omega) (by omega), z5 m hm, n10]; exact (w2 m hm).1
  · have b8 : fm_inb (nI g) 8 = true := nu_inb (by omega) (by omega)
    have ig : Int32.toNatClampNeg (nI g) = g := nI_clamp (by omega)
    have ht := fm_td (iv_tt h0)
    have gt : (fm_up A 59 3 (nI k)).1 t 15 = A.1 t 15 := fm_up_ne (by omega)
    rw [z0, if_neg (by decide), if_pos rfl, g01, iv_t h0, fm_gd_t (iv_tt h0), gt, z6, F_X7_filed, fm_gd_t (show fm_isSt 38 = true from rfl), fm_gd_t b8, fm_gd_t b8, ig]
    simp only [fm_lt, fm_bd_s]
    generalize hco : -A.1 t 15 * i_abs (A.1 62 k) = cost at *
    have p1 : (fm_up A 59 3 (nI k)).1 (38 + 1) g = A.1 39 g := fm_up_ne (by omega)
    rw [p1]
    have p2 : (fm_up (fm_up A 59 3 (nI k)) (38 + 1) g (A.1 39 g + -A.1 62 k)).1 38 2 = A.1 38 2 := by rw [fm_up_ne (by omega), fm_up_ne (by omega)]
    rw [p2]
    have p3 : (fm_up (fm_up (fm_up A 59 3 (nI k)) (38 + 1) g (A.1 39 g + -A.1 62 k)) 38 2 (A.1 38 2 - cost)).1 38 3 = A.1 38 3 := by rw [fm_up_ne (by omega), fm_up_ne (by omega), fm_up_ne (by omega)]
    rw [p3]
    generalize hA3 : fm_up (fm_up (fm_up (fm_up A 59 3 (nI k)) (38 + 1) g (A.1 39 g + -A.1 62 k)) 38 2 (A.1 38 2 - cost)) 38 3 (A.1 38 3 + cost) = A3
    have hA : ∀ q j, (q ≠ 38 ∨ j ≠ 2) → (q ≠ 38 ∨ j ≠ 3) → (q ≠ 39 ∨ j ≠ g) → (q ≠ 59 ∨ j ≠ 3) → A3.1 q j = A.1 q j := fun q j x1 x2 x3 x4 => by rw [← hA3, fm_up_ne x2, fm_up_ne x1, fm_up_ne x3, fm_up_ne x4]
    have q59 : A3.1 59 3 = nI k := by rw [← hA3, fm_up_ne (by omega), fm_up_ne (by omega), fm_up_ne (by omega), fm_up_get]
    refine ⟨_, _, _, _, rfl, rfl, q59, t, nf, nm, k, km, iv_undo h0 (fun q j y1 y2 y3 y4 => hA q j (by omega) (by omega) (by omega) y4) q59 b42 ec hB ?_ ?_ ?_ (fun f hf => ?_) (fun m hm => ?_)⟩
    · rw [z1, ← s2, ← hA3, fm_up_ne (by omega), fm_up_get]
    · rw [z2, ← s3, ← hA3, fm_up_get]
    · rw [hA _ _ (by omega) (by omega) (by omega) (by omega), z3]; exact s4
    · by_cases y : f = g
      · rw [y, z7, n8, ← (w1 g hg).1, ← hA3, fm_up_ne (by omega), fm_up_ne (by omega), fm_up_get]
      · rw [hA _ _ (by omega) (by omega) (by omega) (by omega), z8 f hf y, n8]; exact (w1 f hf).1
    · rw [hA _ _ (by omega) (by omega) (by omega) (by omega), z5 m hm, n10]; exact (w2 m hm).1
  · have b10 : fm_inb (nI g) 10 = true := nu_inb (by omega) (by omega)
    have ig : Int32.toNatClampNeg (nI g) = g := nI_clamp (by omega)
    rw [z0, if_neg (by decide), if_neg (by decide), if_pos rfl, z6, fm_gd_t b10, ig]
    have hA : ∀ q j, (q ≠ 41 ∨ j ≠ g) → (q ≠ 59 ∨ j ≠ 3) → (fm_up (fm_up A 59 3 (nI k)) 41 g (A.1 62 k)).1 q j = A.1 q j := fun q j z y => by rw [fm_up_ne z, fm_up_ne y]
    refine ⟨_, _, _, _, rfl, rfl, ?_, t, nf, nm, k, km, iv_undo h0 (fun q j y1 y2 y3 y4 => hA q j (by omega) y4) ?_ b42 ec hB ?_ ?_ ?_ (fun f hf => ?_) (fun m hm => ?_)⟩
    · rw [fm_up_ne (by omega), fm_up_get]
    · rw [fm_up_ne (by omega), fm_up_get]
    · rw [hA _ _ (by omega) (by omega), z1]; exact s2
    · rw [hA _ _ (by omega) (by omega), z2]; exact s3
    · rw [hA _ _ (by omega) (by omega), z3]; exact s4
    · rw [hA _ _ (by omega) (by omega), z4 f hf, n8]; exact (w1 f hf).1
    · by_cases y : m = g
      · rw [y, fm_up_get, z7]
      · rw [hA _ _ (by omega) (by omega), z8 m hm y, n10]; exact (w2 m hm).1
  · rw [z0, if_neg (by decide), if_neg (by decide), if_neg (by decide), g2]
    have hA : ∀ q j, (q ≠ 38 ∨ j ≠ 2) → (q ≠ 59 ∨ j ≠ 3) → (fm_up (fm_up A 59 3 (nI k)) 38 2 (A.1 38 2 - A.1 62 k)).1 q j = A.1 q j := fun q j z y => by rw [fm_up_ne z, fm_up_ne y]
    refine ⟨_, _, _, _, rfl, rfl, ?_, t, nf, nm, k, km, iv_undo h0 (fun q j y1 y2 y3 y4 => hA q j (by omega) y4) ?_ b42 ec hB ?_ ?_ ?_ (fun f hf => ?_) (fun m hm => ?_)⟩
    · rw [fm_up_ne (by omega), fm_up_get]
    · rw [fm_up_ne (by omega), fm_up_get]
    · rw [fm_up_get, z1, s2]
    · rw [hA _ _ (by omega) (by omega), z2]; exact s3
    · rw [hA _ _ (by omega) (by omega), z3]; exact s4
    · rw [hA _ _ (by omega) (by omega), z4 f hf, n8]; exact (w1 f hf).1
    · rw [hA _ _ (by omega) (by omega), z5 m hm, n10]; exact (w2 m hm).1
/-! days -/
theorem isSpan_ok (a : Int32) : (∀ M, F_X9_isSpan a M = some (0, M)) ∧ (a < 0 ∨ 99 < a) ∨ ∃ j : Nat, j ≤ 99 ∧ a = nI j ∧ ¬ a < 0 ∧ ¬ 99 < a ∧ ∀ M, F_X9_isSpan a M = some (1, M) := by
  by_cases c1 : a < 0
  · exact Or.inl ⟨fun M => by rw [F_X9_isSpan, if_pos c1], Or.inl c1⟩
  by_cases c2 : 99 < a
  · exact Or.inl ⟨fun M => by rw [F_X9_isSpan, if_neg c1, if_pos c2], Or.inr c2⟩
  obtain ⟨j, hj, rfl⟩ := nI_of2 (M := 99) (n := 99) rfl c1 (Int32.not_lt.mp c2)
  exact Or.inr ⟨j, hj, rfl, c1, c2, fun M => by rw [F_X9_isSpan, if_neg c1, if_neg c2]⟩
theorem pI_go {A B : fm_M} {t nf nm kd km : Nat} (h : iv_all A B t nf nm kd km) (a1 : Int32) : pI (F_X9_go a1 A) (F_X10_go a1 B) := by
  have h0 := iv_thr h 0
  rw [F_X9_go, F_X10_go]
  simp only [fm_lt]
  generalize fm_up B 76 0 0 = B1 at *
  have hnf := (iv_nf h0).1
  have hnm := (iv_nm h0).1
  have ht := fm_td (iv_tt h0)
  rcases isSpan_ok a1 with ⟨e1, e2⟩ | ⟨n, hn, rfl, c1, c2, e1⟩
  · rw [e1, fm_bd_s, if_pos rfl]
    by_cases c1 : a1 < 0
    · rw [if_pos c1]; exact pu_I (rR_ret h0 rfl)
    · rw [if_neg c1, if_pos (e2.resolve_left c1)]; exact pu_I (rR_ret h0 rfl)
  obtain ⟨⟨s1, s2, s3, s4⟩, s5, s6⟩ := id h0.2.2.2.2.1
  obtain ⟨⟨o1, o2, o3⟩, o4, o5, o6, ⟨d, o7, o8, o9⟩, o10⟩ := id h0.2.2.2.2.2.1
  rw [e1, fm_bd_s, if_neg n10, if_neg c1, if_neg c2, fm_gd_t (show fm_inb 0 23 = true by decide), ck_0, ← s1, o8, nI_add]
  by_cases c3 : d + n ≤ 9900
  rotate_left
  · rw [if_neg (show ¬ nI (d + n) ≤ 9900 from nI_ge (b := d + n) (a := 9900) (by omega) (by omega)), if_neg (show ¬ nI (d + n) ≤ 9900 from nI_ge (b := d + n) (a := 9900) (by omega) (by omega))]; exact pu_I (rR_ret h0 rfl)
  rw [if_pos (show nI (d + n) ≤ 9900 from nI_le (b := 9900) c3 (by omega)), if_pos (show nI (d + n) ≤ 9900 from nI_le (b := 9900) c3 (by omega))]
  by_cases c4 : n = 0
  · rw [if_pos (by rw [c4]; decide), if_pos (by rw [c4]; decide), J_X10_go_40, c4]
    rw [show G_X10_go_42 fm_fuel (nI 0) 0 B1 = some (0, B1) from by rw [show fm_fuel = 9999 + 1 from rfl, G_X10_go_42, if_pos (by decide)], fm_bd_s, fm_gd_t (by decide), ck_0, ← s1, o8]
    exact pu_I (rR_ret h0 rfl)
  rw [if_neg (nI_nle (by omega) (by omega)), if_neg (nI_nle (by omega) (by omega)), iv_t h0, fm_gd_t (iv_tt h0)]
  have hB1 : ∀ q k, (q ≠ 76 ∨ k ≠ 42) → (fm_up B1 76 42 0).1 q k = B1.1 q k := fun q k z => fm_up_ne z
  have td1 : iv_td A (fm_up B1 76 42 0) t nf nm := iv_td_cg h0.2.2.2.1 (fun _ _ _ _ => rfl) (fun q k a b => hB1 q k (by omega))
  have md1 : iv_md (fm_up B1 76 42 0) := by
    have := h0.2.2.2.2.2.2.2.2.2
    unfold iv_md
    simp (disch := omega) only [hB1]
    exact this
  obtain ⟨x1, x2⟩ := iv_d td1 (iv_st_cg h0.2.2.2.2.1 hnf hnm (fun _ _ _ _ => rfl) (fun q k z => hB1 q k (by unfold md_cc at z; omega))) (iv_so_cg h0.2.2.2.2.2.1 (fun _ _ _ => rfl) (fun q k z => hB1 q k (by omega))) md1 rfl (c := 0) (by omega)
  obtain ⟨A2, B2, y1, y2, y3, y4, y5, y6, y7, y8, y9⟩ := rl_days0 (n := n) (by omega) n 0 fm_fuel fm_fuel d A (fm_up B1 76 42 0) x1 o5 ⟨o6, td1.2.2.2.1.2.2.1⟩ td1.2.1.1 x2 (by rw [md1.1]; decide) md1.2.2.1 (by rw [hB1 _ _ (by omega), ← s1]; exact o8) (by omega) (by omega) (by unfold fm_fuel; omega) (by unfold fm_fuel; omega)
  have pd : F_X7_passDays 38 t (nI n) A = some ((), A2) := by rw [F_X7_passDays, fm_gd_t (show fm_isSt 38 = true from rfl), fm_gd_t (iv_tt h0), show G_X7_passDays_2 fm_fuel 38 t (nI n) 0 A = _ from y1, fm_bd_s]
  have fA : ∀ q k, (q ≠ 38 ∨ (k ≠ 0 ∧ k ≠ 1 ∧ k ≠ 4)) → q ≠ 39 → q ≠ 42 → q ≠ 43 → q ≠ t + 15 → A2.1 q k = A.1 q k := fun q k z1 z2 z3 z4 z5 => fr_u (fr_X7_passDays 38 t (nI n) A) pd q k (by simp only [fm_nW, and_true]; omega)
  have fB : ∀ q k, ¬ md_k 0 q k → (q ≠ 76 ∨ k ≠ 42) → B2.1 q k = B1.1 q k := fun q k z y => by rw [y8 q k z, hB1 q k y]
  rw [pd, fm_bd_s, J_X10_go_40, show G_X10_go_42 fm_fuel (nI n) 0 (fm_up B1 76 42 0) = _ from y2, fm_bd_s, fm_gd_t (by decide), ck_0]
  obtain ⟨⟨r1, r2, r3, r4, r5, r6⟩, r7, r8, r9⟩ := y3
  have hA3 : ∀ q k, (q ≠ 59 ∨ k ≠ 3) → (fm_up A2 59 3 0).1 q k = A2.1 q k := fun q k z => fm_up_ne z
  have fm : iv_md B2 := by
    have := h0.2.2.2.2.2.2.2.2.2
    unfold iv_md
    rw [fB 76 43 (by unfold md_k; omega) (by omega), fB 76 44 (by unfold md_k; omega) (by omega), fB 76 45 (by unfold md_k; omega) (by omega), fB 76 46 (by unfold md_k; omega) (by omega)]
    exact this
  refine ⟨_, _, _, _, rfl, rfl, ?_, t, nf, nm, 0, km, iv_up h0 (fun q k z1 z2 z3 => by rw [hA3 q k (by omega), fA q k (by omega) (by omega) (by omega) (by omega) (by unfold iv_pA at z1; omega)]) (fun q k z1 z2 z3 => fB q k (by unfold md_k; unfold iv_pB at z1; omega) (by omega)) (fun _ => ⟨⟨?_, ?_, ?_, ?_⟩, fun f hf => ?_, fun m hm => ⟨?_, ?_, ?_⟩⟩) (fun _ => ⟨⟨?_, ?_, ?_⟩, fun f hf => ?_, ?_, fun f hf => ?_, ⟨d + n, c3, ?_, ?_⟩, ?_⟩) (fun _ => ?_) (fun _ => ⟨by omega, ?_, ?_, fun j hj => absurd hj (by omega)⟩) ?_⟩
  · rw [hA3 _ _ (by omega)]; exact r6
  · rw [hA3 _ _ (by omega)]; exact r6
  · rw [hA3 _ _ (by omega), fA _ _ (by omega) (by omega) (by omega) (by omega) (by omega), fB 95 0 (by unfold md_k; omega) (by omega)]; exact s2
  · rw [hA3 _ _ (by omega), fA _ _ (by omega) (by omega) (by omega) (by omega) (by omega), fB 96 0 (by unfold md_k; omega) (by omega)]; exact s3
  · rw [hA3 _ _ (by omega), (y9 c4).1, (y9 c4).2]
  · rw [hA3 _ _ (by omega)]; exact (r7 f hf).1
  · rw [hA3 _ _ (by omega)]; exact (r9 m hm).2.1
  · rw [hA3 _ _ (by omega)]; exact (r9 m hm).2.2.1
  · rw [hA3 _ _ (by omega)]; exact (r9 m hm).2.2.2
  · rw [hA3 _ _ (by omega), hA3 _ _ (by omega), fA _ _ (by omega) (by omega) (by omega) (by omega) (by omega), fA t _ (by omega) (by omega) (by omega) (by omega) (by omega)]; exact o1
  · rw [hA3 _ _ (by omega), fA _ _ (by omega) (by omega) (by omega) (by omega) (by omega)]; exact o2
  · rw [hA3 _ _ (by omega), fA _ _ (by omega) (by omega) (by omega) (by omega) (by omega)]; exact o3
  · rw [hA3 _ _ (by omega), hA3 _ _ (by omega), fA _ _ (by omega) (by omega) (by omega) (by omega) (by omega), fA (t + 3) _ (by omega) (by omega) (by omega) (by omega) (by omega)]; exact o4 f hf
  · exact rl_v_cg y4 (fun q k z => hA3 q k (by omega))
  · rw [hA3 _ _ (by omega)]; exact y5.1 f hf
  · rw [hA3 _ _ (by omega), r6]; exact y7
  · rw [hA3 _ _ (by omega), y6, md_damp_w (by rw [fm.1]; decide) fm.2.2.1 y7]
  · rw [hA3 _ _ (by omega), (y9 c4).1]; exact ⟨0, by omega, rfl⟩
  · exact iv_im_cg h0.2.2.2.2.2.2.1 hnf hnm (fun q k z => by rw [hA3 q k (by omega), fA q k (by omega) (by omega) (by omega) (by omega) (by omega)]) (fun q k z => fB q k (by unfold md_cc at z; unfold md_k; omega) (by unfold md_cc at z; omega))
  · exact fm_up_get
  · rw [y8 76 42 (by unfold md_k; omega), fm_up_get]; rfl
  · exact iv_mn_cg h0.2.2.2.2.2.2.2.2.1 (fun q k z => by rw [hA3 q k (by omega), fA q k (by omega) (by omega) (by omega) (by omega) (by omega)]) (fun q k z => fB q k (by unfold md_k; omega) (by omega))
/-! the trial -/
theorem iv_trial {A B : fm_M} {t nf nm kd km : Nat} (h : iv_all A B t nf nm kd km) : ∃ A2 B2, F_X7_copyFrom 45 38 A = some ((), A2) ∧ F_X10_copies 1 0 B = some ((), B2) ∧ iv_all A2 B2 t nf nm kd km ∧ iv_st A2 B2 45 1 nf nm ∧ iv_so A2 B2 t 45 nf nm ∧ (∀ q k, (q < 45 ∨ 50 < q) → A2.1 q k = A.1 q k) ∧ (∀ q k, ¬ md_cc 1 q k → B2.1 q k = B.1 q k) := by
  have hnf := (iv_nf h).1
  have hnm := (iv_nm h).1
  have ht := fm_td (iv_tt h)
  obtain ⟨⟨s1, s2, s3, s4⟩, s5, s6⟩ := id h.2.2.2.2.1
  obtain ⟨⟨o1, o2, o3⟩, o4, o5, o6, ⟨d, o7, o8, o9⟩, o10⟩ := id h.2.2.2.2.2.1
  obtain ⟨A2, e1, e2, e3, e4, e5⟩ := cl_copy (A := A) (p := 45) (q := 38) rfl rfl (by omega) (Or.inr o3)
  obtain ⟨B2, g1, ⟨g2, g3, g4, g5⟩, g6, g7, g8⟩ := md_copy (B := B) (a := 1) (b := 0) (by omega) (by omega) (by omega)
  refine ⟨A2, B2, e1, g1, iv_cg h (fun q k z => e5 q k (by unfold iv_pA at z; omega)) (fun q k z => g8 q k (by unfold iv_pB at z; unfold md_cc; omega)), ⟨⟨?_, ?_, ?_, ?_⟩, fun f hf => ?_, fun m hm => ?_⟩, ⟨⟨?_, ?_, ?_⟩, fun f hf => ?_, fun m hm => ?_, fun f hf => ?_, ⟨d, o7, ?_, ?_⟩, ?_⟩, e5, g8⟩
  · rw [e2 0 (by omega), g2]; exact s1
  · rw [e2 2 (by omega), g3]; exact s2
  · rw [e2 3 (by omega), g4]; exact s3
  · rw [e2 4 (by omega), g5]; exact s4
  · rw [(e3 f (by omega)).1, g6 f (by omega)]; exact s5 f hf
  · rw [(e4 m (by omega)).1, (e4 m (by omega)).2.1, (e4 m (by omega)).2.2, (g7 m (by omega)).1, (g7 m (by omega)).2.1, (g7 m (by omega)).2.2]; exact s6 m hm
  · rw [e2 5 (by omega), e5 t 6 (by omega)]; exact o1
  · rw [e2 6 (by omega)]; exact o2
  · rw [e2 7 (by omega)]; exact o3
  · rw [(e3 f (by omega)).2, e5 _ _ (by omega)]; exact o4 f hf
  · rw [(e4 m (by omega)).2.1, (e4 m (by omega)).2.2]; exact o5 m hm
  · rw [(e3 f (by omega)).1]; exact o6 f hf
  · rw [e2 0 (by omega)]; exact o8
  · rw [e2 1 (by omega), o9, md_wet_cg (fun q k z => g8 q k (by unfold md_cc; omega))]
  · rw [e2 4 (by omega)]; exact o10
theorem iv_ahead {A B : fm_M} {t nf nm kd km n : Nat} (h : iv_all A B t nf nm kd km) (hs : iv_st A B 45 1 nf nm) (ho : iv_so A B t 45 nf nm) (hn : n ≤ 1000) : ∃ A2 B2, F_X7_passDays 45 t (nI n) A = some ((), A2) ∧ F_X10_goesOn (nI n) B = some ((), B2) ∧ iv_all A2 B2 t nf nm kd km ∧ rl_d A2 B2 45 t 1 nf nm ∧ rl_v A2 45 nm := by
  have ht := fm_td (iv_tt h)
  obtain ⟨x1, x2⟩ := iv_d h.2.2.2.1 hs ho h.2.2.2.2.2.2.2.2.2 rfl (by omega)
  obtain ⟨⟨s1, -, -, -⟩, -, -⟩ := id hs
  obtain ⟨-, -, o5, o6, ⟨d, o7, o8, o9⟩, -⟩ := id ho
  have md1 := h.2.2.2.2.2.2.2.2.2
  obtain ⟨A2, B2, y1, y2, y3, y4, y5, y6, y7, y8, y9⟩ := rl_days1 (n := n) (by omega) n 0 fm_fuel fm_fuel d A B x1 o5 ⟨o6, h.2.2.2.1.2.2.2.1.2.2.1⟩ h.2.2.2.1.2.1.1 x2 (by rw [md1.1]; decide) md1.2.2.1 (by rw [← s1]; exact o8) (by omega) (by omega) (by unfold fm_fuel; omega) (by unfold fm_fuel; omega)
  have pd : F_X7_passDays 45 t (nI n) A = some ((), A2) := by rw [F_X7_passDays, fm_gd_t (show fm_isSt 45 = true from rfl), fm_gd_t (iv_tt h), show G_X7_passDays_2 fm_fuel 45 t (nI n) 0 A = _ from y1, fm_bd_s]
  refine ⟨A2, B2, pd, ?_, iv_cg h (fun q k z => fr_u (fr_X7_passDays 45 t (nI n) A) pd q k (by unfold iv_pA at z; simp only [fm_nW, and_true]; omega)) (fun q k z => y8 q k (by unfold iv_pB at z; unfold md_k; omega)), y3, y4⟩
  rw [F_X10_goesOn, show G_X10_goesOn_2 fm_fuel (nI n) 0 B = _ from y2, fm_bd_s]
