/-! the best order: rust, a whole day -/
theorem or_rust {t nf : Nat} : ∀ (m i fa fb : Nat) (A B : fm_M), rl_h A B 45 t 1 nf → (A.1 t 0 = nI nf ∧ B.1 78 0 = nI nf ∧ A.1 t 16 = B.1 78 6 ∧ A.1 45 7 = 1 ∧ B.1 76 43 = 0) → rl_pb A 45 t nf → i + m = nf → m < fa → m < fb → ∃ (x : Int32) (A2 B2 : fm_M), G_X7_passDay_89 fa 45 t (nI i) A = some (x, A2) ∧ G_X10_dayGoes_58 fb 1 (nI i) B = some (x, B2) ∧ rl_h A2 B2 45 t 1 nf ∧ rl_pb A2 45 t nf ∧ (∀ q k, ¬ md_k2 1 q k → B2.1 q k = B.1 q k) ∧ (∀ q k, q ≠ 46 → q ≠ t + 15 → A2.1 q k = A.1 q k) := by
  intro m
  induction m with
  | zero =>
    intro i fa fb A B h hc hb hi hfa hfb
    have : i = nf := by omega
    subst this
    have hnf := h.2.2.2.1
    obtain ⟨fa, rfl⟩ : ∃ z, fa = z + 1 := ⟨fa - 1, by omega⟩
    obtain ⟨fb, rfl⟩ : ∃ z, fb = z + 1 := ⟨fb - 1, by omega⟩
    refine ⟨nI i, A, B, ?_, ?_, h, hb, fun _ _ _ => rfl, fun _ _ _ _ => rfl⟩
    · rw [G_X7_passDay_89, hc.1, if_pos (nI_le (Nat.le_refl _) (by omega))]
    · rw [G_X10_dayGoes_58, fm_gd_t (by decide), ck_0, hc.2.1, if_pos (nI_le (Nat.le_refl _) (by omega))]
  | succ m ih =>
    intro i fa fb A B h hc hb hi hfa hfb
    obtain ⟨fa, rfl⟩ : ∃ z, fa = z + 1 := ⟨fa - 1, by omega⟩
    obtain ⟨fb, rfl⟩ : ∃ z, fb = z + 1 := ⟨fb - 1, by omega⟩
    obtain ⟨c1, c2, c7, c8, c9⟩ := id hc
    have hnf := h.2.2.2.1
    have ht := fm_td h.2.1
    have hfk := h.2.2.2.2.2.2.2
    rw [G_X7_passDay_89, c1, if_neg (nI_ge (by omega) (by omega)), G_X10_dayGoes_58, fm_gd_t (show fm_inb 0 20 = true by decide), ck_0, c2, if_neg (nI_ge (by omega) (by omega)), if_neg (show ¬ A.1 45 7 = 0 by rw [c8]; decide), if_neg (show ¬ B.1 76 43 = 3 by rw [c9]; decide)]
    have hx : (8 : Int32) * 1 + nI i = nI (8 + i) := nI_add 8 i
    have ib : fm_inb (nI i) 8 = true := nu_inb (by omega) (by omega)
    have xb : fm_inb (nI (8 + i)) 184 = true := nu_inb (by omega) (by omega)
    have ic : Int32.toNatClampNeg (nI i) = i := nI_clamp (by omega)
    have xc : Int32.toNatClampNeg (nI (8 + i)) = 8 + i := nI_clamp (by omega)
    obtain ⟨v, A2, B1, B2, hv, e1, e2, e3, e4⟩ := rl_rust h (show i < nf by omega) c7 hb.2
    have fA := rl_frA (fr_X7_rustOf 45 t (nI i) A) e1
    have fB := rl_frB (fr_X10_within 1 9 (B1.1 78 6) B1) e4
    have hpi : A.1 (45 + 1) i = B.1 98 (8 + i) := (hfk i (by omega)).1
    rw [fm_gd_t ib, ic, e1, fm_bd_s, fm_gd_t ib, fm_lt, show F_X10_callsRust 1 (nI i) B = _ from e2, fm_bd_s, fm_lt, hx, fm_gd_t xb, fm_gd_t (show fm_inb 6 20 = true by decide), ck_6, e4, fm_bd_s, fm_gd_t xb, fm_lt, xc, e3, nI_1, hpi]
    obtain ⟨px, hx1, hx2, hx3⟩ := hb.1 i (by omega)
    have hpx : B.1 98 (8 + i) = nI px := by rw [← hpi]; exact hx3
    have hnew : ∃ y : Nat, 100 ≤ y ∧ y ≤ 999 ∧ i_max 100 (B.1 98 (8 + i) - nI v) = nI y := by
      rw [hpx, pk_sub (by omega)]
      unfold i_max
      by_cases hlt : (100 : Int32) < nI (px - v)
      · rw [if_pos hlt]
        refine ⟨px - v, ?_, by omega, rfl⟩
        have := Int32.lt_iff_toInt_lt.mp hlt
        rw [nI_toInt (by omega), show (100 : Int32).toInt = 100 from rfl] at this
        omega
      · rw [if_neg hlt]
        exact ⟨100, by omega, by omega, rfl⟩
    generalize i_max 100 (B.1 98 (8 + i) - nI v) = ny at *
    have d2 : rl_h (fm_up A2 46 i ny) (fm_up B2 98 (8 + i) ny) 45 t 1 nf := rl_h_q h (fun q k a b c => by rw [fm_up_ne (by omega)]; exact fA q k b) (fun q k a b c => by rw [fm_up_ne (by omega), fB q k b, e3]) (fun f hf => by
      by_cases e : f = i
      · subst e; rw [fm_up_get, fm_up_get]
      · rw [fm_up_ne (Or.inr e), fm_up_ne (Or.inr (by omega)), fA _ _ (by omega), fB _ _ (Or.inl (by omega)), e3]
        exact (hfk f hf).1)
    have hb2 : rl_pb (fm_up A2 46 i ny) 45 t nf := by
      refine ⟨fun f hf => ?_, ?_⟩
      · by_cases e : f = i
        · subst e; rw [fm_up_get]; exact hnew
        · rw [fm_up_ne (Or.inr e), fA _ _ (by omega)]; exact hb.1 f hf
      · rw [fm_up_ne (by omega), fA t 16 (by omega)]; exact hb.2
    obtain ⟨x, A3, B3, y1, y2, y3, y4, y5, y6⟩ := ih (i + 1) fa fb (fm_up A2 46 i ny) (fm_up B2 98 (8 + i) ny) d2 ⟨by rw [fm_up_ne (by omega), fA _ _ (by omega)]; exact c1, by rw [fm_up_ne (by omega), fB _ _ (by omega), e3]; exact c2, by rw [fm_up_ne (by omega), fA _ _ (by omega), fm_up_ne (by omega), fB _ _ (by omega), e3]; exact c7, by rw [fm_up_ne (by omega), fA _ _ (by omega)]; exact c8, by rw [fm_up_ne (by omega), fB _ _ (by omega), e3]; exact c9⟩ hb2 (by omega) (by omega) (by omega)
    refine ⟨x, A3, B3, y1, y2, y3, y4, fun q k hq => ?_, fun q k h1 h2 => by rw [y6 q k h1 h2, fm_up_ne (Or.inl h1), fA q k h2]⟩
    rw [y5 q k hq]
    unfold md_k2 at hq
    rw [fm_up_ne (by omega), fB q k (by omega), e3]
theorem st_keep {p t nm : Nat} (hp : fm_isSt p = true) (ht : fm_isTd t = true) (hm : nm ≤ 10) : ∀ (fa i : Nat) (A A2 : fm_M) (x : Int32), A.1 t 7 = nI nm → i ≤ nm → G_X7_passDay_2 fa p t (nI i) A = some (x, A2) → ∀ m, A.1 (p + 4) m ≠ -1 → A2.1 (p + 4) m = A.1 (p + 4) m := by
  have hp3 := rl_st3 hp
  have ht2 := fm_td ht
  intro fa
  induction fa with
  | zero => intro i A A2 x _ _ e; cases e
  | succ fa ih =>
    intro i A A2 x h7 hi e
    by_cases hin : i = nm
    · subst hin
      rw [G_X7_passDay_2, h7, if_pos (nI_le (by omega) (by omega))] at e
      cases e
      exact fun _ _ => rfl
    have ib : fm_inb (nI i) 10 = true := nu_inb (by omega) (by omega)
    have ic : Int32.toNatClampNeg (nI i) = i := nI_clamp (by omega)
    rw [G_X7_passDay_2, h7, if_neg (nI_ge (by omega) (by omega)), fm_gd_t ib, ic, nI_1] at e
    by_cases hs : A.1 (p + 3) i = A.1 p 0
    · rw [if_pos hs, fm_gd_t ib] at e
      by_cases hv : A.1 (p + 4) i = -1
      · rw [if_pos hv, fm_gd_t ib] at e
        obtain ⟨v, A3, e1, e⟩ := fm_bdp e
        rw [fm_gd_t ib, fm_lt, fm_gd_t ib, fm_gd_t ib] at e
        obtain ⟨g, A4, e2, e⟩ := fm_bdp e
        have f1 := rl_frA (fr_X7_humOfAll p t (A.1 (t + 7) i) A) e1
        have f2 := rl_frA (fr_X7_passes p t _ _ _) e2
        have f3 : ∀ q k, q ≠ t + 15 → q ≠ p + 5 → A4.1 q k = A.1 q k := fun q k a b => by rw [f2 q k a, fm_up_ne (by omega), f1 q k a]
        rw [fm_gd_t ib, fm_gd_t ib, fm_lt, fm_lt] at e
        have key : ∀ w : Int32, G_X7_passDay_2 fa p t (nI (i + 1)) (fm_up A4 (p + 4) i w) = some (x, A2) → ∀ m, A.1 (p + 4) m ≠ -1 → A2.1 (p + 4) m = A.1 (p + 4) m := by
          intro w e m z
          have k1 := ih (i + 1) _ A2 x (by rw [fm_up_ne (by omega), f3 _ _ (by omega) (by omega)]; exact h7) (by omega) e m
          have y : m ≠ i := fun y => z (y ▸ hv)
          rw [fm_up_ne (by omega), f3 _ _ (by omega) (by omega)] at k1
          exact k1 z
        by_cases hg : g = 0
        · rw [if_pos hg] at e; exact key 0 e
        · rw [if_neg hg] at e; exact key 1 e
      · rw [if_neg hv] at e
        exact ih (i + 1) A A2 x h7 (by omega) e
    · rw [if_neg hs] at e
      exact ih (i + 1) A A2 x h7 (by omega) e
theorem or_day {A B : fm_M} {t nf nm dd : Nat} {O : Nat → Prop} (h : ro A B t nf nm O) (hb : rl_pb A 45 t nf) (hw : rl_w A B t) (hdd : B.1 94 1 = nI dd) (hd2 : dd + 1 < 100000) : ∃ (A2 B2 : fm_M) (w : Int32), F_X7_passDay 45 t A = some ((), A2) ∧ F_X10_dayGoes 1 B = some ((), B2) ∧ F_X8_wetOn t (A2.1 45 0) A2 = some (w, A2) ∧ ro (fm_up A2 45 1 w) B2 t nf nm O ∧ rl_pb (fm_up A2 45 1 w) 45 t nf ∧ rl_w (fm_up A2 45 1 w) B2 t ∧ B2.1 94 1 = nI (dd + 1) ∧ (∀ q k, ¬ md_k 1 q k → B2.1 q k = B.1 q k) ∧ (∀ g, g < nm → O g → (B.1 100 (10 + g) = -1 ∧ B.1 99 (10 + g) = nI dd → B2.1 100 (10 + g) = cva t A g) ∧ (¬ (B.1 100 (10 + g) = -1 ∧ B.1 99 (10 + g) = nI dd) → B2.1 100 (10 + g) = B.1 100 (10 + g))) ∧ (∀ g, A.1 49 g ≠ -1 → A2.1 49 g = A.1 49 g) := by
  obtain ⟨hh, ⟨c1, c2, c3, c4, c5, c6, c7, c8, c9, c10⟩, h3, h4, h5⟩ := id h
  have ht := fm_td hh.2.1
  have hnf := hh.2.2.2.1
  obtain ⟨A1, B1, e1, e2, e3, e4, e5, e6, -⟩ := or_loop nm 0 fm_fuel fm_fuel A B h (fun _ _ _ _ => rfl) (by omega) (by unfold fm_fuel; omega) (by unfold fm_fuel; omega)
  have hb1 : rl_pb A1 45 t nf := by
    refine ⟨fun f hf => ?_, ?_⟩
    · rw [e4 _ _ (by omega) (by omega) (by omega)]; exact hb.1 f hf
    · rw [e4 _ _ (by omega) (by omega) (by omega)]; exact hb.2
  obtain ⟨hh1, ⟨d1, d2, d3, d4, d5, d6, d7, d8, d9, d10⟩, i3, i4, i5⟩ := id e3
  obtain ⟨x, A2, B2, g1, g2, g3, g4, g5, gA⟩ := or_rust nf 0 fm_fuel fm_fuel A1 B1 hh1 ⟨d1, d2, d7, d8, d9⟩ hb1 (by omega) (by unfold fm_fuel; omega) (by unfold fm_fuel; omega)
  have hdd2 : B2.1 94 1 = nI dd := by rw [g5 _ _ (by unfold md_k2; omega), e5 _ _ (by unfold md_k1; omega)]; exact hdd
  have hda : A2.1 45 0 = nI dd := by rw [← hdd2]; exact g3.2.2.2.2.2.1
  generalize hA3 : fm_up (fm_up A2 45 4 0) 45 0 (nI (dd + 1)) = A3
  generalize hB3 : fm_up (fm_up B2 97 1 0) 94 1 (nI (dd + 1)) = B3
  have fA3 : ∀ q k, (q ≠ 45 ∨ (k ≠ 4 ∧ k ≠ 0)) → A3.1 q k = A2.1 q k := fun q k z => by rw [← hA3, fm_up_ne (by omega), fm_up_ne (by omega)]
  have fB3 : ∀ q k, q ≠ 97 → q ≠ 94 → B3.1 q k = B2.1 q k := fun q k z y => by rw [← hB3, fm_up_ne (by omega), fm_up_ne (by omega)]
  have a0 : A3.1 45 0 = nI (dd + 1) := by rw [← hA3, fm_up_get]
  have a4 : A3.1 45 4 = 0 := by rw [← hA3, fm_up_ne (by omega), fm_up_get]
  have b94 : B3.1 94 1 = nI (dd + 1) := by rw [← hB3, fm_up_get]
  have b97 : B3.1 97 1 = 0 := by rw [← hB3, fm_up_ne (by omega), fm_up_get]
  have bAll : ∀ q k, ¬ md_k 1 q k → B3.1 q k = B.1 q k := fun q k z => by
    unfold md_k at z
    by_cases y : q = 97 ∨ q = 94
    · rw [← hB3, fm_up_ne (by omega), fm_up_ne (by omega), g5 q k (by unfold md_k2; omega), e5 q k (by unfold md_k1; omega)]
    · rw [fB3 q k (by omega) (by omega), g5 q k (by unfold md_k2; omega), e5 q k (by unfold md_k1; omega)]
  have aAll : ∀ q k, (q ≠ 45 ∨ (k ≠ 4 ∧ k ≠ 0)) → q ≠ 46 → q ≠ 49 → q ≠ 50 → q ≠ t + 15 → A3.1 q k = A.1 q k := fun q k z y x u v => by rw [fA3 q k z, gA q k y v, e4 q k x u v]
  have hw3 : rl_w A3 B3 t := rl_w_cg hw (fun q k z => aAll q k (by omega) (by omega) (by omega) (by omega) (by omega)) (fun q k z => bAll q k (by unfold md_k; omega))
  have ewt := rl_wetOn hh.2.1 hw3 (show dd + 1 < 100000 by omega)
  have b43 : B3.1 76 43 = 0 := by rw [bAll _ _ (by unfold md_k; omega)]; exact c9
  have b45 : B3.1 76 45 = -1 := by rw [bAll _ _ (by unfold md_k; omega)]; exact c10
  generalize hA4 : fm_up A3 45 1 (md_wet B3 (nI (dd + 1))) = A4
  have fA4 : ∀ q k, (q ≠ 45 ∨ k ≠ 1) → A4.1 q k = A3.1 q k := fun q k z => by rw [← hA4, fm_up_ne z]
  have r4 : rl_h A4 B3 45 t 1 nf := by
    obtain ⟨p1, p2, ⟨q1, ⟨nw, q2, q3⟩, -⟩, p4, p5, p6, p7, p8⟩ := g3
    refine ⟨p1, p2, ⟨q1, ⟨nw, q2, by rw [fB3 _ _ (by omega) (by omega)]; exact q3⟩, dd + 1, hd2, b94⟩, p4, fun r hr => ev_law_cg (p5 r hr) (fun q k a b => by rw [fA4 _ _ (by omega), fA3 _ _ (by omega)]) (fun q k a b => fB3 q k (by omega) (by omega)), by rw [fA4 _ _ (by omega), a0, b94], ?_, fun f hf => ?_⟩
    · rw [md_damp_w (by rw [b43]; decide) b45 b94, ← hA4, fm_up_get]
    · obtain ⟨y1, y2, y3, y4, y5, y6, y7⟩ := p8 f hf
      have hwd : md_width B3 f = md_width B2 f := by
        unfold md_width
        rw [fB3 _ _ (by omega) (by omega), fB3 _ _ (by omega) (by omega), fB3 _ _ (by omega) (by omega)]
      refine ⟨?_, ?_, ?_, ?_, ?_, ?_, ?_⟩
      · rw [fA4 _ _ (by omega), fA3 _ _ (by omega), fB3 _ _ (by omega) (by omega)]; exact y1
      · rw [fA4 _ _ (by omega), fA3 _ _ (by omega), hwd]; exact y2
      · rw [fA4 _ _ (by omega), fA3 _ _ (by omega), fB3 _ _ (by omega) (by omega)]; exact y3
      · rw [fB3 _ _ (by omega) (by omega)]; exact y4
      · rw [fA4 _ _ (by omega), fA3 _ _ (by omega), fB3 _ _ (by omega) (by omega), fB3 _ _ (by omega) (by omega)]; exact y5
      · rw [fA4 _ _ (by omega), a4, b97]; exact ⟨fun z => absurd z (rl_bit0 f), fun z => absurd z.2 (rl_bit0 f)⟩
      · rw [fA4 _ _ (by omega), fA3 _ _ (by omega), fB3 _ _ (by omega) (by omega), fB3 _ _ (by omega) (by omega)]; exact y7
  refine ⟨A3, B3, md_wet B3 (nI (dd + 1)), ?_, ?_, by rw [a0]; exact ewt, ?_, ?_, ?_, b94, bAll, fun g hg hO => ?_, fun g z => ?_⟩
  · rw [F_X7_passDay, fm_gd_t (by decide), fm_gd_t hh.2.1, show G_X7_passDay_2 fm_fuel 45 t 0 A = some (nI nm, A1) from e1, fm_bd_s, show G_X7_passDay_89 fm_fuel 45 t 0 A1 = some (x, A2) from g1, fm_bd_s, fm_lt, fm_lt, fm_up_ne (by omega), hda, nI_1, hA3]
  · rw [F_X10_dayGoes, show G_X10_dayGoes_2 fm_fuel 1 0 B = some (nI nm, B1) from e2, fm_bd_s, show G_X10_dayGoes_58 fm_fuel 1 0 B1 = some (x, B2) from g2, fm_bd_s, fm_gd_t (by decide), fm_lt, fm_gd_t (by decide), fm_gd_t (by decide), fm_lt, ck_1, fm_up_ne (by omega), hdd2, nI_1, hB3]
  · rw [hA4]
    refine ⟨r4, ?_, fun m hm => ?_, fun m hm ho => ?_, fun m hm ho => ?_⟩
    · rw [fA4 _ _ (by omega), fA4 _ _ (by omega), fA4 _ _ (by omega), fA4 _ _ (by omega), fA4 _ _ (by omega), aAll _ _ (by omega) (by omega) (by omega) (by omega) (by omega), aAll _ _ (by omega) (by omega) (by omega) (by omega) (by omega), aAll _ _ (by omega) (by omega) (by omega) (by omega) (by omega), aAll _ _ (by omega) (by omega) (by omega) (by omega) (by omega), aAll _ _ (by omega) (by omega) (by omega) (by omega) (by omega), b43, b45, bAll _ _ (by unfold md_k; omega), bAll _ _ (by unfold md_k; omega), bAll _ _ (by unfold md_k; omega), bAll _ _ (by unfold md_k; omega)]
      exact ⟨c1, c2, c3, c4, c5, c6, c7, c8, rfl, rfl⟩
    · rw [fA4 _ _ (by omega), aAll _ _ (by omega) (by omega) (by omega) (by omega) (by omega), bAll _ _ (by unfold md_k; omega)]; exact h3 m hm
    · rw [fA4 _ _ (by omega), fA4 _ _ (by omega), fA3 _ _ (by omega), fA3 _ _ (by omega), gA _ _ (by omega) (by omega), gA _ _ (by omega) (by omega), fB3 _ _ (by omega) (by omega), fB3 _ _ (by omega) (by omega), g5 _ _ (by unfold md_k2; omega), g5 _ _ (by unfold md_k2; omega)]; exact i4 m hm ho
    · rw [fA4 _ _ (by omega), fA4 _ _ (by omega), fA3 _ _ (by omega), fA3 _ _ (by omega), gA _ _ (by omega) (by omega), gA _ _ (by omega) (by omega)]; exact i5 m hm ho
  · rw [hA4]
    exact rl_pb_cg g4 (fun q k z => by rw [fA4 _ _ (by omega), fA3 _ _ (by omega)])
  · rw [hA4]
    exact rl_w_cg hw3 (fun q k z => fA4 q k (by omega)) (fun _ _ _ => rfl)
  · have := e6 g hg hO (by omega)
    rw [hdd] at this
    have eb : B3.1 100 (10 + g) = B1.1 100 (10 + g) := by rw [fB3 _ _ (by omega) (by omega), g5 _ _ (by unfold md_k2; omega)]
    rw [eb]
    exact this
  · rw [fA3 _ _ (by omega), gA _ _ (by omega) (by omega)]
    exact st_keep rfl hh.2.1 c5 fm_fuel 0 A A1 (nI nm) c3 (by omega) e1 g z
