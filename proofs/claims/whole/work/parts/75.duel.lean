/-! two who file against one another -/
theorem rl_h_p {A B A2 B2 : fm_M} {t nf : Nat} (h : rl_h A B 45 t 1 nf) (hA : ∀ q k, q ≠ 46 → q ≠ t + 15 → q ≤ 50 → A2.1 q k = A.1 q k) (hB : ∀ q k, q ≠ 98 → (q ≠ 76 ∨ k ≠ 32) → q ≤ 101 → B2.1 q k = B.1 q k) (hp : ∀ f, f < nf → A2.1 46 f = B2.1 98 (8 + f)) : rl_h A2 B2 45 t 1 nf := by
  obtain ⟨hp0, ht, ⟨hc, ⟨nw, o2, o3⟩, dd, o4, o5⟩, hnf, hlw, hday, hdmp, hfk⟩ := h
  have ht2 := fm_td ht
  have hw : ∀ f, md_width B2 f = md_width B f := fun f => by
    unfold md_width
    rw [hB 76 46 (by omega) (by omega) (by omega), hB 76 47 (by omega) (by omega) (by omega), hB 81 f (by omega) (by omega) (by omega)]
  have hd : md_damp B2 1 = md_damp B 1 := by
    unfold md_damp md_wet
    rw [hB 76 43 (by omega) (by omega) (by omega), hB 76 45 (by omega) (by omega) (by omega), hB 78 3 (by omega) (by omega) (by omega), hB 94 1 (by omega) (by omega) (by omega), hB 87 _ (by omega) (by omega) (by omega)]
  refine ⟨hp0, ht, ⟨hc, ⟨nw, o2, by rw [hB _ _ (by omega) (by omega) (by omega)]; exact o3⟩, dd, o4, by rw [hB _ _ (by omega) (by omega) (by omega)]; exact o5⟩, hnf, fun r hr => ev_law_cg (hlw r hr) (fun q k h1 h2 => hA q k (by omega) (by omega) (by omega)) (fun q k h1 h2 => hB q k (by omega) (by omega) (by omega)), by rw [hA _ _ (by omega) (by omega) (by omega), hB _ _ (by omega) (by omega) (by omega)]; exact hday, by rw [hd, hA 45 1 (by omega) (by omega) (by omega)]; exact hdmp, fun f hf => ?_⟩
  obtain ⟨-, f2, f3, f4, f5, f6, f7⟩ := hfk f hf
  refine ⟨hp f hf, by rw [hw, hA (45 + 2) f (by omega) (by omega) (by omega)]; exact f2, ?_, ?_, ?_, ?_, ?_⟩
  · rw [hA (t + 4) f (by omega) (by omega) (by omega), hB 82 f (by omega) (by omega) (by omega)]; exact f3
  · rw [hB 82 f (by omega) (by omega) (by omega)]; exact f4
  · rw [hA 45 6 (by omega) (by omega) (by omega), hB 76 43 (by omega) (by omega) (by omega), hB 76 44 (by omega) (by omega) (by omega)]; exact f5
  · rw [hA 45 4 (by omega) (by omega) (by omega), hB 76 43 (by omega) (by omega) (by omega), hB 97 1 (by omega) (by omega) (by omega)]; exact f6
  · rw [hA 45 5 (by omega) (by omega) (by omega), hB 76 43 (by omega) (by omega) (by omega), hB 78 9 (by omega) (by omega) (by omega)]; exact f7
def du_w (z : Nat) : Int32 := i_max 100 (i_min 999 (nI z))
theorem du_wi : ∀ z : Nat, z < 1004 → Int64.toInt32 (l_max (Int32.toInt64 100) (l_min (Int32.toInt64 999) (Int32.toInt64 (nI z)))) = du_w z := by decide +kernel
def du_t (A B : fm_M) (pr : Int32) (c : Nat) : Prop := (A.1 71 c = 0 ∧ B.1 103 c = 0 - pr * i_abs (nI (c / 5) - 2) ∧ B.1 104 c = 20 - pr * i_abs (nI (c % 5) - 2)) ∨ (A.1 71 c = 1 ∧ B.1 103 c = 20 - pr * i_abs (nI (c / 5) - 2) ∧ B.1 104 c = 0 - pr * i_abs (nI (c % 5) - 2))
def du_A (A A1 : fm_M) (t o w : Nat) : Prop := (∀ q k, q ≠ 46 → q ≠ t + 15 → q ≠ 71 → A1.1 q k = A.1 q k) ∧ ∀ k, k ≠ o → k ≠ w → A1.1 46 k = A.1 46 k
theorem du_step {A B A1 B1 : fm_M} {t nf nm kd km o w i j x y fa fb : Nat} (n : Int32) (h : iv_all A B t nf nm kd km) (hs : iv_st A B 45 0 nf nm) (hso : iv_so A B t 45 nf nm) (ho : o < nf) (hw : w < nf) (how : o ≠ w) (ex : A.1 46 o = nI x) (ey : A.1 46 w = nI y) (hx : x ≤ 999) (hx2 : 100 ≤ x) (hy : y ≤ 999) (hy2 : 100 ≤ y) (hi : i < 5) (hj : j < 5) (sa : du_A A A1 t o w) (sb : ag iv_pB B B1) (e46 : A1.1 46 o = du_w (x + i - 2)) :
    ∃ A4 B4 : fm_M, G_X2_settle_51 (fa + 1) t 45 (nI o) (nI w) n (nI x) (nI y) (nI i) (nI j) A1 = G_X2_settle_51 fa t 45 (nI o) (nI w) n (nI x) (nI y) (nI i) (nI (j + 1)) A4 ∧ G_X10_layAgainst_3 (fb + 1) (nI o) (nI w) n (nI (5 * i + j)) B1 = G_X10_layAgainst_3 fb (nI o) (nI w) n (nI (5 * i + j + 1)) B4 ∧ du_A A A4 t o w ∧ ag iv_pB B B4 ∧ A4.1 46 o = du_w (x + i - 2) ∧ du_t A4 B4 (B.1 78 5) (5 * i + j) ∧ (∀ c, c ≠ 5 * i + j → A4.1 71 c = A1.1 71 c ∧ B4.1 103 c = B1.1 103 c ∧ B4.1 104 c = B1.1 104 c) := by
  have ht := fm_td (iv_tt h)
  obtain ⟨hn, hn1, hn2⟩ := iv_nf h
  have htb := h.2.2.2.1.2.2.1.1
  -- the reference's copy
  obtain ⟨B2, g1, g2, g3, g4, g5⟩ := md_copy (B := B1) (a := 1) (b := 0) (by omega) (by omega) (by omega)
  have ec : iv_ec B B2 0 1 := iv_ec_tr (iv_ec_cg (fun q k z => sb q k (by unfold md_cc at z; unfold iv_pB; omega))) (md_ec_copy ⟨g2, g3, g4⟩)
  have sb2 : ag iv_pB B B2 := fun q k z => by rw [g5 q k (by unfold iv_pB at z; unfold md_cc; omega), sb q k z]
  have h2 := iv_cg h ag_rf sb2
  have hs2 : iv_st A B2 45 1 nf nm := by
    obtain ⟨⟨s1, s2, s3, s4⟩, s5, s6⟩ := hs
    obtain ⟨⟨c1, c2, c3, c4⟩, c5, c6⟩ := ec
    exact ⟨⟨by rw [c1]; exact s1, by rw [c2]; exact s2, by rw [c3]; exact s3, by rw [c4]; exact s4⟩, fun f hf => by rw [c5 f (by omega)]; exact s5 f hf, fun m hm => by
      have hm10 := (iv_nm h).1
      rw [(c6 m (by omega)).1, (c6 m (by omega)).2.1, (c6 m (by omega)).2.2]; exact s6 m hm⟩
  have hso2 : iv_so A B2 t 45 nf nm := iv_so_cg hso (fun q k _ => rfl) (fun q k z => sb2 q k (by unfold iv_pB; omega))
  obtain ⟨rd, rdd⟩ := iv_d h2.2.2.2.1 hs2 hso2 h2.2.2.2.2.2.2.2.2.2 rfl (by omega)
  have rh := rd.h rdd
  have pn : ∀ f, f < nf → B2.1 98 f = A.1 46 f ∧ B2.1 98 (8 + f) = A.1 46 f := fun f hf => by
    have q1 := hs2.2.1 f hf
    have q2 := hs.2.1 f hf
    rw [show 8 * 0 + f = f by omega] at q2
    exact ⟨by rw [sb2 98 f (by unfold iv_pB; omega)]; exact q2.symm, q1.symm⟩
  -- the two pitches
  generalize hA2 : fm_up A1 46 w (du_w (y + j - 2)) = A2
  generalize hB3 : fm_up (fm_up B2 98 (8 + o) (du_w (x + i - 2))) 98 (8 + w) (du_w (y + j - 2)) = B3
  have rh3 : rl_h A2 B3 45 t 1 nf := by
    refine rl_h_p rh (fun q k a b c => by rw [← hA2, fm_up_ne (by omega), sa.1 q k a b (by omega)]) (fun q k a b c => by rw [← hB3, fm_up_ne (by omega), fm_up_ne (by omega)]) (fun f hf => ?_)
    rw [← hA2, ← hB3]
    by_cases c1 : f = w
    · subst c1; rw [fm_up_get, fm_up_get]
    · rw [fm_up_ne (by omega), fm_up_ne (by omega)]
      by_cases c2 : f = o
      · subst c2; rw [fm_up_get]; exact e46
      · rw [fm_up_ne (by omega), sa.2 f c2 c1, (pn f hf).2]
  have a2f : ∀ q k, (q ≠ 46 ∨ k ≠ w) → A2.1 q k = A1.1 q k := fun q k z => by rw [← hA2, fm_up_ne z]
  have b3f : ∀ q k, q ≠ 98 → B3.1 q k = B2.1 q k := fun q k z => by rw [← hB3, fm_up_ne (by omega), fm_up_ne (by omega)]
  have a1f : ∀ q k, q ≠ 46 → q ≠ t + 15 → q ≠ 71 → A2.1 q k = A.1 q k := fun q k a b c => by rw [a2f q k (by omega), sa.1 q k a b c]
  obtain ⟨v, u, A3, B4, B5, c1, c2, c3, c4, c5, c6, c7⟩ := rl_carries rh3 (by rw [a1f t 0 (by omega) (by omega) (by omega)]; exact hn1) (by rw [b3f 78 0 (by omega), sb2 78 0 (by unfold iv_pB; omega)]; exact hn2) (by rw [a1f t 13 (by omega) (by omega) (by omega), b3f 78 2 (by omega), sb2 78 2 (by unfold iv_pB; omega)]; exact htb) n
  have nv : vp_nar .boolean v = v := by rcases c4 with rfl | rfl; exact nar01.1; exact nar01.2
  have ci : (nI i * 5 + nI j : Int32) = nI (5 * i + j) := by rw [show (5 : Int32) = nI 5 from rfl, pk_mul, nI_add, Nat.mul_comm]
  have cd : nI (5 * i + j) / 5 = nI i := by rw [show (5 : Int32) = nI 5 from rfl, pk_div (by omega) (by omega) (by omega)]; congr 1; omega
  have cr : i_rem (nI (5 * i + j)) 5 = nI j := by unfold i_rem; rw [show (5 : Int32) = nI 5 from rfl, pk_rem (by omega) (by omega) (by omega)]; congr 1; omega
  have v1 : (nI x + nI i - 2 : Int32) = nI (x + i - 2) := by rw [nI_add, show (2 : Int32) = nI 2 from rfl, pk_sub (by omega)]
  have v2 : (nI y + nI j - 2 : Int32) = nI (y + j - 2) := by rw [nI_add, show (2 : Int32) = nI 2 from rfl, pk_sub (by omega)]
  have o8 : (8 + nI o : Int32) = nI (8 + o) := nI_add 8 o
  have w8 : (8 + nI w : Int32) = nI (8 + w) := nI_add 8 w
  have ed : (5 * i + j) / 5 = i := by omega
  have em : (5 * i + j) % 5 = j := by omega
  -- the class's step
  have eA : G_X2_settle_51 (fa + 1) t 45 (nI o) (nI w) n (nI x) (nI y) (nI i) (nI j) A1 = G_X2_settle_51 fa t 45 (nI o) (nI w) n (nI x) (nI y) (nI i) (nI (j + 1)) (fm_up A3 71 (5 * i + j) v) := by
    rw [G_X2_settle_51, if_neg (show ¬ (5 : Int32) ≤ nI j from nI_ge (b := 5) hj (by omega)), F_X9_within, fm_bd_s, v2, du_wi _ (by omega), fm_gd_t (nu_inb (by omega) (by omega)), nI_clamp (by omega)]
    simp only [fm_lt]
    rw [show fm_up A1 (45 + 1) w (du_w (y + j - 2)) = A2 from hA2, c1, fm_bd_s, ci, fm_gd_t (nu_inb (by omega) (by omega)), nI_clamp (by omega), nv, nI_1]
  have eB : ∀ s1 s2 : Int32, (v = 0 → s1 = 0 ∧ s2 = 20) → (v = 1 → s1 = 20 ∧ s2 = 0) → G_X10_layAgainst_3 (fb + 1) (nI o) (nI w) n (nI (5 * i + j)) B1 = G_X10_layAgainst_3 fb (nI o) (nI w) n (nI (5 * i + j + 1)) (fm_up (fm_up B5 103 (5 * i + j) (s1 - B.1 78 5 * i_abs (nI i - 2))) 104 (5 * i + j) (s2 - B.1 78 5 * i_abs (nI j - 2))) := by
    intro s1 s2 z0 z1
    rw [G_X10_layAgainst_3, if_neg (show ¬ (25 : Int32) ≤ nI (5 * i + j) from nI_ge (b := 25) (by omega) (by omega)), show F_X10_copies 1 0 B1 = _ from g1, fm_bd_s, fm_gd_t (nu_inb (by omega) (by omega)), F_X10_heldPitch, fm_bd_s, o8, fm_gd_t (nu_inb (by omega) (by omega)), cd, cr, nI_clamp (by omega), nI_clamp (by omega), (pn o ho).1, ex, v1]
    simp only [fm_lt]
    rw [fm_gd_t (nu_inb (by omega) (by omega)), F_X10_heldPitch, fm_bd_s, w8, fm_gd_t (nu_inb (by omega) (by omega)), nI_clamp (by omega), nI_clamp (by omega), fm_up_ne (by omega), (pn w hw).1, ey, v2, show fm_up (fm_up B2 98 (8 + o) (i_max 100 (i_min 999 (nI (x + i - 2))))) 98 (8 + w) (i_max 100 (i_min 999 (nI (y + j - 2)))) = B3 from hB3, show F_X10_humAll 1 n B3 = _ from c2, fm_bd_s, show F_X10_passes 1 n u B4 = _ from c3, fm_bd_s]
    have p5 : B5.1 78 5 = B.1 78 5 := by rw [c7 _ _ (by omega), b3f 78 5 (by omega), sb2 78 5 (by unfold iv_pB; omega)]
    rcases c4 with rfl | rfl
    · obtain ⟨rfl, rfl⟩ := z0 rfl
      rw [if_pos rfl, J_X10_layAgainst_97, fm_gd_t (by decide), fm_gd_t (nu_inb (by omega) (by omega)), nI_clamp (by omega), cd, ck_5, p5, fm_lt, if_pos rfl, J_X10_layAgainst_132, fm_gd_t (by decide), fm_gd_t (nu_inb (by omega) (by omega)), nI_clamp (by omega), cr, ck_5, fm_up_ne (by omega), p5, nI_1]
      rfl
    · obtain ⟨rfl, rfl⟩ := z1 rfl
      rw [if_neg n10, J_X10_layAgainst_97, fm_gd_t (by decide), fm_gd_t (nu_inb (by omega) (by omega)), nI_clamp (by omega), cd, ck_5, p5, fm_lt, if_neg n10, J_X10_layAgainst_132, fm_gd_t (by decide), fm_gd_t (nu_inb (by omega) (by omega)), nI_clamp (by omega), cr, ck_5, fm_up_ne (by omega), p5, nI_1]
      rfl
  have fin : ∀ s1 s2 : Int32, (v = 0 → s1 = 0 ∧ s2 = 20) → (v = 1 → s1 = 20 ∧ s2 = 0) → ∃ A4 B4 : fm_M, G_X2_settle_51 (fa + 1) t 45 (nI o) (nI w) n (nI x) (nI y) (nI i) (nI j) A1 = G_X2_settle_51 fa t 45 (nI o) (nI w) n (nI x) (nI y) (nI i) (nI (j + 1)) A4 ∧ G_X10_layAgainst_3 (fb + 1) (nI o) (nI w) n (nI (5 * i + j)) B1 = G_X10_layAgainst_3 fb (nI o) (nI w) n (nI (5 * i + j + 1)) B4 ∧ du_A A A4 t o w ∧ ag iv_pB B B4 ∧ A4.1 46 o = du_w (x + i - 2) ∧ du_t A4 B4 (B.1 78 5) (5 * i + j) ∧ (∀ c, c ≠ 5 * i + j → A4.1 71 c = A1.1 71 c ∧ B4.1 103 c = B1.1 103 c ∧ B4.1 104 c = B1.1 104 c) := by
    intro s1 s2 z0 z1
    refine ⟨_, _, eA, eB s1 s2 z0 z1, ⟨fun q k a b c => by rw [fm_up_ne (by omega), c5 q k b, a1f q k a b c], fun k a b => by rw [fm_up_ne (by omega), c5 _ _ (by omega), a2f 46 k (by omega), sa.2 k a b]⟩, fun q k z => ?_, by rw [fm_up_ne (by omega), c5 _ _ (by omega), a2f 46 o (by omega)]; exact e46, ?_, fun c hc => ⟨by rw [fm_up_ne (by omega), c5 _ _ (by omega), a2f 71 c (by omega)], by rw [fm_up_ne (by omega), fm_up_ne (by omega), c7 _ _ (by omega), b3f _ _ (by omega), g5 _ _ (by unfold md_cc; omega)], by rw [fm_up_ne (by omega), fm_up_ne (by omega), c7 _ _ (by omega), b3f _ _ (by omega), g5 _ _ (by unfold md_cc; omega)]⟩⟩
    · rw [fm_up_ne (by unfold iv_pB at z; omega), fm_up_ne (by unfold iv_pB at z; omega), c7 q k (by unfold iv_pB at z; omega), ← hB3, fm_up_ne (by unfold iv_pB at z; omega), fm_up_ne (by unfold iv_pB at z; omega), sb2 q k z]
    · unfold du_t
      rw [fm_up_get, fm_up_get, fm_up_ne (by omega), fm_up_get, ed, em]
      rcases c4 with rfl | rfl
      · obtain ⟨rfl, rfl⟩ := z0 rfl
        exact Or.inl ⟨rfl, rfl, rfl⟩
      · obtain ⟨rfl, rfl⟩ := z1 rfl
        exact Or.inr ⟨rfl, rfl, rfl⟩
  rcases c4 with z | z
  · exact fin 0 20 (fun _ => ⟨rfl, rfl⟩) (fun y => absurd (z.symm.trans y) (by decide))
  · exact fin 20 0 (fun y => absurd (z.symm.trans y) (by decide)) (fun _ => ⟨rfl, rfl⟩)
