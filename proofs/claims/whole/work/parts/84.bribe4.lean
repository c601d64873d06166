/-! the cheapest filing: found -/
def br_b (mn : Nat) (p ch bs ls : Int32) : Prop := (p = -1 ∧ bs = -1 ∧ ch = 0) ∨ ∃ b w : Nat, b < 9 ^ mn ∧ w < 10000 ∧ bs = nI b ∧ ch = nI b ∧ ls = nI w ∧ p = nI w
theorem nI_nm1 {n : Nat} (h : n < 2 ^ 31) : ¬ nI n = -1 := fun y => absurd (y ▸ nI_pos h) (by decide)
theorem br_srch {A0 B0 : fm_M} {fl : Nat → Nat → Int32} {pv : Nat → Int32} {mn oth z t : Nat} {n : Int32} (htd : fm_isTd t = true) (hm : mn ≤ 4) (hz : z ≤ 99) (hA : A0.1 t 15 = nI z) (hB : B0.1 78 5 = nI z) (ho : oth + 99 * mn ≤ 792) (hfl : ∀ g j, g < mn → fl g j = -1 ∨ ∃ v : Nat, v ≤ 99 ∧ fl g j = nI v)
    (hpA : ∀ s, (pv s = 0 ∨ pv s = 1) ∧ (∀ A1, ag br_A A0 A1 → ∃ A2, F_X7_passes 45 t n (nI s) A1 = some (pv s, A2) ∧ ag br_A A0 A2 ∧ ∀ q k, q ≠ t + 15 → A2.1 q k = A1.1 q k)) (hpB : ∀ s, ∀ B1, ag iv_pB B0 B1 → ∃ B2, F_X10_passes 0 n (nI s) B1 = some (pv s, B2) ∧ ag iv_pB B0 B2 ∧ ∀ q k, (q ≠ 76 ∨ k ≠ 32) → B2.1 q k = B1.1 q k) (l2 : Int32) :
    ∀ (m c fa fb : Nat) (ch bs ls : Int32) (A1 B1 : fm_M), c + m = 9 ^ mn → m < fa → m < fb → br_C A0 A1 fl pv mn oth → ag iv_pB B0 B1 → (∀ g j, g < mn → j < 9 → B1.1 102 (9 * g + j) = fl g j) → br_b mn (A1.1 66 5) ch bs ls → ∃ (ch2 bs2 ls2 x y : Int32) (A2 B2 : fm_M), G_X0_seek_66 fa t 45 n (nI (9 ^ mn)) ch (nI c) A1 = some ((ch2, x), A2) ∧ G_X10_bribe_100 fb n l2 (nI mn) (nI oth) bs ls (nI c) B1 = some ((bs2, ls2, y), B2) ∧ br_C A0 A2 fl pv mn oth ∧ ag iv_pB B0 B2 ∧ br_b mn (A2.1 66 5) ch2 bs2 ls2 := by
  have ht := fm_td htd
  have h9b : 9 ^ mn ≤ 9 ^ 4 := Nat.pow_le_pow_right (by omega) hm
  have h94 : (9 : Nat) ^ 4 = 6561 := rfl
  intro m
  induction m with
  | zero =>
    intro c fa fb ch bs ls A1 B1 hc hfa hfb iC iB i7 ib
    obtain ⟨fa, rfl⟩ : ∃ z, fa = z + 1 := ⟨fa - 1, by omega⟩
    obtain ⟨fb, rfl⟩ : ∃ z, fb = z + 1 := ⟨fb - 1, by omega⟩
    rw [G_X0_seek_66, if_pos (nI_le (by omega) (by omega)), G_X10_bribe_100, md_nines hm, fm_bd_s, if_pos (nI_le (by omega) (by omega))]
    exact ⟨ch, bs, ls, _, _, A1, B1, rfl, rfl, iC, iB, ib⟩
  | succ m ih =>
    intro c fa fb ch bs ls A1 B1 hc hfa hfb iC iB i7 ib
    obtain ⟨fa, rfl⟩ : ∃ z, fa = z + 1 := ⟨fa - 1, by omega⟩
    obtain ⟨fb, rfl⟩ : ∃ z, fb = z + 1 := ⟨fb - 1, by omega⟩
    have e15 : A1.1 t 15 = nI z := by rw [iC.1 t 15 (by unfold br_A iv_pA; omega)]; exact hA
    have e5 : B1.1 78 5 = nI z := by rw [iB 78 5 (by unfold iv_pB; omega)]; exact hB
    have er := br_ref (c := c) hm (by omega) e5 i7 n l2 (nI oth) bs ls (nI oth) mn 0 fm_fuel (by omega) (by unfold fm_fuel; omega)
    rw [show bsum (bX fl mn c) 0 = 0 from rfl, Int32.add_zero, show bsum (fun g => nI z * bY mn c g) 0 = 0 from rfl, show bflag (bX fl mn c) 0 = 1 from rfl, bsum_mul] at er
    rw [G_X0_seek_66, if_neg (nI_ge (by omega) (by omega)), G_X10_bribe_100, md_nines hm, fm_bd_s, if_neg (nI_ge (by omega) (by omega)), show G_X10_bribe_122 fm_fuel n l2 (nI mn) (nI oth) bs ls (nI c) (nI oth) 0 1 0 B1 = _ from er, fm_bd_s, e15, nI_1, F_X0_costOf, fm_lt, iC.2.1]
    have ec := br_cost (c := c) hm (by omega) iC.2.2.2.1 (nI c) (nI z) mn fm_fuel 0 (Nat.le_refl _) (by unfold fm_fuel; omega)
    rw [Nat.sub_self, Nat.pow_zero, Nat.div_one] at ec
    rcases ec with ⟨k1, x, y, k2⟩ | ⟨k1, k2⟩
    · obtain ⟨w, w1, w2⟩ := bsum_bd (X := bY mn c) (b := 4) mn (fun g hg => br_abs _ (dg_lt c _))
      obtain ⟨s, s1, s2⟩ := bsum_bd (X := bX fl mn c) (b := 99) mn (fun g hg => (hfl g _ hg).resolve_left (k1 g hg))
      have hwz : w * z ≤ 16 * 99 := Nat.mul_le_mul (by omega) hz
      rw [k2, bflag_1 mn k1, w2, s2, Int32.zero_add, pk_mul, nI_add]
      show ∃ (ch2 bs2 ls2 x y : Int32) (A2 B2 : fm_M), fm_bd (some (nI w * nI z, A1)) _ = some ((ch2, x), A2) ∧ (if (1 : Int32) = 0 then _ else _) = some ((bs2, ls2, y), B2) ∧ _
      rw [fm_bd_s, pk_mul, if_neg (nI_nm1 (by omega)), if_neg n10]
      obtain ⟨A2, g1, g2, g3⟩ := br_car (c := c) (s := oth + s) htd iC hm (by omega) (by omega) (by rw [s2, nI_add]) hpA
      obtain ⟨B2, j1, j2, j3⟩ := hpB (oth + s) B1 iB
      have i72 : ∀ g j, g < mn → j < 9 → B2.1 102 (9 * g + j) = fl g j := fun g j a b => by rw [j3 _ _ (by omega)]; exact i7 g j a b
      have take : ∃ (ch2 bs2 ls2 x y : Int32) (A3 B3 : fm_M), J_X0_seek_108 (G_X0_seek_66 fa t 45 n (nI (9 ^ mn))) t 45 n (nI (9 ^ mn)) ch (nI c) (nI (w * z)) A1 = some ((ch2, x), A3) ∧ J_X10_bribe_233 (G_X10_bribe_100 fb n l2 (nI mn) (nI oth)) n l2 (nI mn) (nI oth) bs ls (nI c) (nI (oth + s)) (nI (w * z)) 1 (nI mn) B1 = some ((bs2, ls2, y), B3) ∧ br_C A0 A3 fl pv mn oth ∧ ag iv_pB B0 B3 ∧ br_b mn (A3.1 66 5) ch2 bs2 ls2 := by
        rw [J_X0_seek_108, g1, fm_bd_s, J_X10_bribe_233, j1, fm_bd_s, nI_1]
        by_cases q : pv (oth + s) = 0
        · rw [if_pos q, if_pos q]
          exact ih (c + 1) fa fb ch bs ls A2 B2 (by omega) (by omega) (by omega) g2 j2 i72 (by rw [g3]; exact ib)
        · rw [if_neg q, if_neg q, fm_lt]
          exact ih (c + 1) fa fb (nI c) (nI c) (nI (w * z)) (fm_up A2 66 5 (nI (w * z))) B2 (by omega) (by omega) (by omega) ⟨fun q k u => by rw [fm_up_ne (by unfold br_A iv_pA at u; omega)]; exact g2.1 q k u, by rw [fm_up_ne (by omega)]; exact g2.2.1, by rw [fm_up_ne (by omega)]; exact g2.2.2.1, fun g j a b => by rw [fm_up_ne (by omega)]; exact g2.2.2.2.1 g j a b, fun r hr => by rw [fm_up_ne (by omega)]; exact g2.2.2.2.2 r hr⟩ j2 i72 (Or.inr ⟨c, w * z, by omega, by omega, rfl, rfl, rfl, fm_up_get⟩)
      rcases id ib with ⟨b1, b2, -⟩ | ⟨b, v, b1, b2, b3, b4, b5, b6⟩
      · rw [if_pos b1, if_pos b2]; exact take
      · rw [if_neg (show ¬ A1.1 66 5 = -1 by rw [b6]; exact nI_nm1 (by omega)), if_neg (show ¬ bs = -1 by rw [b3]; exact nI_nm1 (by omega))]
        by_cases q : ls ≤ nI (w * z)
        · rw [if_pos q, if_pos (show A1.1 66 5 ≤ nI (w * z) by rw [b6, ← b5]; exact q)]
          exact ih (c + 1) fa fb ch bs ls A1 B1 (by omega) (by omega) (by omega) iC iB i7 ib
        · rw [if_neg q, if_neg (show ¬ A1.1 66 5 ≤ nI (w * z) by rw [b6, ← b5]; exact q)]; exact take
    · rw [k2, bflag_0 mn k1]
      show ∃ (ch2 bs2 ls2 x y : Int32) (A2 B2 : fm_M), fm_bd (some ((-1 : Int32), A1)) _ = some ((ch2, x), A2) ∧ (if (0 : Int32) = 0 then _ else _) = some ((bs2, ls2, y), B2) ∧ _
      rw [fm_bd_s, if_pos rfl, if_pos rfl]
      exact ih (c + 1) fa fb ch bs ls A1 B1 (by omega) (by omega) (by omega) iC iB i7 ib
theorem br_set {mn c : Nat} (hm : mn ≤ 4) (hc : c < 2 ^ 31) (l1 : Int32) : ∀ (i fa : Nat) (M : fm_M), i ≤ mn → i < fa → ∃ (x y : Int32) (M2 : fm_M), G_X0_settle_9 fa l1 (nI (c / 9 ^ (mn - i))) (nI i - 1) M = some ((x, y), M2) ∧ (∀ g, g < i → M2.1 69 g = nI (dg c (mn - 1 - g)) - 4) ∧ (∀ q k, (q ≠ 69 ∨ i ≤ k) → M2.1 q k = M.1 q k) := by
  intro i
  induction i with
  | zero =>
    intro fa M hi hfa
    obtain ⟨fa, rfl⟩ : ∃ z, fa = z + 1 := ⟨fa - 1, by omega⟩
    rw [G_X0_settle_9, if_pos (by decide)]
    exact ⟨_, _, M, rfl, fun g h => by omega, fun _ _ _ => rfl⟩
  | succ i ih =>
    intro fa M hi hfa
    obtain ⟨fa, rfl⟩ : ∃ z, fa = z + 1 := ⟨fa - 1, by omega⟩
    obtain ⟨d1, d2⟩ := br_dig (c := c) (j := mn - (i + 1)) hc
    have e1 : nI i + (-1) = nI i - 1 := by rw [Int32.sub_eq_add_neg]
    have ej : mn - (i + 1) + 1 = mn - i := by omega
    have ek : mn - 1 - i = mn - (i + 1) := by omega
    rw [nI_pred, G_X0_settle_9, if_neg (nI_pos (by omega)), d1, d2, fm_gd_t (nu_inb (by omega) (by omega)), nI_clamp (by omega), e1, ej]
    simp only [fm_lt]
    obtain ⟨x, y, M2, b1, b2, b3⟩ := ih fa (fm_up M 69 i (nI (dg c (mn - (i + 1))) - 4)) (by omega) (by omega)
    refine ⟨x, y, M2, b1, fun g hg => ?_, fun q k u => by rw [b3 q k (by omega), fm_up_ne (by omega)]⟩
    by_cases w : g = i
    · subst w; rw [b3 _ _ (by omega), fm_up_get, ek]
    · exact b2 g (by omega)
theorem pu_bribe {A B : fm_M} {t nf nm kd km : Nat} (h : iv_all A B t nf nm kd km) (a1 a2 : Int32) : pu t nf nm kd km (F_X9_bribe a1 a2 A) (F_X10_bribe a1 a2 B) := by
  have h0 := iv_thr h 0
  rw [F_X9_bribe, F_X10_bribe]
  simp only [fm_lt]
  generalize fm_up B 76 0 0 = B1 at *
  have ht := fm_td (iv_tt h)
  obtain ⟨hnf, n1, n2⟩ := iv_nf h0
  rcases iv_isNote a1 with e3 | ⟨-, e3⟩
  · rw [(e3 A).1, (e3 B1).2, fm_bd_s, fm_bd_s, if_pos rfl, if_pos rfl]; exact rR_ret h0 rfl
  rw [(e3 A).1, (e3 B1).2, fm_bd_s, fm_bd_s, if_neg n10, if_neg n10]
  by_cases c1 : a2 < 0
  · rw [if_pos c1, if_pos c1]; exact rR_ret h0 rfl
  rw [if_neg c1, if_neg c1]
  by_cases c2 : a2 ≤ 4
  · rw [if_pos c2, if_pos c2, iv_t h0, fm_gd_t (iv_tt h), fm_gd_t (show fm_inb 0 20 = true by decide), n1, ck_0, n2]
    obtain ⟨w, hw, rfl⟩ := nI_of2 (M := 4) (n := 4) rfl c1 c2
    generalize hmn : min 4 nf = mn
    have em : i_min 4 (nI nf) = nI mn := by
      unfold i_min
      by_cases q : nf < 4
      · rw [if_pos (show nI nf < 4 from nI_lt (b := 4) q (by omega)), ← hmn, Nat.min_eq_right (by omega)]
      · rw [if_neg (show ¬ nI nf < 4 from nI_nlt (b := 4) (by omega) (by omega)), ← hmn, Nat.min_eq_left (by omega)]; rfl
    rw [em]
    -- the search
    have key : (w = 4 ∨ w < mn) → pu t nf nm kd km (J_X9_bribe_38 a1 (nI w) A) (J_X10_bribe_49 a1 (nI w) (nI mn) B1) := by
      intro hw2
      obtain ⟨A2, x1, x2, x3, x4, x5⟩ := iv_trial0 h0
      obtain ⟨hv, v1, v2⟩ := br_hv x2 x3 x4 a1
      obtain ⟨pv, pv1⟩ := br_pv x2 x3 x4 a1
      have kp : ∀ f, ∃ x : Nat, f < nf → (100 ≤ x ∧ x ≤ 999) ∧ A2.1 46 f = nI x := by
        intro f
        by_cases hf : f < nf
        · obtain ⟨x, y1, y2, y3⟩ := x4.2.2.2.1 f hf
          exact ⟨x, fun _ => ⟨⟨y1, y2⟩, y3⟩⟩
        · exact ⟨0, fun z => absurd z hf⟩
      obtain ⟨fl, hT⟩ := br_tab x2 x3 x4 a1 (fun f => Classical.choose (kp f))
      obtain ⟨-, ⟨z, z1, z2⟩, -⟩ := x2.2.2.2.1.2.2.2.1
      have z3 : B1.1 78 5 = nI z := by rw [← x2.2.2.2.1.2.2.1.2.2.1]; exact z2
      -- the class listens
      generalize hA3 : fm_up (fm_up A2 66 3 (nI mn)) 66 5 (-1) = A3
      obtain ⟨A4, f1, f2, f3⟩ := cl_fill (x := 68) (n := 793) (v := 0) (M := A3) rfl (by omega)
      have a4 : ∀ q k, q ≠ 68 → (q ≠ 66 ∨ (k ≠ 3 ∧ k ≠ 5)) → A4.1 q k = A2.1 q k := fun q k a b => by rw [f3 q k a, ← hA3, fm_up_ne (by omega), fm_up_ne (by omega)]
      have m4 : A4.1 66 3 = nI mn := by rw [f3 _ _ (by omega), ← hA3, fm_up_ne (by omega), fm_up_get]
      have p4 : A4.1 66 5 = -1 := by rw [f3 _ _ (by omega), ← hA3, fm_up_get]
      have ag4 : ag br_A A2 (fm_up A4 66 4 0) := fun q k y => by rw [fm_up_ne (by unfold br_A iv_pA at y; omega), a4 q k (by unfold br_A iv_pA at y; omega) (by unfold br_A iv_pA at y; omega)]
      obtain ⟨A5, g1, g2, g3, g4⟩ := br_oA ht hnf (iv_nf x2).2.1 (fun f hf => (v2 f hf).1) (nf - mn) mn fm_fuel 0 (fm_up A4 66 4 0) (by omega) (by unfold fm_fuel; omega) ag4 fm_up_get
      have m5 : A5.1 66 3 = nI mn := by rw [g4 _ _ (by omega) (by omega), fm_up_ne (by omega)]; exact m4
      obtain ⟨A6, k1, k2, k3, k4⟩ := br_out ht (show mn ≤ nf by omega) (by omega) hT (fun f hf => (Classical.choose_spec (kp f) hf).1) (fun f hf => (Classical.choose_spec (kp f) hf).2) mn 0 fm_fuel A5 (by omega) (by unfold fm_fuel; omega) g2 m5 (fun g j a => by omega)
      have lis : F_X0_listen t 45 a1 A4 = some ((), A6) := by
        rw [F_X0_listen, fm_gd_t (iv_tt h), fm_gd_t (by decide), fm_lt, fm_lt, fm_up_ne (by omega), m4, g1, fm_bd_s, show G_X0_listen_46 fm_fuel t 45 a1 0 A5 = _ from k1, fm_bd_s]
      have ol := br_oth_le v1 (nf - mn) mn (by omega)
      rw [Nat.zero_add] at g3
      have iC : br_C A2 A6 fl pv mn (br_oth hv (nf - mn) mn) := ⟨k2, by rw [k4 _ _ (by omega) (by omega) (by omega)]; exact m5, by rw [k4 _ _ (by omega) (by omega) (by omega)]; exact g3, k3, fun s hs => Or.inl (by rw [k4 _ _ (by omega) (by omega) (by omega), g4 _ _ (by omega) (by omega), fm_up_ne (by omega)]; exact f2 s hs)⟩
      have p6 : A6.1 66 5 = -1 := by rw [k4 _ _ (by omega) (by omega) (by omega), g4 _ _ (by omega) (by omega), fm_up_ne (by omega)]; exact p4
      -- the reference lays its table
      obtain ⟨B2, l1, l2, l3⟩ := br_mout (show mn ≤ nf by omega) (by omega) hT (fun f hf => (Classical.choose_spec (kp f) hf).1) (fun f hf => by
        have := x3.2.1 f hf
        rw [Nat.mul_zero, Nat.zero_add] at this
        rw [← this]; exact (Classical.choose_spec (kp f) hf).2) mn 0 fm_fuel B1 (by omega) (by unfold fm_fuel; omega) ag_rf (fun g j a => by omega)
      obtain ⟨B3, o1, o2, o3⟩ := br_oB hnf n2 (fun f hf => (v2 f hf).2) (nI w) (nI mn) (nf - mn) mn fm_fuel 0 B2 (by omega) (by unfold fm_fuel; omega) l2
      rw [Nat.zero_add] at o1
      have h9b : 9 ^ mn ≤ 9 ^ 4 := Nat.pow_le_pow_right (by omega) (by omega)
      have h94 : (9 : Nat) ^ 4 = 6561 := rfl
      obtain ⟨ch, bs, ls, x, y, A7, B4, s1, s2, s3, s4, s5⟩ := br_srch (oth := br_oth hv (nf - mn) mn) (iv_tt h) (by omega) z1 z2 z3 (by omega) (fun g j hg => (hT g j (by omega)).elim (fun q => Or.inl q.1) (fun q => by obtain ⟨-, v, q1, q2, -⟩ := q; exact Or.inr ⟨v, q1, q2⟩)) (fun s => ⟨(pv1 s).1, (pv1 s).2.1⟩) (fun s => (pv1 s).2.2) (nI w) (9 ^ mn) 0 fm_fuel fm_fuel 0 (-1) 0 A6 B3 (by omega) (by unfold fm_fuel; omega) (by unfold fm_fuel; omega) iC o2 (fun g j a b => by rw [o3 _ _ (by omega)]; exact l3 g j a b) (Or.inl ⟨p6, rfl, rfl⟩)
      have cn := cl_nines (M := A6) (t := t) (l3 := a1) iC.2.1 (show mn ≤ 4 by omega)
      -- the end of both
      have fin : ∀ A8 : fm_M, F_X0_settle ch A7 = some ((), A8) → (∀ q k, q ≠ 69 → A8.1 q k = A7.1 q k) → (A7.1 66 5 = -1 ∨ ∃ b : Nat, b < 9 ^ mn ∧ bs = nI b ∧ ∀ g, g < mn → A8.1 69 g = nI (dg b (mn - 1 - g)) - 4) → pu t nf nm kd km (J_X9_bribe_38 a1 (nI w) A) (J_X10_bribe_49 a1 (nI w) (nI mn) B1) := by
        intro A8 r1 r2 r3
        have i8 : iv_all A8 B4 t nf nm kd km := iv_cg x2 (fun q k u => by rw [r2 q k (by unfold iv_pA at u; omega)]; exact s3.1 q k (Or.inl u)) s4
        have sk : F_X0_seek t 45 a1 A2 = some ((), A8) := by
          rw [F_X0_seek, fm_gd_t (iv_tt h), fm_gd_t (by decide), (iv_nf x2).2.1, em]
          simp only [fm_lt]
          rw [hA3, f1, fm_bd_s, lis, fm_bd_s, cn, fm_bd_s, show G_X0_seek_66 fm_fuel t 45 a1 (nI (9 ^ mn)) 0 0 A6 = _ from s1, fm_bd_s, r1, fm_bd_s]
        rw [J_X9_bribe_38, x1, fm_bd_s, fm_lt, iv_t x2, fm_gd_t (iv_tt h), sk, fm_bd_s, J_X10_bribe_49, F_X10_layFiled, show G_X10_layFiled_2 fm_fuel (nI mn) a1 0 B1 = _ from l1, fm_bd_s, fm_bd_s, show G_X10_bribe_61 fm_fuel a1 (nI w) (nI mn) 0 (nI mn) B2 = _ from o1, fm_bd_s, show G_X10_bribe_100 fm_fuel a1 (nI w) (nI mn) (nI (br_oth hv (nf - mn) mn)) (-1) 0 0 B3 = _ from s2, fm_bd_s, r2 66 5 (by omega)]
        rcases s5 with ⟨b1, b2, -⟩ | ⟨b, v, b1, b2, b3, b4, b5, b6⟩
        · rw [if_pos b1, if_pos b2]; exact rR_ret i8 rfl
        · have nb : ¬ A7.1 66 5 = -1 := by rw [b6]; exact nI_nm1 (by omega)
          have nbs : ¬ bs = -1 := by rw [b3]; exact nI_nm1 (by omega)
          rw [if_neg nb, if_neg (show ¬ (bs, ls, y).1 = -1 from nbs)]
          obtain ⟨b', q1, q2, q3⟩ := r3.resolve_left nb
          by_cases e4 : w = 4
          · subst e4
            rw [if_pos (show nI 4 = 4 from rfl), if_pos (show nI 4 = 4 from rfl), b6, b5]; exact rR_ret i8 rfl
          · have hwm : w < mn := hw2.resolve_left e4
            have n4 : ¬ nI w = 4 := fun q => e4 ((nI_eq (b := 4) (by omega) (by omega)).mp q)
            have e1 : (nI mn - 1 - nI w : Int32) = nI (mn - 1 - w) := by rw [show (1 : Int32) = nI 1 from rfl, pk_sub (by omega), pk_sub (by omega)]
            have h9 : 0 < 9 ^ (mn - 1 - w) := Nat.pow_pos (by omega)
            have h9c : 9 ^ (mn - 1 - w) ≤ 9 ^ 4 := Nat.pow_le_pow_right (by omega) (by omega)
            rw [if_neg n4, if_neg n4, F_X0_filingOf, if_neg c1, if_neg (show ¬ (4 : Int32) ≤ nI w from nI_ge (b := 4) (by omega) (by omega)), fm_gd_t (nu_inb (by omega) (by omega)), nI_clamp (by omega), fm_bd_s, q3 w hwm, e1, md_nines (by omega), fm_bd_s, fm_gd_t (show fm_nz (nI (9 ^ (mn - 1 - w))) = true from decide_eq_true (nI_ne0 h9 (by omega))), q2, pk_div (by omega) h9 (by omega), (br_dig (c := b') (by omega)).1]
            exact rR_ret i8 rfl
      rcases id s5 with ⟨b1, b2, b0⟩ | ⟨b, v, b1, b2, b3, b4, b5, b6⟩
      · obtain ⟨u1, u2, A8, t1, t2, t3⟩ := br_set (mn := mn) (c := 0) (by omega) (by omega) (nI 0) mn fm_fuel A7 (Nat.le_refl _) (by unfold fm_fuel; omega)
        rw [Nat.sub_self, Nat.pow_zero, Nat.div_one] at t1
        exact fin A8 (by rw [F_X0_settle, fm_lt, s3.2.1, b0, show G_X0_settle_9 fm_fuel 0 0 (nI mn - 1) A7 = _ from t1, fm_bd_s]) (fun q k u => t3 q k (Or.inl u)) (Or.inl b1)
      · obtain ⟨u1, u2, A8, t1, t2, t3⟩ := br_set (mn := mn) (c := b) (by omega) (by omega) (nI b) mn fm_fuel A7 (Nat.le_refl _) (by unfold fm_fuel; omega)
        rw [Nat.sub_self, Nat.pow_zero, Nat.div_one] at t1
        exact fin A8 (by rw [F_X0_settle, fm_lt, s3.2.1, b4, t1, fm_bd_s]) (fun q k u => t3 q k (Or.inl u)) (Or.inr ⟨b, b1, b3, t2⟩)
    by_cases e4 : w = 4
    · subst e4
      rw [if_pos (show (4 : Int32) ≤ nI 4 from nI_le (a := 4) (by omega) (by omega)), if_pos (show (4 : Int32) ≤ nI 4 from nI_le (a := 4) (by omega) (by omega))]; exact key (Or.inl rfl)
    · rw [if_neg (show ¬ (4 : Int32) ≤ nI w from nI_ge (b := 4) (by omega) (by omega)), if_neg (show ¬ (4 : Int32) ≤ nI w from nI_ge (b := 4) (by omega) (by omega))]
      by_cases q : w < nf
      · rw [if_pos (nI_lt q (by omega)), if_pos (nI_lt (show w < mn by omega) (by omega))]; exact key (Or.inr (by omega))
      · rw [if_neg (nI_nlt (by omega) (by omega)), if_neg (nI_nlt (show mn ≤ w by omega) (by omega))]; exact rR_ret h0 rfl
  · rw [if_neg c2, if_neg c2]; exact rR_ret h0 rfl
