/-! feed -/
theorem fd_255 (y : Int32) : (y &&& 255).toInt8 = y.toInt8 := by
  apply Int8.toBitVec_inj.mp
  rw [Int32.toBitVec_toInt8, Int32.toBitVec_toInt8, Int32.toBitVec_and]
  apply BitVec.eq_of_getLsbD_eq
  intro i hi
  rw [BitVec.getLsbD_signExtend, BitVec.getLsbD_signExtend, BitVec.getLsbD_and]
  have : (255 : Int32).toBitVec.getLsbD i = true := by
    have : ∀ j : Nat, j < 8 → (255 : Int32).toBitVec.getLsbD j = true := by decide
    exact this i hi
  rw [this, Bool.and_true]
  simp [show i < 32 by omega]
def fd_b (x : Int32) (r : Nat) : Int32 := x >>> (nI (24 - 8 * r) &&& 31)
theorem cl_ap1 {A : fm_M} {c fa : Nat} (x s : Int32) (h : A.1 1 2 = nI c) (hc : c < 700) (hs : ¬ s < 0) : G_X6_append_3 (fa + 1) x s A = G_X6_append_3 fa x (s + (-8)) (fm_up (fm_up A 2 c (x >>> (s &&& 31)).toInt8.toInt32) 1 2 (nI (c + 1))) := by
  rw [G_X6_append_3, if_neg hs, h, if_neg (show ¬ (700 : Int32) ≤ nI c from nI_ge (b := 700) hc (by omega)), fm_gd_t (nu_inb hc (by omega)), nI_clamp (by omega), pk_vb]
  simp only [fm_lt]
  rw [fm_up_ne (by omega), h, nI_1]
theorem cl_append {A : fm_M} {c : Nat} (x : Int32) (h : A.1 1 2 = nI c) (hc : c + 4 ≤ 700) : ∃ A2 : fm_M, F_X6_append x A = some ((), A2) ∧ A2.1 1 2 = nI (c + 4) ∧ (∀ r, r < 4 → A2.1 2 (c + r) = (fd_b x r).toInt8.toInt32) ∧ (∀ q k, (q ≠ 1 ∨ k ≠ 2) → (q ≠ 2 ∨ k < c) → A2.1 q k = A.1 q k) := by
  rw [F_X6_append, show fm_fuel = 9995 + 1 + 1 + 1 + 1 + 1 from rfl, cl_ap1 x 24 h (by omega) (by decide), show (24 : Int32) + (-8) = 16 from by decide, cl_ap1 (c := c + 1) x 16 fm_up_get (by omega) (by decide), show (16 : Int32) + (-8) = 8 from by decide, cl_ap1 (c := c + 1 + 1) x 8 fm_up_get (by omega) (by decide), show (8 : Int32) + (-8) = 0 from by decide, cl_ap1 (c := c + 1 + 1 + 1) x 0 fm_up_get (by omega) (by decide), show (0 : Int32) + (-8) = -8 from by decide, G_X6_append_3, if_pos (by decide), fm_bd_s]
  refine ⟨_, rfl, fm_up_get, fun r hr => ?_, fun q k z y => ?_⟩
  · rcases (show r = 0 ∨ r = 1 ∨ r = 2 ∨ r = 3 by omega) with rfl | rfl | rfl | rfl
    · rw [fm_up_ne (by omega), fm_up_ne (by omega), fm_up_ne (by omega), fm_up_ne (by omega), fm_up_ne (by omega), fm_up_ne (by omega), fm_up_ne (by omega), Nat.add_zero, fm_up_get]; rfl
    · rw [fm_up_ne (by omega), fm_up_ne (by omega), fm_up_ne (by omega), fm_up_ne (by omega), fm_up_ne (by omega), fm_up_get]; rfl
    · rw [fm_up_ne (by omega), fm_up_ne (by omega), fm_up_ne (by omega), fm_up_get]; rfl
    · rw [fm_up_ne (by omega), fm_up_get]; rfl
  · rw [fm_up_ne (by omega), fm_up_ne (by omega), fm_up_ne (by omega), fm_up_ne (by omega), fm_up_ne (by omega), fm_up_ne (by omega), fm_up_ne (by omega), fm_up_ne (by omega)]
def fd_x (a b c d e : Int32) (j : Nat) : Int32 := if j < 4 then a else if j < 8 then b else if j < 12 then c else if j < 16 then d else e
theorem fd_sh : ∀ j : Nat, j < 20 → ((24 : Int32) - 8 * i_rem (nI j) 4) &&& 31 = nI (24 - 8 * (j % 4)) &&& 31 := by decide +kernel
theorem md_feed {B : fm_M} {k : Nat} (a b c d e : Int32) (h : B.1 76 2 = nI k) (hk : k + 20 ≤ 700) : ∀ (m i fb : Nat) (B1 : fm_M), i + m = 20 → m < fb → B1.1 76 2 = nI k → ∃ B2 : fm_M, G_X10_feed_20 fb a b c d e (nI i) B1 = some (nI 20, B2) ∧ (∀ j, i ≤ j → j < 20 → B2.1 77 (k + j) = fd_b (fd_x a b c d e j) (j % 4) &&& 255) ∧ (∀ q z, (q ≠ 77 ∨ z < k + i) → B2.1 q z = B1.1 q z) := by
  intro m
  induction m with
  | zero =>
    intro i fb B1 hi hfb h1
    obtain ⟨fb, rfl⟩ : ∃ z, fb = z + 1 := ⟨fb - 1, by omega⟩
    have : i = 20 := by omega
    subst this
    rw [G_X10_feed_20, if_pos (by decide)]
    exact ⟨B1, rfl, fun j a b => by omega, fun _ _ _ => rfl⟩
  | succ m ih =>
    intro i fb B1 hi hfb h1
    obtain ⟨fb, rfl⟩ : ∃ z, fb = z + 1 := ⟨fb - 1, by omega⟩
    have le : ∀ N : Nat, N < 2 ^ 31 → (nI N ≤ nI i ↔ N ≤ i) := fun N hN => nI_leI hN (by omega)
    have j73 : ∃ B2 : fm_M, J_X10_feed_73 (G_X10_feed_20 fb a b c d e) a b c d e (nI i) (fd_x a b c d e i) B1 = some (nI 20, B2) ∧ (∀ j, i ≤ j → j < 20 → B2.1 77 (k + j) = fd_b (fd_x a b c d e j) (j % 4) &&& 255) ∧ (∀ q z, (q ≠ 77 ∨ z < k + i) → B2.1 q z = B1.1 q z) := by
      rw [J_X10_feed_73, h1, nI_add, fm_gd_t (nu_inb (by omega) (by omega)), nI_clamp (by omega), fd_sh i (by omega), nI_1]
      simp only [fm_lt]
      obtain ⟨B2, e1, e2, e3⟩ := ih (i + 1) fb (fm_up B1 77 (k + i) ((fd_x a b c d e i >>> (nI (24 - 8 * (i % 4)) &&& 31)) &&& 255)) (by omega) (by omega) (by rw [fm_up_ne (by omega)]; exact h1)
      refine ⟨B2, e1, fun j x y => ?_, fun q z y => by rw [e3 q z (by omega), fm_up_ne (by omega)]⟩
      by_cases ij : j = i
      · subst ij; rw [e3 _ _ (by omega), fm_up_get]; rfl
      · exact e2 j (by omega) y
    rw [G_X10_feed_20, if_neg (show ¬ (20 : Int32) ≤ nI i from nI_ge (b := 20) (by omega) (by omega))]
    by_cases c4 : i < 4
    · rw [if_neg (show ¬ (4 : Int32) ≤ nI i from nI_ge (b := 4) c4 (by omega))]
      rw [fd_x, if_pos c4] at j73; exact j73
    rw [if_pos (show (4 : Int32) ≤ nI i from nI_le (a := 4) (by omega) (by omega))]
    by_cases c8 : i < 8
    · rw [if_neg (show ¬ (8 : Int32) ≤ nI i from nI_ge (b := 8) c8 (by omega))]
      rw [fd_x, if_neg c4, if_pos c8] at j73; exact j73
    rw [if_pos (show (8 : Int32) ≤ nI i from nI_le (a := 8) (by omega) (by omega))]
    by_cases c12 : i < 12
    · rw [if_neg (show ¬ (12 : Int32) ≤ nI i from nI_ge (b := 12) c12 (by omega))]
      rw [fd_x, if_neg c4, if_neg c8, if_pos c12] at j73; exact j73
    rw [if_pos (show (12 : Int32) ≤ nI i from nI_le (a := 12) (by omega) (by omega))]
    by_cases c16 : i < 16
    · rw [if_neg (show ¬ (16 : Int32) ≤ nI i from nI_ge (b := 16) c16 (by omega))]
      rw [fd_x, if_neg c4, if_neg c8, if_neg c12, if_pos c16] at j73; exact j73
    rw [if_pos (show (16 : Int32) ≤ nI i from nI_le (a := 16) (by omega) (by omega))]
    rw [fd_x, if_neg c4, if_neg c8, if_neg c12, if_neg c16] at j73; exact j73
theorem pI_feed {A B : fm_M} {t nf nm kd km : Nat} (h : iv_all A B t nf nm kd km) (a1 a2 a3 a4 a5 : Int32) : pI (F_X9_feed a1 a2 a3 a4 a5 A) (F_X10_feed a1 a2 a3 a4 a5 B) := by
  have h0 := iv_thr h 0
  rw [F_X9_feed, F_X10_feed]
  simp only [fm_lt]
  generalize fm_up B 76 0 0 = B1 at *
  obtain ⟨k, k1, k2, k3, k4⟩ := id h0.2.1
  rw [k2, k3]
  by_cases hk : k ≤ 680
  · rw [if_pos (show nI k ≤ 680 from nI_le (b := 680) hk (by omega)), if_pos (show nI k ≤ 680 from nI_le (b := 680) hk (by omega))]
    obtain ⟨B2, e1, e2, e3⟩ := md_feed a1 a2 a3 a4 a5 k3 (by omega) 20 0 fm_fuel B1 (by omega) (by unfold fm_fuel; omega) k3
    obtain ⟨A2, x1, x2, x3, x4⟩ := cl_append a1 k2 (by omega)
    obtain ⟨A3, y1, y2, y3, y4⟩ := cl_append a2 x2 (by omega)
    obtain ⟨A4, z1, z2, z3, z4⟩ := cl_append a3 y2 (by omega)
    obtain ⟨A5, u1, u2, u3, u4⟩ := cl_append a4 z2 (by omega)
    obtain ⟨A6, v1, v2, v3, v4⟩ := cl_append a5 u2 (by omega)
    rw [x1, fm_bd_s, y1, fm_bd_s, z1, fm_bd_s, u1, fm_bd_s, v1, fm_bd_s, v2, show G_X10_feed_20 fm_fuel a1 a2 a3 a4 a5 0 B1 = _ from e1, fm_bd_s, fm_up_get, e3 76 2 (by omega), k3, show nI k + 20 = nI (k + 20) from nI_add k 20]
    have fA : ∀ q z, (q ≠ 1 ∨ z ≠ 2) → (q ≠ 2 ∨ z < k) → A6.1 q z = A.1 q z := fun q z a b => by rw [v4 q z a (by omega), u4 q z a (by omega), z4 q z a (by omega), y4 q z a (by omega), x4 q z a b]
    have fT : ∀ j, j < 20 → A6.1 2 (k + j) = (fd_b (fd_x a1 a2 a3 a4 a5 j) (j % 4)).toInt8.toInt32 := by
      intro j hj
      unfold fd_x
      by_cases c4 : j < 4
      · rw [if_pos c4, v4 _ _ (by omega) (by omega), u4 _ _ (by omega) (by omega), z4 _ _ (by omega) (by omega), y4 _ _ (by omega) (by omega), x3 j c4, Nat.mod_eq_of_lt c4]
      rw [if_neg c4]
      by_cases c8 : j < 8
      · rw [if_pos c8, v4 _ _ (by omega) (by omega), u4 _ _ (by omega) (by omega), z4 _ _ (by omega) (by omega), show k + j = k + 4 + j % 4 by omega, y3 (j % 4) (by omega)]
      rw [if_neg c8]
      by_cases c12 : j < 12
      · rw [if_pos c12, v4 _ _ (by omega) (by omega), u4 _ _ (by omega) (by omega), show k + j = k + 4 + 4 + j % 4 by omega, z3 (j % 4) (by omega)]
      rw [if_neg c12]
      by_cases c16 : j < 16
      · rw [if_pos c16, v4 _ _ (by omega) (by omega), show k + j = k + 4 + 4 + 4 + j % 4 by omega, u3 (j % 4) (by omega)]
      · rw [if_neg c16, show k + j = k + 4 + 4 + 4 + 4 + j % 4 by omega, v3 (j % 4) (by omega)]
    refine ⟨_, _, A6, _, rfl, rfl, rfl, t, nf, nm, kd, km, ?_⟩
    obtain ⟨⟨i1, i2, i3⟩, -, i5, i6, i7, i8, i9, i10, i11, i12⟩ := id h0
    have ht := fm_td (iv_tt h)
    have hnf := (iv_nf h0).1
    have hnm := (iv_nm h0).1
    have fB : ∀ q z, (q ≠ 77) → (q ≠ 76 ∨ z ≠ 2) → (fm_up B2 76 2 (nI (k + 20))).1 q z = B1.1 q z := fun q z a b => by rw [fm_up_ne b, e3 q z (Or.inl a)]
    refine ⟨⟨by rw [fA 0 1 (by omega) (by omega)]; exact i1, by rw [fA 1 5 (by omega) (by omega)]; exact i2, fun i hi => by rw [fA 3 i (by omega) (by omega)]; exact i3 i hi⟩, ⟨k + 20, by omega, v2, fm_up_get, fun i hi => ?_⟩, ⟨by rw [fA 1 3 (by omega) (by omega), fB 76 26 (by omega) (by omega)]; exact i5.1, by rw [fA 1 4 (by omega) (by omega), fB 76 27 (by omega) (by omega)]; exact i5.2⟩, iv_td_cg i6 (fun q z a b => fA q z (by omega) (by omega)) (fun q z a b => fB q z (by omega) (by omega)), iv_st_cg i7 hnf hnm (fun q z a b => fA q z (by omega) (by omega)) (fun q z a => fB q z (by unfold md_cc at a; omega) (by unfold md_cc at a; omega)), iv_so_cg i8 (fun q z a => fA q z (by omega) (by omega)) (fun q z a => fB q z (by omega) (by omega)), iv_im_cg i9 hnf hnm (fun q z a => fA q z (by omega) (by omega)) (fun q z a => fB q z (by unfold md_cc at a; omega) (by unfold md_cc at a; omega)), iv_dd_cg i10 hnf hnm (fun q z a => fA q z (by omega) (by omega)) (fun q z a => fB q z (by omega) (by omega)), iv_mn_cg i11 (fun q z a => fA q z (by omega) (by omega)) (fun q z a => fB q z (by omega) (by omega)), ?_⟩
    · by_cases c : i < k
      · obtain ⟨z, w1, w2, w3⟩ := k4 i c
        exact ⟨z, w1, by rw [fm_up_ne (by omega), e3 77 i (by omega)]; exact w2, by rw [fA 2 i (by omega) (by omega)]; exact w3⟩
      · obtain ⟨z, w1, w2⟩ := pk_andE (fd_b (fd_x a1 a2 a3 a4 a5 (i - k)) ((i - k) % 4)) (m := 255) 8 rfl
        have ei : i = k + (i - k) := by omega
        refine ⟨z, w1, ?_, ?_⟩
        · rw [fm_up_ne (by omega), ei, e2 (i - k) (by omega) (by omega)]; exact w2
        · rw [ei, fT (i - k) (by omega), ← w2, fd_255]
    · unfold iv_md
      rw [fB 76 43 (by omega) (by omega), fB 76 44 (by omega) (by omega), fB 76 45 (by omega) (by omega), fB 76 46 (by omega) (by omega)]
      exact i12
  · rw [if_neg (show ¬ nI k ≤ 680 from nI_ge (a := 680) (by omega) (by omega)), if_neg (show ¬ nI k ≤ 680 from nI_ge (a := 680) (by omega) (by omega))]
    exact pu_I (rR_ret h0 rfl)
