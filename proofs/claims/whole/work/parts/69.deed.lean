/-! what was done by call: touched, filed, put off, earned, undone -/
theorem cl_drop {A : fm_M} : ∃ A2, F_X1_dropOldest A = some ((), A2) ∧ A2.1 59 3 = nI 19 ∧ (∀ j, j < 19 → A2.1 60 j = A.1 60 (j + 1) ∧ A2.1 61 j = A.1 61 (j + 1) ∧ A2.1 62 j = A.1 62 (j + 1)) ∧ (∀ q k, (q < 59 ∨ 62 < q) → A2.1 q k = A.1 q k) := by
  have c19 : (fm_up A 59 3 19).1 59 3 = 19 := fm_up_get
  have cp : ∀ f : Nat → Int32, ∀ j, j < 19 → va_cpy f f (Int32.toNatClampNeg 1) (Int32.toNatClampNeg 0) (Int32.toNatClampNeg 19) j = f (j + 1) := fun f j hj => by
    rw [show Int32.toNatClampNeg 1 = 1 from rfl, show Int32.toNatClampNeg 0 = 0 from rfl, show Int32.toNatClampNeg 19 = 19 from rfl, pk_cpy_in (by omega) (by omega)]
    rw [Nat.sub_zero, Nat.add_comm]
  rw [F_X1_dropOldest]
  simp only [fm_lt]
  rw [c19, fm_gd_t (by decide)]
  have r1 : ∀ f : Nat → Int32, (fm_row (fm_up A 59 3 19) 60 f).1 59 3 = 19 := fun f => by rw [fm_row_n (by omega)]; exact c19
  rw [r1, fm_gd_t (by decide)]
  have r2 : ∀ f g : Nat → Int32, (fm_row (fm_row (fm_up A 59 3 19) 60 f) 61 g).1 59 3 = 19 := fun f g => by rw [fm_row_n (by omega)]; exact r1 f
  rw [r2, fm_gd_t (by decide)]
  refine ⟨_, rfl, ?_, fun j hj => ⟨?_, ?_, ?_⟩, fun q k h => ?_⟩
  · rw [fm_row_n (by omega)]; exact r2 _ _
  · rw [fm_row_n (by omega), fm_row_n (by omega), fm_row_g, cp _ j hj, fm_up_ne (by omega)]
  · rw [fm_row_n (by omega), fm_row_g, cp _ j hj, fm_row_n (by omega), fm_up_ne (by omega)]
  · rw [fm_row_g, cp _ j hj, fm_row_n (by omega), fm_row_n (by omega), fm_up_ne (by omega)]
  · rw [fm_row_n (by omega), fm_row_n (by omega), fm_row_n (by omega), fm_up_ne (by omega)]
/-- a deed is noted: kn of them stay, moved by s -/
def ad_A (A A3 : fm_M) (kn s : Nat) (a b c : Int32) : Prop := A3.1 59 3 = nI (kn + 1) ∧ (∀ j, j < kn → A3.1 60 j = A.1 60 (j + s) ∧ A3.1 61 j = A.1 61 (j + s) ∧ A3.1 62 j = A.1 62 (j + s)) ∧ A3.1 60 kn = a ∧ A3.1 61 kn = b ∧ A3.1 62 kn = c
theorem cl_add13 {A : fm_M} {kn : Nat} (a b c : Int32) (hk : kn < 20) (h : A.1 59 3 = nI kn) : ∃ A2, J_X1_add_13 a b c A = some ((), A2) ∧ ad_A A A2 kn 0 a b c ∧ (∀ q k, (q < 59 ∨ 62 < q) → A2.1 q k = A.1 q k) := by
  have e0 : Int32.toNatClampNeg (nI kn) = kn := nI_clamp (by omega)
  rw [J_X1_add_13]
  simp only [fm_lt]
  rw [h, fm_gd_t (nu_inb hk (by omega)), e0]
  have r1 : (fm_up A 60 kn a).1 59 3 = nI kn := by rw [fm_up_ne (by omega)]; exact h
  rw [r1, fm_gd_t (nu_inb hk (by omega)), e0]
  have r2 : (fm_up (fm_up A 60 kn a) 61 kn b).1 59 3 = nI kn := by rw [fm_up_ne (by omega)]; exact r1
  rw [r2, fm_gd_t (nu_inb hk (by omega)), e0]
  have r3 : (fm_up (fm_up (fm_up A 60 kn a) 61 kn b) 62 kn c).1 59 3 = nI kn := by rw [fm_up_ne (by omega)]; exact r2
  rw [r3, nI_1]
  refine ⟨_, rfl, ⟨fm_up_get, fun j hj => ⟨?_, ?_, ?_⟩, ?_, ?_, ?_⟩, fun q k z => ?_⟩ <;> simp (disch := omega) only [fm_up_ne, fm_up_get, Nat.add_zero]
theorem cl_add {A : fm_M} {kd : Nat} (a b c : Int32) (hk : kd ≤ 20) (h : A.1 59 3 = nI kd) : ∃ A2, F_X1_add a b c A = some ((), A2) ∧ ad_A A A2 (if kd = 20 then 19 else kd) (if kd = 20 then 1 else 0) a b c ∧ (∀ q k, (q < 59 ∨ 62 < q) → A2.1 q k = A.1 q k) := by
  rw [F_X1_add, h]
  by_cases z : kd = 20
  · rw [if_pos z, if_pos z, if_neg (by rw [z]; decide)]
    obtain ⟨A1, e1, e2, e3, e4⟩ := cl_drop (A := A)
    obtain ⟨A2, f1, ⟨f2, f3, f4, f5, f6⟩, f7⟩ := cl_add13 (A := A1) a b c (kn := 19) (by omega) e2
    rw [e1, fm_bd_s, f1]
    refine ⟨A2, rfl, ⟨f2, fun j hj => ?_, f4, f5, f6⟩, fun q k y => by rw [f7 q k y, e4 q k y]⟩
    obtain ⟨g1, g2, g3⟩ := f3 j hj
    obtain ⟨i1, i2, i3⟩ := e3 j hj
    exact ⟨by rw [g1]; exact i1, by rw [g2]; exact i2, by rw [g3]; exact i3⟩
  · rw [if_neg z, if_neg z, if_pos (show nI kd < 20 from nI_lt (a := kd) (b := 20) (by omega) (by omega))]
    exact cl_add13 a b c (by omega) h
def ad_B (B B3 : fm_M) (kn s : Nat) : Prop := B3.1 76 42 = nI (kn + 1) ∧ (∀ j, j < kn → iv_ec B B3 (3 + (j + s)) (3 + j)) ∧ iv_ec B B3 0 (3 + kn)
theorem md_ec_copy {B B2 : fm_M} {a b : Nat} (h : (B2.1 94 a = B.1 94 b ∧ B2.1 95 a = B.1 95 b ∧ B2.1 96 a = B.1 96 b ∧ B2.1 97 a = B.1 97 b) ∧ (∀ f, f < 8 → B2.1 98 (8 * a + f) = B.1 98 (8 * b + f)) ∧ (∀ m, m < 10 → B2.1 99 (10 * a + m) = B.1 99 (10 * b + m) ∧ B2.1 100 (10 * a + m) = B.1 100 (10 * b + m) ∧ B2.1 101 (10 * a + m) = B.1 101 (10 * b + m))) : iv_ec B B2 b a := h
theorem md_cc_ne {c d q k : Nat} (h : md_cc c q k) (hn : c ≠ d) : ¬ md_cc d q k := by unfold md_cc at h ⊢; omega
theorem md_shift : ∀ (m i fb : Nat) (B : fm_M), 1 ≤ i → i + m = 20 → m < fb → ∃ B2, G_X10_keepNow_11 fb (nI i) B = some (nI 20, B2) ∧ (∀ j, i ≤ j → j < 20 → iv_ec B B2 (3 + j) (2 + j)) ∧ (∀ q k, (∀ j, i ≤ j → j < 20 → ¬ md_cc (2 + j) q k) → B2.1 q k = B.1 q k) := by
  intro m
  induction m with
  | zero =>
    intro i fb B h1 hi hfb
    obtain ⟨fb, rfl⟩ : ∃ z, fb = z + 1 := ⟨fb - 1, by omega⟩
    have : i = 20 := by omega
    subst this
    rw [G_X10_keepNow_11, if_pos (by decide)]
    exact ⟨B, rfl, fun j _ _ => by omega, fun _ _ _ => rfl⟩
  | succ m ih =>
    intro i fb B h1 hi hfb
    obtain ⟨fb, rfl⟩ : ∃ z, fb = z + 1 := ⟨fb - 1, by omega⟩
    have e1 : (3 : Int32) + nI i = nI (3 + i) := nI_add 3 i
    have e2 : nI (3 + i) - 1 = nI (2 + i) := by rw [show 3 + i = 2 + i + 1 by omega, nI_pred]
    obtain ⟨B1, c1, c2, c3, c4, c5⟩ := md_copy (B := B) (a := 2 + i) (b := 3 + i) (by omega) (by omega) (by omega)
    obtain ⟨B2, f1, f2, f3⟩ := ih (i + 1) fb B1 (by omega) (by omega) (by omega)
    rw [G_X10_keepNow_11, if_neg (show ¬ (20 : Int32) ≤ nI i from nI_ge (b := 20) (by omega) (by omega)), e1, e2, c1, fm_bd_s, nI_1, f1]
    refine ⟨B2, rfl, fun j hj hj2 => ?_, fun q k z => ?_⟩
    · by_cases y : j = i
      · subst y
        exact iv_ec_tr (md_ec_copy ⟨c2, c3, c4⟩) (iv_ec_cg (fun q k z => f3 q k (fun j2 a b => md_cc_ne z (by omega))))
      · exact iv_ec_tr (iv_ec_cg (fun q k z => c5 q k (md_cc_ne z (by omega)))) (f2 j (by omega) hj2)
    · rw [f3 q k (fun j a b => z j (by omega) b), c5 q k (z i (by omega) (by omega))]
theorem md_keepNow {B : fm_M} {kd : Nat} (hk : kd ≤ 20) (h : B.1 76 42 = nI kd) : ∃ B2, F_X10_keepNow B = some ((), B2) ∧ ad_B B B2 (if kd = 20 then 19 else kd) (if kd = 20 then 1 else 0) ∧ (∀ q k, (q ≠ 76 ∨ k ≠ 42) → (∀ c, 3 ≤ c → ¬ md_cc c q k) → B2.1 q k = B.1 q k) := by
  rw [F_X10_keepNow, h]
  by_cases z : kd = 20
  · rw [if_pos z, if_pos z, if_pos (by rw [z]; rfl)]
    subst z
    obtain ⟨B1, c1, c2, c3⟩ := md_shift 19 1 fm_fuel B (by omega) (by omega) (by unfold fm_fuel; omega)
    have n1 : B1.1 76 42 = nI 20 := by rw [c3 76 42 (fun j a b => by unfold md_cc; omega)]; exact h
    have n2 : (fm_up B1 76 42 (nI 19)).1 76 42 = nI 19 := fm_up_get
    obtain ⟨B2, f1, f2, f3, f4, f5⟩ := md_copy (B := fm_up B1 76 42 (nI 19)) (a := 22) (b := 0) (by omega) (by omega) (by omega)
    rw [show G_X10_keepNow_11 fm_fuel 1 B = _ from c1, fm_bd_s, fm_lt, n1, nI_pred, J_X10_keepNow_45_1, n2, show (3 : Int32) + nI 19 = nI 22 from nI_add 3 19, show F_X10_copies (nI 22) 0 (fm_up B1 76 42 (nI 19)) = _ from f1, fm_bd_s, fm_lt, f5 76 42 (by unfold md_cc; omega), n2, nI_1]
    have g1 : ∀ c, iv_ec B1 (fm_up B1 76 42 (nI 19)) c c := fun c => iv_ec_cg (fun q k z => fm_up_ne (by unfold md_cc at z; omega))
    have g2 : ∀ c, iv_ec B2 (fm_up B2 76 42 (nI (19 + 1))) c c := fun c => iv_ec_cg (fun q k z => fm_up_ne (by unfold md_cc at z; omega))
    refine ⟨_, rfl, ⟨fm_up_get, fun j hj => ?_, ?_⟩, fun q k y x => ?_⟩
    · have := c2 (j + 1) (by omega) (by omega)
      rw [show 2 + (j + 1) = 3 + j by omega] at this
      exact iv_ec_tr this (iv_ec_tr (g1 _) (iv_ec_tr (iv_ec_cg (fun q k z => f5 q k (md_cc_ne z (by omega)))) (g2 _)))
    · exact iv_ec_tr (iv_ec_cg (fun q k z => c3 q k (fun j a b => md_cc_ne z (by omega)))) (iv_ec_tr (g1 _) (iv_ec_tr (md_ec_copy ⟨f2, f3, f4⟩) (g2 _)))
    · rw [fm_up_ne (by omega), f5 q k (x 22 (by omega)), fm_up_ne (by omega), c3 q k (fun j a b => x (2 + j) (by omega))]
  · rw [if_neg z, if_neg z, if_neg (show ¬ nI kd = 20 from fun y => z ((nI_eq (a := kd) (b := 20) (by omega) (by omega)).mp y))]
    obtain ⟨B2, f1, f2, f3, f4, f5⟩ := md_copy (B := B) (a := 3 + kd) (b := 0) (by omega) (by omega) (by omega)
    rw [J_X10_keepNow_45, h, show (3 : Int32) + nI kd = nI (3 + kd) from nI_add 3 kd, show F_X10_copies (nI (3 + kd)) 0 B = _ from f1, fm_bd_s, fm_lt, f5 76 42 (by unfold md_cc; omega), h, nI_1]
    have g2 : ∀ c, iv_ec B2 (fm_up B2 76 42 (nI (kd + 1))) c c := fun c => iv_ec_cg (fun q k z => fm_up_ne (by unfold md_cc at z; omega))
    refine ⟨_, rfl, ⟨fm_up_get, fun j hj => ?_, ?_⟩, fun q k y x => ?_⟩
    · exact iv_ec_tr (iv_ec_cg (fun q k z => f5 q k (md_cc_ne z (by omega)))) (g2 _)
    · exact iv_ec_tr (md_ec_copy ⟨f2, f3, f4⟩) (g2 _)
    · rw [fm_up_ne (by omega), f5 q k (x (3 + kd) (by omega))]
/-- the deeds behind a new one -/
theorem iv_dd_add {A B A3 B3 : fm_M} {t nf nm kd kn s : Nat} {a b c : Int32} (h : iv_dd A B t nf nm kd) (hnf : nf ≤ 8) (hnm : nm ≤ 10) (hs : kn + s = kd) (hk : kn < 20) (ha : ad_A A A3 kn s a b c) (hb : ad_B B B3 kn s) (ht : A3.1 t 15 = A.1 t 15) (hl : iv_dl A3 B3 t nf nm kn (3 + kn) 0) : iv_dd A3 B3 t nf nm (kn + 1) := by
  obtain ⟨h1, h2, h3, h4⟩ := h
  obtain ⟨a1, a2, a3, a4, a5⟩ := ha
  obtain ⟨b1, b2, b3⟩ := hb
  refine ⟨by omega, a1, b1, fun j hj => ?_⟩
  by_cases z : j = kn
  · subst z
    rw [if_pos rfl]
    exact hl
  · rw [if_neg (by omega)]
    have o := h4 (j + s) (by omega)
    obtain ⟨c1, c2, c3⟩ := a2 j (by omega)
    refine iv_dl_cg o hnf hnm c1 c2 c3 ht (b2 j (by omega)) ?_
    by_cases y : j + s + 1 = kd
    · rw [if_pos y, show j + 1 = kn by omega]; exact b3
    · rw [if_neg y]
      have := b2 (j + 1) (by omega)
      rw [show 3 + (j + s + 1) = 3 + (j + 1 + s) by omega]
      exact this
theorem iv_deed {A B A3 B3 : fm_M} {t nf nm kd km kn s : Nat} {a b c : Int32} (h0 : iv_all A B t nf nm kd km) (hs : kn + s = kd) (hk : kn < 20) (ha : ad_A A A3 kn s a b c) (hb : ad_B B B3 kn s) (hA : ∀ q k, (q < 38 ∨ 43 < q) → (q < 59 ∨ 62 < q) → A3.1 q k = A.1 q k) (hB : ∀ q k, (q ≠ 76 ∨ k ≠ 42) → (∀ c, 3 ≤ c → ¬ md_cc c q k) → ¬ md_cc 0 q k → B3.1 q k = B.1 q k) (hst : iv_st A3 B3 38 0 nf nm) (hso : iv_so A3 B3 t 38 nf nm) (hl : iv_dl A3 B3 t nf nm kn (3 + kn) 0) : Inv A3 B3 := by
  have hnf := (iv_nf h0).1
  have hnm := (iv_nm h0).1
  have ht := fm_td (iv_tt h0)
  have hB2 : ∀ q k, (q < 94 ∨ 101 < q) → (q ≠ 76 ∨ k ≠ 42) → B3.1 q k = B.1 q k := fun q k z y => hB q k y (fun c _ => by unfold md_cc; omega) (by unfold md_cc; omega)
  refine ⟨t, nf, nm, kn + 1, km, iv_up h0 (fun q k z1 z2 z3 => hA q k (by omega) (by omega)) (fun q k z1 z2 z3 => hB2 q k (by omega) (by omega)) (fun _ => hst) (fun _ => hso) (fun _ => ?_) (fun _ => ?_) ?_⟩
  · refine iv_im_cg h0.2.2.2.2.2.2.1 hnf hnm (fun q k z => hA q k (by omega) (by omega)) (fun q k z => ?_)
    rcases z with z | z | z | z
    · exact hB2 q k (by omega) (by omega)
    · exact hB2 q k (by omega) (by omega)
    · exact hB2 q k (by omega) (by omega)
    · exact hB q k (by unfold md_cc at z; omega) (fun c hc => md_cc_ne z (by omega)) (md_cc_ne z (by omega))
  · exact iv_dd_add h0.2.2.2.2.2.2.2.1 hnf hnm hs hk ha hb (hA _ _ (by omega) (by omega)) hl
  · exact iv_mn_cg h0.2.2.2.2.2.2.2.2.1 (fun q k z => hA q k (by omega) (by omega)) (fun q k z => hB2 q k (by omega) (by omega))
theorem kn_of {kd : Nat} (h : kd ≤ 20) : (if kd = 20 then 19 else kd) + (if kd = 20 then 1 else 0) = kd ∧ (if kd = 20 then 19 else kd) < 20 := by
  by_cases z : kd = 20
  · rw [if_pos z, if_pos z]; omega
  · rw [if_neg z, if_neg z]; omega
theorem ad_A_of {A A1 A2 A3 : fm_M} {kn s : Nat} {a b c : Int32} (h : ad_A A1 A2 kn s a b c) (h1 : ∀ q k, 60 ≤ q → q ≤ 62 → A1.1 q k = A.1 q k) (h3 : ∀ q k, 59 ≤ q → q ≤ 62 → A3.1 q k = A2.1 q k) : ad_A A A3 kn s a b c := by
  obtain ⟨x1, x2, x3, x4, x5⟩ := h
  refine ⟨by rw [h3 _ _ (by omega) (by omega)]; exact x1, fun j hj => ?_, by rw [h3 _ _ (by omega) (by omega)]; exact x3, by rw [h3 _ _ (by omega) (by omega)]; exact x4, by rw [h3 _ _ (by omega) (by omega)]; exact x5⟩
  rw [h3 60 _ (by omega) (by omega), h3 61 _ (by omega) (by omega), h3 62 _ (by omega) (by omega), ← h1 60 _ (by omega) (by omega), ← h1 61 _ (by omega) (by omega), ← h1 62 _ (by omega) (by omega)]
  exact x2 j hj
theorem ad_B_of {B B2 B3 : fm_M} {kn s : Nat} (h : ad_B B B2 kn s) (h3 : ∀ q k, (q = 76 ∧ k = 42) ∨ (∃ c, 3 ≤ c ∧ md_cc c q k) → B3.1 q k = B2.1 q k) : ad_B B B3 kn s := by
  obtain ⟨x1, x2, x3⟩ := h
  refine ⟨by rw [h3 _ _ (Or.inl ⟨rfl, rfl⟩)]; exact x1, fun j hj => iv_ec_tr (x2 j hj) (iv_ec_cg (fun q k z => h3 q k (Or.inr ⟨_, by omega, z⟩))), iv_ec_tr x3 (iv_ec_cg (fun q k z => h3 q k (Or.inr ⟨_, by omega, z⟩)))⟩
theorem bit_xor : ∀ f, f < 8 → ∀ z, z < 256 → nI z ^^^ ((1 : Int32) <<< (nI f &&& 31)) = nI (z ^^^ (1 <<< f)) ∧ z ^^^ (1 <<< f) < 256 := by decide +kernel
theorem x_xor (x m : Int32) : x ^^^ m ^^^ m = x := by rw [Int32.xor_assoc, Int32.xor_self, Int32.xor_zero]
theorem x_sub (x y : Int32) : x + y - y = x := by rw [Int32.add_sub_cancel]
theorem x_neg (x y : Int32) : x + y + -y = x := by rw [← Int32.sub_eq_add_neg, Int32.add_sub_cancel]
theorem x_sn (x y : Int32) : x - y - -y = x := by rw [Int32.sub_neg, Int32.sub_add_cancel]
theorem md_cc0 {B1 B2 : fm_M} (h : ∀ q k, (q ≠ 76 ∨ k ≠ 42) → (∀ c, 3 ≤ c → ¬ md_cc c q k) → B2.1 q k = B1.1 q k) : ∀ q k, md_cc 0 q k → B2.1 q k = B1.1 q k := fun q k z => h q k (by unfold md_cc at z; omega) (fun c hc => md_cc_ne z (by omega))
/-- a deed done to the council as it is -/
theorem iv_act {A B A3 B3 : fm_M} {t nf nm kd km kn s : Nat} {a b c : Int32} (h0 : iv_all A B t nf nm kd km) (hs : kn + s = kd) (hk : kn < 20) (aA : ad_A A A3 kn s a b c) (aB : ad_B B B3 kn s)
    (hA : ∀ q k, (q ≠ 38 ∨ k < 2 ∨ 4 < k) → q ≠ 39 → q ≠ 41 → (q < 59 ∨ 62 < q) → A3.1 q k = A.1 q k)
    (hB : ∀ q k, (q ≠ 76 ∨ k ≠ 42) → (∀ c, 3 ≤ c → ¬ md_cc c q k) → ¬ (95 ≤ q ∧ q ≤ 97 ∧ k = 0) → ¬ (q = 98 ∧ k < 8) → ¬ (q = 99 ∧ k < 10) → B3.1 q k = B.1 q k)
    (p2 : A3.1 38 2 = B3.1 95 0) (p3 : A3.1 38 3 = B3.1 96 0) (p4 : A3.1 38 4 = B3.1 97 0) (p5 : ∃ z : Nat, z < 256 ∧ A3.1 38 4 = nI z)
    (p6 : ∀ f, f < nf → A3.1 39 f = B3.1 98 f ∧ ∃ x : Nat, 100 ≤ x ∧ x ≤ 999 ∧ A3.1 39 f = nI x) (p7 : ∀ m, m < nm → A3.1 41 m = B3.1 99 m)
    (hl : (a = 0 ∧ A.1 38 2 = A3.1 38 2 ∧ A.1 38 3 = A3.1 38 3 ∧ A.1 38 4 = A3.1 38 4 ^^^ ((1 : Int32) <<< (b &&& 31)) ∧ (∀ f, f < nf → A.1 39 f = A3.1 39 f) ∧ (∀ m, m < nm → A.1 41 m = A3.1 41 m)) ∨
      (a = 1 ∧ A.1 38 2 = A3.1 38 2 - (-(A.1 t 15)) * i_abs c ∧ A.1 38 3 = A3.1 38 3 + (-(A.1 t 15)) * i_abs c ∧ A.1 38 4 = A3.1 38 4 ∧ (∃ g, g < nf ∧ b = nI g ∧ A.1 39 g = A3.1 39 g + (-c) ∧ ∀ f, f < nf → f ≠ g → A.1 39 f = A3.1 39 f) ∧ (∀ m, m < nm → A.1 41 m = A3.1 41 m)) ∨
      (a = 2 ∧ A.1 38 2 = A3.1 38 2 ∧ A.1 38 3 = A3.1 38 3 ∧ A.1 38 4 = A3.1 38 4 ∧ (∀ f, f < nf → A.1 39 f = A3.1 39 f) ∧ (∃ g, g < nm ∧ b = nI g ∧ A.1 41 g = c ∧ ∀ m, m < nm → m ≠ g → A.1 41 m = A3.1 41 m)) ∨
      (a = 3 ∧ A.1 38 2 = A3.1 38 2 - c ∧ A.1 38 3 = A3.1 38 3 ∧ A.1 38 4 = A3.1 38 4 ∧ (∀ f, f < nf → A.1 39 f = A3.1 39 f) ∧ (∀ m, m < nm → A.1 41 m = A3.1 41 m))) : Inv A3 B3 := by
  have hnf := (iv_nf h0).1
  have hnm := (iv_nm h0).1
  have ht := fm_td (iv_tt h0)
  obtain ⟨⟨s1, s2, s3, s4⟩, s5, s6⟩ := id h0.2.2.2.2.1
  obtain ⟨⟨o1, o2, o3⟩, o4, o5, o6, ⟨d, o7, o8, o9⟩, z, o10, o11⟩ := id h0.2.2.2.2.2.1
  obtain ⟨-, -, ⟨b1, b2, b3, b4⟩, b5, b6⟩ := id aB
  have hB0 : ∀ q k, md_cc 0 q k → ¬ (95 ≤ q ∧ q ≤ 99) → B3.1 q k = B.1 q k := fun q k z y => hB q k (by unfold md_cc at z; omega) (fun c hc => md_cc_ne z (by omega)) (by omega) (by omega) (by omega)
  have b94 : B3.1 94 0 = B.1 94 0 := hB0 94 0 (by unfold md_cc; omega) (by omega)
  have b100 : ∀ m, m < nm → B3.1 100 (10 * 0 + m) = B.1 100 (10 * 0 + m) := fun f hf => hB0 100 _ (by unfold md_cc; omega) (by omega)
  have b101 : ∀ m, m < nm → B3.1 101 (10 * 0 + m) = B.1 101 (10 * 0 + m) := fun f hf => hB0 101 _ (by unfold md_cc; omega) (by omega)
  have n8 : ∀ f, 8 * 0 + f = f := fun f => by omega
  have n10 : ∀ f, 10 * 0 + f = f := fun f => by omega
  have s5' : ∀ f, f < nf → B.1 98 f = A.1 39 f := fun f hf => by have := s5 f hf; rw [n8] at this; exact this.symm
  have s6' : ∀ m, m < nm → B.1 99 m = A.1 41 m := fun f hf => by have := (s6 f hf).1; rw [n10] at this; exact this.symm
  have b5' : ∀ f, f < nf → B3.1 98 (8 * (3 + kn) + f) = A.1 39 f := fun f hf => by rw [b5 f (by omega), n8, s5' f hf]
  have b6' : ∀ m, m < nm → B3.1 99 (10 * (3 + kn) + m) = A.1 41 m := fun f hf => by rw [(b6 f (by omega)).1, n10, s6' f hf]
  have w15 : A3.1 t 15 = A.1 t 15 := hA _ _ (by omega) (by omega) (by omega) (by omega)
  refine iv_deed h0 hs hk aA aB (fun q k z y => hA q k (by omega) (by omega) (by omega) y) (fun q k z y w => hB q k z y (by unfold md_cc at w; omega) (by unfold md_cc at w; omega) (by unfold md_cc at w; omega)) ⟨⟨?_, p2, p3, p4⟩, fun f hf => ?_, fun m hm => ?_⟩ ⟨⟨?_, ?_, ?_⟩, fun f hf => ?_, ?_, fun f hf => (p6 f hf).2, ⟨d, o7, ?_, ?_⟩, p5⟩ ⟨?_, ?_, fun f hf => ?_, fun m hm => ?_, ?_⟩
  · rw [hA _ _ (by omega) (by omega) (by omega) (by omega), b94]; exact s1
  · rw [n8]; exact (p6 f hf).1
  · rw [n10, hA (38 + 4) _ (by omega) (by omega) (by omega) (by omega), hA (38 + 5) _ (by omega) (by omega) (by omega) (by omega)]
    have x1 := b100 m hm
    have x2 := b101 m hm
    have x3 := (s6 m hm).2
    rw [n10] at x1 x2 x3
    rw [x1, x2]
    exact ⟨p7 m hm, x3⟩
  · rw [hA _ _ (by omega) (by omega) (by omega) (by omega), hA _ _ (by omega) (by omega) (by omega) (by omega)]; exact o1
  · rw [hA _ _ (by omega) (by omega) (by omega) (by omega)]; exact o2
  · rw [hA _ _ (by omega) (by omega) (by omega) (by omega)]; exact o3
  · rw [hA _ _ (by omega) (by omega) (by omega) (by omega), hA _ _ (by omega) (by omega) (by omega) (by omega)]; exact o4 f hf
  · exact rl_v_cg o5 (fun q k z => hA q k (by omega) (by omega) (by omega) (by omega))
  · rw [hA _ _ (by omega) (by omega) (by omega) (by omega)]; exact o8
  · rw [hA _ _ (by omega) (by omega) (by omega) (by omega), o9]
    exact (md_wet_cg (fun q k z => hB q k (by omega) (fun c _ => by unfold md_cc; omega) (by omega) (by omega) (by omega))).symm
  · rw [b1, b94]
  · rw [b4, ← s4]; exact ⟨z, o10, o11⟩
  · rw [b5' f hf]; exact o6 f hf
  · rw [(b6 m (by omega)).2.1, (b6 m (by omega)).2.2, b100 m hm, b101 m hm]; exact ⟨rfl, rfl⟩
  · obtain ⟨-, -, x3, x4, x5⟩ := aA
    rw [x3, x4, x5, b2, b3, b4, ← s2, ← s3, ← s4, ← p2, ← p3, ← p4, w15]
    have g5 : ∀ f, f < nf → A3.1 39 f = B3.1 98 (8 * 0 + f) := fun f hf => by rw [n8]; exact (p6 f hf).1
    have g6 : ∀ m, m < nm → A3.1 41 m = B3.1 99 (10 * 0 + m) := fun m hm => by rw [n10]; exact p7 m hm
    rcases hl with ⟨y0, y1, y2, y3, y4, y5⟩ | ⟨y0, y1, y2, y3, ⟨g, g1, g2, g3, g4⟩, y5⟩ | ⟨y0, y1, y2, y3, y4, ⟨g, g1, g2, g3, g4⟩⟩ | ⟨y0, y1, y2, y3, y4, y5⟩
    · exact Or.inl ⟨y0, y1, y2, y3, fun f hf => by rw [b5' f hf, ← g5 f hf]; exact y4 f hf, fun m hm => by rw [b6' m hm, ← g6 m hm]; exact y5 m hm⟩
    · exact Or.inr (Or.inl ⟨y0, y1, y2, y3, ⟨g, g1, g2, by rw [b5' g g1, ← g5 g g1]; exact g3, fun f hf hn => by rw [b5' f hf, ← g5 f hf]; exact g4 f hf hn⟩, fun m hm => by rw [b6' m hm, ← g6 m hm]; exact y5 m hm⟩)
    · exact Or.inr (Or.inr (Or.inl ⟨y0, y1, y2, y3, fun f hf => by rw [b5' f hf, ← g5 f hf]; exact y4 f hf, ⟨g, g1, g2, by rw [b6' g g1]; exact g3, fun m hm hn => by rw [b6' m hm, ← g6 m hm]; exact g4 m hm hn⟩⟩))
    · exact Or.inr (Or.inr (Or.inr ⟨y0, y1, y2, y3, fun f hf => by rw [b5' f hf, ← g5 f hf]; exact y4 f hf, fun m hm => by rw [b6' m hm, ← g6 m hm]; exact y5 m hm⟩))
theorem iv_now {A B : fm_M} {t nf nm kd km : Nat} (h0 : iv_all A B t nf nm kd km) : (A.1 38 0 = B.1 94 0 ∧ A.1 38 2 = B.1 95 0 ∧ A.1 38 3 = B.1 96 0 ∧ A.1 38 4 = B.1 97 0) ∧ (∃ z : Nat, z < 256 ∧ A.1 38 4 = nI z) ∧ (∀ f, f < nf → A.1 39 f = B.1 98 f ∧ ∃ x : Nat, 100 ≤ x ∧ x ≤ 999 ∧ A.1 39 f = nI x) ∧ (∀ m, m < nm → A.1 41 m = B.1 99 m ∧ A.1 42 m = B.1 100 m ∧ A.1 43 m = B.1 101 m) := by
  obtain ⟨s1, s5, s6⟩ := id h0.2.2.2.2.1
  obtain ⟨-, -, -, o6, -, o10⟩ := id h0.2.2.2.2.2.1
  refine ⟨s1, o10, fun f hf => ⟨?_, o6 f hf⟩, fun m hm => ?_⟩
  · have := s5 f hf
    rw [show 8 * 0 + f = f by omega] at this
    exact this
  · have := s6 m hm
    rw [show 10 * 0 + m = m by omega] at this
    exact this
theorem pI_touch {A B : fm_M} {t nf nm kd km : Nat} (h : iv_all A B t nf nm kd km) (a1 a2 : Int32) : pI (F_X9_touch a1 a2 A) (F_X10_touch a1 a2 B) := by
  have h0 := iv_thr h 0
  rw [F_X9_touch, F_X10_touch]
  simp only [fm_lt]
  generalize fm_up B 76 0 0 = B1 at *
  have hnf := (iv_nf h0).1
  have hnm := (iv_nm h0).1
  rcases iv_isFork h0 a1 with ⟨e1, e2⟩ | ⟨f, hf, hf8, rfl, e1, e2⟩
  · rw [e1, e2, fm_bd_s, fm_bd_s, if_pos rfl, if_pos rfl]; exact pu_I (rR_ret h0 rfl)
  rw [e1, e2, fm_bd_s, fm_bd_s, if_neg n10, if_neg n10, F_X9_bitOf, fm_bd_s, fm_gd_t (by decide), ck_0, h0.2.2.2.2.1.1.2.2.2]
  obtain ⟨⟨s1, s2, s3, s4⟩, ⟨z, o10, o11⟩, w1, w2⟩ := iv_now h0
  have key : ∀ s0, pI (J_X9_touch_28 (nI f) a2 s0 A) (J_X10_touch_32 (nI f) a2 s0 B1) := by
    intro s0
    rw [J_X9_touch_28, J_X10_touch_32]
    by_cases c : s0 = a2
    · rw [if_pos c, if_pos c]; exact pu_I (rR_ret h0 rfl)
    rw [if_neg c, if_neg c]
    simp only [fm_lt]
    obtain ⟨d1, d2, d3, d4⟩ := id h0.2.2.2.2.2.2.2.1
    generalize hm : A.1 38 4 ^^^ ((1 : Int32) <<< (nI f &&& 31)) = tv
    obtain ⟨A2, x1, x2, x3⟩ := cl_add (A := fm_up A 38 4 tv) 0 (nI f) 0 d1 (by rw [fm_up_ne (by omega)]; exact d2)
    obtain ⟨B2, y1, y2, y3⟩ := md_keepNow (B := B1) d1 d3
    obtain ⟨k1, k2⟩ := kn_of d1
    generalize (if kd = 20 then 19 else kd) = kn at *
    generalize (if kd = 20 then 1 else 0) = s at *
    have y4 := md_cc0 y3
    rw [x1, fm_bd_s, y1, fm_bd_s, fm_gd_t (by decide), fm_gd_t (by decide), ck_0, y4 97 0 (by unfold md_cc; omega), ← s4, hm]
    have hA4 : A2.1 38 4 = tv := by rw [x3 38 4 (by omega), fm_up_get]
    have hA : ∀ q k, (q ≠ 38 ∨ k ≠ 4) → (q < 59 ∨ 62 < q) → A2.1 q k = A.1 q k := fun q k z y => by rw [x3 q k y, fm_up_ne z]
    have hB0 : ∀ q k, md_cc 0 q k → (q ≠ 97 ∨ k ≠ 0) → (fm_up B2 97 0 tv).1 q k = B1.1 q k := fun q k z y => by rw [fm_up_ne y, y4 q k z]
    have aA : ad_A A A2 kn s 0 (nI f) 0 := ad_A_of x2 (fun q k _ _ => fm_up_ne (by omega)) (fun _ _ _ _ => rfl)
    have aB : ad_B B1 (fm_up B2 97 0 tv) kn s := ad_B_of y2 (fun q k z => fm_up_ne (by
      rcases z with z | ⟨c, hc, z⟩
      · omega
      · unfold md_cc at z; omega))
    refine ⟨_, _, _, _, rfl, rfl, rfl, iv_act h0 k1 k2 aA aB (fun q k z1 z2 z3 y => hA q k (by omega) y) (fun q k z y w1 w2 w3 => by rw [fm_up_ne (by omega), y3 q k z y]) ?_ ?_ ?_ ?_ (fun f hf => ⟨?_, ?_⟩) (fun m hm => ?_) (Or.inl ⟨rfl, ?_, ?_, ?_, fun f hf => ?_, fun m hm => ?_⟩)⟩
    · rw [hA _ _ (by omega) (by omega), hB0 95 0 (by unfold md_cc; omega) (by omega)]; exact s2
    · rw [hA _ _ (by omega) (by omega), hB0 96 0 (by unfold md_cc; omega) (by omega)]; exact s3
    · rw [hA4, fm_up_get]
    · rw [hA4, ← hm, o11]; exact ⟨_, (bit_xor f hf8 z o10).2, (bit_xor f hf8 z o10).1⟩
    · rw [hA _ _ (by omega) (by omega), hB0 98 f (by unfold md_cc; omega) (by omega)]; exact (w1 f hf).1
    · rw [hA _ _ (by omega) (by omega)]; exact (w1 f hf).2
    · rw [hA _ _ (by omega) (by omega), hB0 99 m (by unfold md_cc; omega) (by omega)]; exact (w2 m hm).1
    · rw [hA _ _ (by omega) (by omega)]
    · rw [hA _ _ (by omega) (by omega)]
    · rw [hA4, ← hm, x_xor]
    · rw [hA _ _ (by omega) (by omega)]
    · rw [hA _ _ (by omega) (by omega)]
  by_cases c : (B1.1 97 0 >>> (nI f &&& 31)) &&& 1 = 1
  · rw [if_pos c, if_pos c]; exact key 1
  · rw [if_neg c, if_neg c]; exact key 0
theorem pI_earn {A B : fm_M} {t nf nm kd km : Nat} (h : iv_all A B t nf nm kd km) (a1 : Int32) : pI (F_X9_earn a1 A) (F_X10_earn a1 B) := by
  have h0 := iv_thr h 0
  rw [F_X9_earn, F_X10_earn]
  simp only [fm_lt]
  generalize fm_up B 76 0 0 = B1 at *
  have hnf := (iv_nf h0).1
  have hnm := (iv_nm h0).1
  obtain ⟨⟨s1, s2, s3, s4⟩, o10, w1, w2⟩ := iv_now h0
  by_cases c1 : a1 < 1
  · rw [if_pos c1, if_pos c1]; exact pu_I (rR_ret h0 rfl)
  rw [if_neg c1, if_neg c1]
  by_cases c2 : 99 < a1
  · rw [if_pos c2, if_pos c2]; exact pu_I (rR_ret h0 rfl)
  rw [if_neg c2, if_neg c2, fm_gd_t (by decide), ck_0, ← s2]
  by_cases c3 : A.1 38 2 + a1 ≤ 9999
  rotate_left
  · rw [if_neg c3, if_neg c3]; exact pu_I (rR_ret h0 rfl)
  rw [if_pos c3, if_pos c3]
  obtain ⟨d1, d2, d3, d4⟩ := id h0.2.2.2.2.2.2.2.1
  generalize hm : A.1 38 2 + a1 = tv
  obtain ⟨A2, x1, x2, x3⟩ := cl_add (A := fm_up A 38 2 tv) 3 0 a1 d1 (by rw [fm_up_ne (by omega)]; exact d2)
  obtain ⟨B2, y1, y2, y3⟩ := md_keepNow (B := B1) d1 d3
  obtain ⟨k1, k2⟩ := kn_of d1
  generalize (if kd = 20 then 19 else kd) = kn at *
  generalize (if kd = 20 then 1 else 0) = s at *
  have y4 := md_cc0 y3
  rw [x1, fm_bd_s, y1, fm_bd_s, fm_gd_t (by decide), fm_gd_t (by decide), y4 95 0 (by unfold md_cc; omega), ← s2, hm, fm_gd_t (by decide)]
  have hA4 : A2.1 38 2 = tv := by rw [x3 38 2 (by omega), fm_up_get]
  have hA : ∀ q k, (q ≠ 38 ∨ k ≠ 2) → (q < 59 ∨ 62 < q) → A2.1 q k = A.1 q k := fun q k z y => by rw [x3 q k y, fm_up_ne z]
  have hB0 : ∀ q k, md_cc 0 q k → (q ≠ 95 ∨ k ≠ 0) → (fm_up B2 95 0 tv).1 q k = B1.1 q k := fun q k z y => by rw [fm_up_ne y, y4 q k z]
  have aA : ad_A A A2 kn s 3 0 a1 := ad_A_of x2 (fun q k _ _ => fm_up_ne (by omega)) (fun _ _ _ _ => rfl)
  have aB : ad_B B1 (fm_up B2 95 0 tv) kn s := ad_B_of y2 (fun q k z => fm_up_ne (by
    rcases z with z | ⟨c, hc, z⟩
    · omega
    · unfold md_cc at z; omega))
  refine ⟨_, _, _, _, rfl, rfl, ?_, iv_act h0 k1 k2 aA aB (fun q k z1 z2 z3 y => hA q k (by omega) y) (fun q k z y w1 w2 w3 => by rw [fm_up_ne (by omega), y3 q k z y]) ?_ ?_ ?_ ?_ (fun f hf => ⟨?_, ?_⟩) (fun m hm => ?_) (Or.inr (Or.inr (Or.inr ⟨rfl, ?_, ?_, ?_, fun f hf => ?_, fun m hm => ?_⟩)))⟩
  · rw [hA4, fm_up_get]
  · rw [hA4, fm_up_get]
  · rw [hA _ _ (by omega) (by omega), hB0 96 0 (by unfold md_cc; omega) (by omega)]; exact s3
  · rw [hA _ _ (by omega) (by omega), hB0 97 0 (by unfold md_cc; omega) (by omega)]; exact s4
  · rw [hA _ _ (by omega) (by omega)]; exact o10
  · rw [hA _ _ (by omega) (by omega), hB0 98 f (by unfold md_cc; omega) (by omega)]; exact (w1 f hf).1
  · rw [hA _ _ (by omega) (by omega)]; exact (w1 f hf).2
  · rw [hA _ _ (by omega) (by omega), hB0 99 m (by unfold md_cc; omega) (by omega)]; exact (w2 m hm).1
  · rw [hA4, ← hm, x_sub]
  · rw [hA _ _ (by omega) (by omega)]
  · rw [hA _ _ (by omega) (by omega)]
  · rw [hA _ _ (by omega) (by omega)]
  · rw [hA _ _ (by omega) (by omega)]
theorem pI_put {A B : fm_M} {t nf nm kd km : Nat} (h : iv_all A B t nf nm kd km) (a1 a2 : Int32) : pI (F_X9_put a1 a2 A) (F_X10_put a1 a2 B) := by
  have h0 := iv_thr h 0
  rw [F_X9_put, F_X10_put]
  simp only [fm_lt]
  generalize fm_up B 76 0 0 = B1 at *
  have hnf := (iv_nf h0).1
  have hnm := (iv_nm h0).1
  rcases iv_isMotion h0 a1 with ⟨e1, e2⟩ | ⟨g, hg, hg8, rfl, e1, e2⟩
  · rw [e1, e2, fm_bd_s, fm_bd_s, if_pos rfl, if_pos rfl]; exact pu_I (rR_ret h0 rfl)
  obtain ⟨⟨s1, s2, s3, s4⟩, o10, w1, w2⟩ := iv_now h0
  obtain ⟨v1, v2, v3⟩ := w2 g hg
  have ic : Int32.toNatClampNeg (nI g) = g := nI_clamp (by omega)
  have b10 : fm_inb (nI g) 10 = true := nu_inb hg8 (by omega)
  have b230 : fm_inb (nI g) 230 = true := nu_inb (by omega) (by omega)
  rw [e1, e2, fm_bd_s, fm_bd_s, if_neg n10, if_neg n10, fm_gd_t (show fm_inb 0 23 = true by decide), ck_0, ← s1]
  by_cases c1 : a2 < A.1 38 0
  · rw [if_pos c1, if_pos c1]; exact pu_I (rR_ret h0 rfl)
  rw [if_neg c1, if_neg c1]
  by_cases c2 : 9999 < a2
  · rw [if_pos c2, if_neg (Int32.not_le.mpr c2)]; exact pu_I (rR_ret h0 rfl)
  rw [if_neg c2, if_pos (Int32.not_lt.mp c2), fm_gd_t b10, fm_gd_t b230, ic, ← v2]
  by_cases c3 : A.1 42 g = -1
  rotate_left
  · rw [if_neg c3, if_neg c3]; exact pu_I (rR_ret h0 rfl)
  rw [if_pos c3, if_pos c3, fm_gd_t b10, fm_gd_t b230, ← v1]
  by_cases c4 : A.1 41 g = a2
  · rw [if_pos c4, if_pos c4]; exact pu_I (rR_ret h0 rfl)
  rw [if_neg c4, if_neg c4, fm_gd_t b10]
  obtain ⟨d1, d2, d3, d4⟩ := id h0.2.2.2.2.2.2.2.1
  obtain ⟨A2, x1, x2, x3⟩ := cl_add (A := A) 2 (nI g) (A.1 41 g) d1 d2
  obtain ⟨B2, y1, y2, y3⟩ := md_keepNow (B := B1) d1 d3
  obtain ⟨k1, k2⟩ := kn_of d1
  generalize (if kd = 20 then 19 else kd) = kn at *
  generalize (if kd = 20 then 1 else 0) = s at *
  have y4 := md_cc0 y3
  rw [x1, fm_bd_s, y1, fm_bd_s, fm_gd_t b10, fm_gd_t b230]
  have hA : ∀ q k, (q ≠ 41 ∨ k ≠ g) → (q < 59 ∨ 62 < q) → (fm_up A2 41 g a2).1 q k = A.1 q k := fun q k z y => by rw [fm_up_ne z, x3 q k y]
  have hB0 : ∀ q k, md_cc 0 q k → (q ≠ 99 ∨ k ≠ g) → (fm_up B2 99 g a2).1 q k = B1.1 q k := fun q k z y => by rw [fm_up_ne y, y4 q k z]
  have aA : ad_A A (fm_up A2 41 g a2) kn s 2 (nI g) (A.1 41 g) := ad_A_of x2 (fun _ _ _ _ => rfl) (fun q k _ _ => fm_up_ne (by omega))
  have aB : ad_B B1 (fm_up B2 99 g a2) kn s := ad_B_of y2 (fun q k z => fm_up_ne (by
    rcases z with z | ⟨c, hc, z⟩
    · omega
    · unfold md_cc at z; omega))
  refine ⟨_, _, _, _, rfl, rfl, rfl, iv_act h0 k1 k2 aA aB (fun q k z1 z2 z3 y => hA q k (by omega) y) (fun q k z y w1 w2 w3 => by rw [fm_up_ne (by omega), y3 q k z y]) ?_ ?_ ?_ ?_ (fun f hf => ⟨?_, ?_⟩) (fun m hm => ?_) (Or.inr (Or.inr (Or.inl ⟨rfl, ?_, ?_, ?_, fun f hf => ?_, g, hg, rfl, rfl, fun m hm hn => ?_⟩)))⟩
  · rw [hA _ _ (by omega) (by omega), hB0 95 0 (by unfold md_cc; omega) (by omega)]; exact s2
  · rw [hA _ _ (by omega) (by omega), hB0 96 0 (by unfold md_cc; omega) (by omega)]; exact s3
  · rw [hA _ _ (by omega) (by omega), hB0 97 0 (by unfold md_cc; omega) (by omega)]; exact s4
  · rw [hA _ _ (by omega) (by omega)]; exact o10
  · rw [hA _ _ (by omega) (by omega), hB0 98 f (by unfold md_cc; omega) (by omega)]; exact (w1 f hf).1
  · rw [hA _ _ (by omega) (by omega)]; exact (w1 f hf).2
  · by_cases y : m = g
    · rw [y, fm_up_get, fm_up_get]
    · rw [hA _ _ (by omega) (by omega), hB0 99 m (by unfold md_cc; omega) (by omega)]; exact (w2 m hm).1
  · rw [hA _ _ (by omega) (by omega)]
  · rw [hA _ _ (by omega) (by omega)]
  · rw [hA _ _ (by omega) (by omega)]
  · rw [hA _ _ (by omega) (by omega)]
  · rw [hA _ _ (by omega) (by omega)]
theorem pI_file {A B : fm_M} {t nf nm kd km : Nat} (h : iv_all A B t nf nm kd km) (a1 a2 : Int32) : pI (F_X9_file a1 a2 A) (F_X10_file a1 a2 B) := by
  have h0 := iv_thr h 0
  rw [F_X9_file, F_X10_file]
  simp only [fm_lt]
  generalize fm_up B 76 0 0 = B1 at *
  have hnf := (iv_nf h0).1
  have hnm := (iv_nm h0).1
  rcases iv_isFork h0 a1 with ⟨e1, e2⟩ | ⟨g, hg, hg8, rfl, e1, e2⟩
  · rw [e1, e2, fm_bd_s, fm_bd_s, if_pos rfl, if_pos rfl]; exact pu_I (rR_ret h0 rfl)
  obtain ⟨⟨s1, s2, s3, s4⟩, o10, w1, w2⟩ := iv_now h0
  obtain ⟨v1, v2⟩ := w1 g hg
  have ic : Int32.toNatClampNeg (nI g) = g := nI_clamp (by omega)
  have b8 : fm_inb (nI g) 8 = true := nu_inb hg8 (by omega)
  have b184 : fm_inb (nI g) 184 = true := nu_inb (by omega) (by omega)
  have w15 : A.1 t 15 = B1.1 78 5 := h0.2.2.2.1.2.2.1.2.2.1
  rw [e1, e2, fm_bd_s, fm_bd_s, if_neg n10, if_neg n10]
  by_cases c1 : a2 < -99
  · rw [if_pos c1, if_pos c1]; exact pu_I (rR_ret h0 rfl)
  rw [if_neg c1, if_neg c1]
  by_cases c2 : 99 < a2
  · rw [if_pos c2, if_pos c2]; exact pu_I (rR_ret h0 rfl)
  rw [if_neg c2, if_neg c2]
  by_cases c3 : a2 = 0
  · rw [if_pos c3, if_pos c3]; exact pu_I (rR_ret h0 rfl)
  rw [if_neg c3, if_neg c3, fm_gd_t b8, fm_gd_t b184, ic, ← v1]
  rcases iv_isNote (A.1 39 g + a2) with e3 | ⟨⟨y, yl, yh, ye⟩, e3⟩
  · rw [(e3 A).1, (e3 B1).2, fm_bd_s, fm_bd_s, if_pos rfl, if_pos rfl]; exact pu_I (rR_ret h0 rfl)
  rw [(e3 A).1, (e3 B1).2, fm_bd_s, fm_bd_s, if_neg n10, if_neg n10, iv_t h0, fm_gd_t (iv_tt h), fm_gd_t (by decide), ck_5, ← w15, fm_gd_t (by decide), ck_0, ← s2]
  generalize hcost : A.1 t 15 * i_abs a2 = cost
  by_cases c4 : cost ≤ A.1 38 2
  rotate_left
  · rw [if_neg c4, if_neg c4]; exact pu_I (rR_ret h0 rfl)
  rw [if_pos c4, if_pos c4, F_X7_filed, fm_gd_t (show fm_isSt 38 = true from rfl), fm_gd_t b8, fm_gd_t b8, ic]
  simp only [fm_lt, fm_bd_s]
  obtain ⟨d1, d2, d3, d4⟩ := id h0.2.2.2.2.2.2.2.1
  have p2 : (fm_up A (38 + 1) g (A.1 (38 + 1) g + a2)).1 38 2 = A.1 38 2 := fm_up_ne (by omega)
  rw [p2]
  have p3 : (fm_up (fm_up A (38 + 1) g (A.1 (38 + 1) g + a2)) 38 2 (A.1 38 2 - cost)).1 38 3 = A.1 38 3 := by rw [fm_up_ne (by omega), fm_up_ne (by omega)]
  rw [p3]
  generalize hA1 : fm_up (fm_up (fm_up A (38 + 1) g (A.1 (38 + 1) g + a2)) 38 2 (A.1 38 2 - cost)) 38 3 (A.1 38 3 + cost) = A1
  have q0 : ∀ q k, (q ≠ 39 ∨ k ≠ g) → (q ≠ 38 ∨ k ≠ 2) → (q ≠ 38 ∨ k ≠ 3) → A1.1 q k = A.1 q k := fun q k z1 z2 z3 => by rw [← hA1, fm_up_ne z3, fm_up_ne z2, fm_up_ne z1]
  obtain ⟨A2, x1, x2, x3⟩ := cl_add (A := A1) 1 (nI g) a2 d1 (by rw [q0 _ _ (by omega) (by omega) (by omega)]; exact d2)
  obtain ⟨B2, y1, y2, y3⟩ := md_keepNow (B := B1) d1 d3
  obtain ⟨k1, k2⟩ := kn_of d1
  generalize (if kd = 20 then 19 else kd) = kn at *
  generalize (if kd = 20 then 1 else 0) = s at *
  have y4 := md_cc0 y3
  rw [x1, fm_bd_s, y1, fm_bd_s, fm_gd_t (by decide), fm_gd_t (by decide), y4 95 0 (by unfold md_cc; omega), ← s2, fm_gd_t (by decide), fm_gd_t (by decide)]
  have r3 : (fm_up B2 95 0 (A.1 38 2 - cost)).1 96 0 = A.1 38 3 := by rw [fm_up_ne (by omega), y4 96 0 (by unfold md_cc; omega), s3]
  rw [r3, fm_gd_t b184, fm_gd_t b184]
  have r4 : (fm_up (fm_up B2 95 0 (A.1 38 2 - cost)) 96 0 (A.1 38 3 + cost)).1 98 g = A.1 39 g := by rw [fm_up_ne (by omega), fm_up_ne (by omega), y4 98 g (by unfold md_cc; omega), v1]
  rw [r4, fm_gd_t b184, fm_up_get]
  generalize hB3 : fm_up (fm_up (fm_up B2 95 0 (A.1 38 2 - cost)) 96 0 (A.1 38 3 + cost)) 98 g (A.1 39 g + a2) = B3
  have u0 : ∀ q k, (q ≠ 98 ∨ k ≠ g) → (q ≠ 95 ∨ k ≠ 0) → (q ≠ 96 ∨ k ≠ 0) → B3.1 q k = B2.1 q k := fun q k z1 z2 z3 => by rw [← hB3, fm_up_ne z1, fm_up_ne z3, fm_up_ne z2]
  have u1 : B3.1 95 0 = A.1 38 2 - cost := by rw [← hB3, fm_up_ne (by omega), fm_up_ne (by omega), fm_up_get]
  have u2 : B3.1 96 0 = A.1 38 3 + cost := by rw [← hB3, fm_up_ne (by omega), fm_up_get]
  have u3 : B3.1 98 g = A.1 39 g + a2 := by rw [← hB3, fm_up_get]
  have q1 : A2.1 38 2 = A.1 38 2 - cost := by rw [x3 _ _ (by omega), ← hA1, fm_up_ne (by omega), fm_up_get]
  have q2 : A2.1 38 3 = A.1 38 3 + cost := by rw [x3 _ _ (by omega), ← hA1, fm_up_get]
  have q3 : A2.1 39 g = A.1 39 g + a2 := by rw [x3 _ _ (by omega), ← hA1, fm_up_ne (by omega), fm_up_ne (by omega), fm_up_get]
  have hA : ∀ q k, (q ≠ 39 ∨ k ≠ g) → (q ≠ 38 ∨ k ≠ 2) → (q ≠ 38 ∨ k ≠ 3) → (q < 59 ∨ 62 < q) → A2.1 q k = A.1 q k := fun q k z1 z2 z3 y => by rw [x3 q k y, q0 q k z1 z2 z3]
  have hB0 : ∀ q k, md_cc 0 q k → (q ≠ 98 ∨ k ≠ g) → q ≠ 95 → q ≠ 96 → B3.1 q k = B1.1 q k := fun q k z y1 y2 y3 => by rw [u0 q k y1 (by omega) (by omega), y4 q k z]
  have aA : ad_A A A2 kn s 1 (nI g) a2 := ad_A_of x2 (fun q k _ _ => q0 q k (by omega) (by omega) (by omega)) (fun _ _ _ _ => rfl)
  have aB : ad_B B1 B3 kn s := ad_B_of y2 (fun q k z => by
    rcases z with z | ⟨c, hc, z⟩
    · exact u0 q k (by omega) (by omega) (by omega)
    · unfold md_cc at z; exact u0 q k (by omega) (by omega) (by omega))
  refine ⟨_, _, _, _, rfl, rfl, rfl, iv_act h0 k1 k2 aA aB (fun q k z1 z2 z3 y => hA q k (by omega) (by omega) (by omega) y) (fun q k z y w1 w2 w3 => by rw [u0 q k (by omega) (by omega) (by omega), y3 q k z y]) ?_ ?_ ?_ ?_ (fun f hf => ⟨?_, ?_⟩) (fun m hm => ?_) (Or.inr (Or.inl ⟨rfl, ?_, ?_, ?_, ⟨g, hg, rfl, ?_, fun f hf hn => ?_⟩, fun m hm => ?_⟩))⟩
  · rw [q1, u1]
  · rw [q2, u2]
  · rw [hA _ _ (by omega) (by omega) (by omega) (by omega), hB0 97 0 (by unfold md_cc; omega) (by omega) (by omega) (by omega)]; exact s4
  · rw [hA _ _ (by omega) (by omega) (by omega) (by omega)]; exact o10
  · by_cases y : f = g
    · rw [y, q3, u3]
    · rw [hA _ _ (by omega) (by omega) (by omega) (by omega), hB0 98 f (by unfold md_cc; omega) (by omega) (by omega) (by omega)]; exact (w1 f hf).1
  · by_cases y9 : f = g
    · rw [y9, q3]; exact ⟨y, yl, yh, ye⟩
    · rw [hA _ _ (by omega) (by omega) (by omega) (by omega)]; exact (w1 f hf).2
  · rw [hA _ _ (by omega) (by omega) (by omega) (by omega), hB0 99 m (by unfold md_cc; omega) (by omega) (by omega) (by omega)]; exact (w2 m hm).1
  · rw [q1, Int32.neg_mul, hcost, x_sn]
  · rw [q2, Int32.neg_mul, hcost, x_neg]
  · rw [hA _ _ (by omega) (by omega) (by omega) (by omega)]
  · rw [q3, x_neg]
  · rw [hA _ _ (by omega) (by omega) (by omega) (by omega)]
  · rw [hA _ _ (by omega) (by omega) (by omega) (by omega)]
