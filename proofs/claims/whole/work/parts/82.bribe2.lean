/-! the cheapest filing: the table of what each would hum -/
theorem fm_up2 {M : fm_M} {p k : Nat} {x y : Int32} : fm_up (fm_up M p k y) p k x = fm_up M p k x := by
  unfold fm_up fm_row
  refine Prod.ext (funext fun q => ?_) rfl
  show va_up (va_up M.1 p _) p _ q = va_up M.1 p _ q
  unfold va_up
  by_cases h : q = p
  · rw [if_pos h, if_pos h]
    show upd (if p = p then upd (M.1 p) k y else M.1 p) k x = upd (M.1 p) k x
    rw [if_pos rfl]
    funext j
    unfold upd
    by_cases z : j = k
    · rw [if_pos z, if_pos z]
    · rw [if_neg z, if_neg z, if_neg z]
  · rw [if_neg h, if_neg h, if_neg h]
/-- one entry of the table: the hum of a fork at a filing, or none -/
def br_T (A B : fm_M) (t : Nat) (n : Int32) (px : Nat → Nat) (fl : Nat → Nat → Int32) (f k : Nat) : Prop :=
  (fl f k = -1 ∧ ∀ M, F_X9_isNote (nI (px f + k - 4)) M = some (0, M) ∧ F_X10_isNote (nI (px f + k - 4)) M = some (0, M)) ∨
  ((∀ M, F_X9_isNote (nI (px f + k - 4)) M = some (1, M) ∧ F_X10_isNote (nI (px f + k - 4)) M = some (1, M)) ∧ ∃ v : Nat, v ≤ 99 ∧ fl f k = nI v ∧ (∀ A1, ag br_A A A1 → ∃ A2, F_X7_humOf 45 t (nI f) n (fm_up A1 46 f (nI (px f + k - 4))) = some (nI v, A2) ∧ ∀ q j, q ≠ t + 15 → A2.1 q j = (fm_up A1 46 f (nI (px f + k - 4))).1 q j) ∧ (∀ B1, ag iv_pB B B1 → (F_X10_isTouched 0 (nI f) B1 = some (1, B1) ∧ v = 0) ∨ (F_X10_isTouched 0 (nI f) B1 = some (0, B1) ∧ ∃ B2, F_X10_loudAt 0 (nI f) (nI (px f + k - 4)) n B1 = some (nI v, B2) ∧ ∀ q j, (q ≠ 76 ∨ j ≠ 32) → B2.1 q j = B1.1 q j)))
theorem br_tab {A B : fm_M} {t nf nm kd km : Nat} (h : iv_all A B t nf nm kd km) (hs : iv_st A B 45 0 nf nm) (ho : iv_so A B t 45 nf nm) (n : Int32) (px : Nat → Nat) : ∃ fl : Nat → Nat → Int32, ∀ f k, f < nf → br_T A B t n px fl f k := by
  have key : ∀ f k, ∃ w : Int32, f < nf → br_T A B t n px (fun _ _ => w) f k := by
    intro f k
    by_cases hf : f < nf
    · rcases iv_isNote (nI (px f + k - 4)) with e | ⟨-, e⟩
      · exact ⟨-1, fun _ => Or.inl ⟨rfl, e⟩⟩
      · obtain ⟨v, v1, v2, v3⟩ := br_fl (x := px f + k - 4) h hs ho n hf
        exact ⟨nI v, fun _ => Or.inr ⟨e, v, v1, rfl, v2, v3⟩⟩
    · exact ⟨0, fun z => absurd z hf⟩
  exact ⟨fun f k => Classical.choose (key f k), fun f k hf => Classical.choose_spec (key f k) hf⟩
theorem br_in {A B : fm_M} {t nf f : Nat} {n : Int32} {px : Nat → Nat} {fl : Nat → Nat → Int32} (ht : t = 4 ∨ t = 21) (hf : f < nf) (hf4 : f < 4) (hT : ∀ f k, f < nf → br_T A B t n px fl f k) (hx : 100 ≤ px f ∧ px f ≤ 999) (hp : A.1 46 f = nI (px f)) : ∀ (m k fa : Nat) (A1 : fm_M), k + m = 9 → m < fa → ag br_A A (fm_up A1 46 f (nI (px f))) → (∀ j, j < k → A1.1 67 (9 * f + j) = fl f j) → ∃ A2 : fm_M, G_X0_listen_67 fa t 45 n (nI f) (nI (px f)) (nI k) A1 = some (nI 9, A2) ∧ ag br_A A (fm_up A2 46 f (nI (px f))) ∧ (∀ j, j < 9 → A2.1 67 (9 * f + j) = fl f j) ∧ (∀ q c, q ≠ t + 15 → (q ≠ 46 ∨ c ≠ f) → (q ≠ 67 ∨ c < 9 * f ∨ 9 * f + 9 ≤ c) → A2.1 q c = A1.1 q c) := by
  intro m
  induction m with
  | zero =>
    intro k fa A1 hk hfa a h7
    obtain ⟨fa, rfl⟩ : ∃ z, fa = z + 1 := ⟨fa - 1, by omega⟩
    have : k = 9 := by omega
    subst this
    rw [G_X0_listen_67, if_pos (by decide)]
    exact ⟨A1, rfl, a, h7, fun _ _ _ _ _ => rfl⟩
  | succ m ih =>
    intro k fa A1 hk hfa a h7
    obtain ⟨fa, rfl⟩ : ∃ z, fa = z + 1 := ⟨fa - 1, by omega⟩
    have fb : fm_inb (nI f) 8 = true := nu_inb (by omega) (by omega)
    have fc : Int32.toNatClampNeg (nI f) = f := nI_clamp (by omega)
    have ex : (nI (px f) + nI k - 4 : Int32) = nI (px f + k - 4) := by rw [nI_add, show (4 : Int32) = nI 4 from rfl, pk_sub (by omega)]
    have ei : (nI f * 9 + nI k : Int32) = nI (9 * f + k) := by rw [show (9 : Int32) = nI 9 from rfl, pk_mul, nI_add, Nat.mul_comm]
    have ib : fm_inb (nI (9 * f + k)) 36 = true := nu_inb (by omega) (by omega)
    have ic : Int32.toNatClampNeg (nI (9 * f + k)) = 9 * f + k := nI_clamp (by omega)
    rw [G_X0_listen_67, if_neg (show ¬ (9 : Int32) ≤ nI k from nI_ge (b := 9) (by omega) (by omega)), fm_gd_t fb, fc, ex, ei]
    simp only [fm_lt]
    rw [fm_gd_t fb, show (45 + 1 : Nat) = 46 from rfl, fm_up_get, nI_1]
    have fin : ∀ (A3 : fm_M) (w : Int32), fl f k = w → (∀ q c, q ≠ t + 15 → A3.1 q c = (fm_up A1 46 f (nI (px f + k - 4))).1 q c) → ∃ A2 : fm_M, G_X0_listen_67 fa t 45 n (nI f) (nI (px f)) (nI (k + 1)) (fm_up A3 67 (9 * f + k) w) = some (nI 9, A2) ∧ ag br_A A (fm_up A2 46 f (nI (px f))) ∧ (∀ j, j < 9 → A2.1 67 (9 * f + j) = fl f j) ∧ (∀ q c, q ≠ t + 15 → (q ≠ 46 ∨ c ≠ f) → (q ≠ 67 ∨ c < 9 * f ∨ 9 * f + 9 ≤ c) → A2.1 q c = A1.1 q c) := by
      intro A3 w hw f3
      obtain ⟨A2, g1, g2, g3, g4⟩ := ih (k + 1) fa (fm_up A3 67 (9 * f + k) w) (by omega) (by omega) (fun q c z => by
        by_cases y : q = 46 ∧ c = f
        · rw [y.1, y.2, fm_up_get]; exact hp.symm
        · have := a q c z
          rw [fm_up_ne (by omega)] at this
          rw [fm_up_ne (by omega), fm_up_ne (by unfold br_A iv_pA at z; omega), f3 q c (by unfold br_A iv_pA at z; omega), fm_up_ne (by omega), this]) (fun j hj => by
        by_cases y : j = k
        · subst y; rw [fm_up_get, hw]
        · rw [fm_up_ne (by omega), f3 _ _ (by omega), fm_up_ne (by omega)]; exact h7 j (by omega))
      exact ⟨A2, g1, g2, g3, fun q c x y z => by rw [g4 q c x y z, fm_up_ne (by omega), f3 q c x, fm_up_ne (by omega)]⟩
    rcases hT f k hf with ⟨w, e⟩ | ⟨e, v, v1, v2, v3, -⟩
    · rw [(e _).1, fm_bd_s, if_pos rfl, fm_gd_t ib, ic]
      exact fin _ _ w (fun _ _ _ => rfl)
    · obtain ⟨A3, x1, x2⟩ := v3 _ a
      rw [fm_up2] at x1 x2
      rw [(e _).1, fm_bd_s, if_neg n10, x1, fm_bd_s, fm_gd_t ib, ic]
      exact fin A3 _ v2 x2
theorem br_out {A B : fm_M} {t nf mn : Nat} {n : Int32} {px : Nat → Nat} {fl : Nat → Nat → Int32} (ht : t = 4 ∨ t = 21) (hm : mn ≤ nf) (hm4 : mn ≤ 4) (hT : ∀ f k, f < nf → br_T A B t n px fl f k) (hx : ∀ f, f < nf → 100 ≤ px f ∧ px f ≤ 999) (hp : ∀ f, f < nf → A.1 46 f = nI (px f)) : ∀ (m f fa : Nat) (A1 : fm_M), f + m = mn → m < fa → ag br_A A A1 → A1.1 66 3 = nI mn → (∀ g j, g < f → j < 9 → A1.1 67 (9 * g + j) = fl g j) → ∃ A2 : fm_M, G_X0_listen_46 fa t 45 n (nI f) A1 = some (nI mn, A2) ∧ ag br_A A A2 ∧ (∀ g j, g < mn → j < 9 → A2.1 67 (9 * g + j) = fl g j) ∧ (∀ q c, q ≠ t + 15 → (q < 45 ∨ 50 < q) → q ≠ 67 → A2.1 q c = A1.1 q c) := by
  intro m
  induction m with
  | zero =>
    intro f fa A1 hf hfa a h3 h7
    obtain ⟨fa, rfl⟩ : ∃ z, fa = z + 1 := ⟨fa - 1, by omega⟩
    have : f = mn := by omega
    subst this
    rw [G_X0_listen_46, h3, if_pos (nI_le (by omega) (by omega))]
    exact ⟨A1, rfl, a, h7, fun _ _ _ _ _ => rfl⟩
  | succ m ih =>
    intro f fa A1 hf hfa a h3 h7
    obtain ⟨fa, rfl⟩ : ∃ z, fa = z + 1 := ⟨fa - 1, by omega⟩
    have fb : fm_inb (nI f) 8 = true := nu_inb (by omega) (by omega)
    have fc : Int32.toNatClampNeg (nI f) = f := nI_clamp (by omega)
    have hpf : A1.1 46 f = nI (px f) := by rw [a 46 f (by unfold br_A; omega)]; exact hp f (by omega)
    rw [G_X0_listen_46, h3, if_neg (nI_ge (by omega) (by omega)), fm_gd_t fb, fc, fm_lt, show A1.1 (45 + 1) f = nI (px f) from hpf]
    obtain ⟨A2, g1, g2, g3, g4⟩ := br_in ht (show f < nf by omega) (by omega) hT (hx f (by omega)) (hp f (by omega)) 9 0 fm_fuel A1 (by omega) (by unfold fm_fuel; omega) (fun q c z => by
      by_cases y : q = 46 ∧ c = f
      · rw [y.1, y.2, fm_up_get]; exact (hp f (by omega)).symm
      · rw [fm_up_ne (by omega)]; exact a q c z) (fun j hj => by omega)
    rw [show G_X0_listen_67 fm_fuel t 45 n (nI f) (nI (px f)) 0 A1 = _ from g1, fm_bd_s, fm_gd_t fb, fm_lt, nI_1]
    obtain ⟨A3, k1, k2, k3, k4⟩ := ih (f + 1) fa (fm_up A2 46 f (nI (px f))) (by omega) (by omega) g2 (by rw [fm_up_ne (by omega), g4 _ _ (by omega) (by omega) (by omega)]; exact h3) (fun g j hg hj => by
      rw [fm_up_ne (by omega)]
      by_cases y : g = f
      · subst y; exact g3 j hj
      · rw [g4 _ _ (by omega) (by omega) (by omega)]; exact h7 g j (by omega) hj)
    exact ⟨A3, k1, k2, k3, fun q c x y z => by rw [k4 q c x y z, fm_up_ne (by omega), g4 q c x (by omega) (by omega)]⟩
/-- the others, in class and reference -/
def br_oth (hv : Nat → Nat) : Nat → Nat → Nat
  | 0, _ => 0
  | m + 1, i => hv i + br_oth hv m (i + 1)
theorem br_oth_le {hv : Nat → Nat} {nf : Nat} (h : ∀ f, f < nf → hv f ≤ 99) : ∀ m i, i + m = nf → br_oth hv m i ≤ 99 * m := by
  intro m
  induction m with
  | zero => intro i _; exact Nat.le_refl _
  | succ m ih =>
    intro i hi
    have a := ih (i + 1) (by omega)
    have b := h i (by omega)
    rw [br_oth]; omega
theorem br_oA {A : fm_M} {t nf : Nat} {n : Int32} {hv : Nat → Nat} (ht : t = 4 ∨ t = 21) (hnf : nf ≤ 8) (h0 : A.1 t 0 = nI nf) (hh : ∀ f, f < nf → ∀ A1, ag br_A A A1 → ∃ A2, F_X7_humOf 45 t (nI f) n A1 = some (nI (hv f), A2) ∧ ag br_A A A2 ∧ ∀ q k, q ≠ t + 15 → A2.1 q k = A1.1 q k) : ∀ (m i fa acc : Nat) (A1 : fm_M), i + m = nf → m < fa → ag br_A A A1 → A1.1 66 4 = nI acc → ∃ A2 : fm_M, G_X0_listen_11 fa t 45 n (nI i) A1 = some (nI nf, A2) ∧ ag br_A A A2 ∧ A2.1 66 4 = nI (acc + br_oth hv m i) ∧ (∀ q k, q ≠ t + 15 → (q ≠ 66 ∨ k ≠ 4) → A2.1 q k = A1.1 q k) := by
  intro m
  induction m with
  | zero =>
    intro i fa acc A1 hi hfa a h4
    obtain ⟨fa, rfl⟩ : ∃ z, fa = z + 1 := ⟨fa - 1, by omega⟩
    have : i = nf := by omega
    subst this
    rw [G_X0_listen_11, a t 0 (by unfold br_A iv_pA; omega), h0, if_pos (nI_le (by omega) (by omega))]
    exact ⟨A1, rfl, a, by rw [h4]; rfl, fun _ _ _ _ => rfl⟩
  | succ m ih =>
    intro i fa acc A1 hi hfa a h4
    obtain ⟨fa, rfl⟩ : ∃ z, fa = z + 1 := ⟨fa - 1, by omega⟩
    obtain ⟨A2, e1, e2, e3⟩ := hh i (by omega) A1 a
    rw [G_X0_listen_11, a t 0 (by unfold br_A iv_pA; omega), h0, if_neg (nI_ge (by omega) (by omega)), e1, fm_bd_s, h4, fm_lt, nI_add, nI_1]
    obtain ⟨A3, k1, k2, k3, k4⟩ := ih (i + 1) fa (acc + hv i) (fm_up A2 66 4 (nI (acc + hv i))) (by omega) (by omega) (fun q k z => by rw [fm_up_ne (by unfold br_A iv_pA at z; omega)]; exact e2 q k z) fm_up_get
    exact ⟨A3, k1, k2, by rw [k3, br_oth, Nat.add_assoc], fun q k x y => by rw [k4 q k x y, fm_up_ne y, e3 q k x]⟩
theorem br_oB {B : fm_M} {nf : Nat} {n : Int32} {hv : Nat → Nat} (hnf : nf ≤ 8) (h0 : B.1 78 0 = nI nf) (hh : ∀ f, f < nf → ∀ B1, ag iv_pB B B1 → ∃ B2, F_X10_humOf 0 (nI f) n B1 = some (nI (hv f), B2) ∧ ag iv_pB B B2 ∧ ∀ q k, (q ≠ 76 ∨ k ≠ 32) → B2.1 q k = B1.1 q k) (l2 l3 : Int32) : ∀ (m i fb acc : Nat) (B1 : fm_M), i + m = nf → m < fb → ag iv_pB B B1 → ∃ B2 : fm_M, G_X10_bribe_61 fb n l2 l3 (nI acc) (nI i) B1 = some ((nI (acc + br_oth hv m i), nI nf), B2) ∧ ag iv_pB B B2 ∧ (∀ q k, (q ≠ 76 ∨ k ≠ 32) → B2.1 q k = B1.1 q k) := by
  intro m
  induction m with
  | zero =>
    intro i fb acc B1 hi hfb b
    obtain ⟨fb, rfl⟩ : ∃ z, fb = z + 1 := ⟨fb - 1, by omega⟩
    have : i = nf := by omega
    subst this
    rw [G_X10_bribe_61, fm_gd_t (by decide), ck_0, b 78 0 (by unfold iv_pB; omega), h0, if_pos (nI_le (by omega) (by omega))]
    exact ⟨B1, rfl, b, fun _ _ _ => rfl⟩
  | succ m ih =>
    intro i fb acc B1 hi hfb b
    obtain ⟨fb, rfl⟩ : ∃ z, fb = z + 1 := ⟨fb - 1, by omega⟩
    obtain ⟨B2, e1, e2, e3⟩ := hh i (by omega) B1 b
    rw [G_X10_bribe_61, fm_gd_t (by decide), ck_0, b 78 0 (by unfold iv_pB; omega), h0, if_neg (nI_ge (by omega) (by omega)), e1, fm_bd_s, fm_lt, nI_add, nI_1]
    obtain ⟨B3, k1, k2, k3⟩ := ih (i + 1) fb (acc + hv i) B2 (by omega) (by omega) e2
    exact ⟨B3, by rw [k1, br_oth, Nat.add_assoc], k2, fun q k x => by rw [k3 q k x, e3 q k x]⟩
/-- the reference's table -/
theorem br_min {A B : fm_M} {t nf f : Nat} {n : Int32} {px : Nat → Nat} {fl : Nat → Nat → Int32} (hf : f < nf) (hf4 : f < 4) (hT : ∀ f k, f < nf → br_T A B t n px fl f k) (hx : 100 ≤ px f ∧ px f ≤ 999) (hp : B.1 98 f = nI (px f)) (l1 : Int32) : ∀ (m k fb : Nat) (B1 : fm_M), k + m = 9 → m < fb → ag iv_pB B B1 → (∀ j, j < k → B1.1 102 (9 * f + j) = fl f j) → ∃ B2 : fm_M, G_X10_layFiled_10 fb l1 n (nI f) (nI k) B1 = some (nI 9, B2) ∧ ag iv_pB B B2 ∧ (∀ j, j < 9 → B2.1 102 (9 * f + j) = fl f j) ∧ (∀ c, (c < 9 * f ∨ 9 * f + 9 ≤ c) → B2.1 102 c = B1.1 102 c) := by
  intro m
  induction m with
  | zero =>
    intro k fb B1 hk hfb b h7
    obtain ⟨fb, rfl⟩ : ∃ z, fb = z + 1 := ⟨fb - 1, by omega⟩
    have : k = 9 := by omega
    subst this
    rw [G_X10_layFiled_10, if_pos (by decide)]
    exact ⟨B1, rfl, b, h7, fun _ _ => rfl⟩
  | succ m ih =>
    intro k fb B1 hk hfb b h7
    obtain ⟨fb, rfl⟩ : ∃ z, fb = z + 1 := ⟨fb - 1, by omega⟩
    have ex : (nI (px f) + nI k - 4 : Int32) = nI (px f + k - 4) := by rw [nI_add, show (4 : Int32) = nI 4 from rfl, pk_sub (by omega)]
    have ei : (9 * nI f + nI k : Int32) = nI (9 * f + k) := by rw [show (9 : Int32) = nI 9 from rfl, pk_mul, nI_add]
    have ib : fm_inb (nI (9 * f + k)) 36 = true := nu_inb (by omega) (by omega)
    have ic : Int32.toNatClampNeg (nI (9 * f + k)) = 9 * f + k := nI_clamp (by omega)
    have hpf : B1.1 98 f = nI (px f) := by rw [b 98 f (by unfold iv_pB; omega)]; exact hp
    rw [G_X10_layFiled_10, if_neg (show ¬ (9 : Int32) ≤ nI k from nI_ge (b := 9) (by omega) (by omega)), fm_gd_t (nu_inb (by omega) (by omega)), nI_clamp (show f < 2 ^ 31 by omega), hpf, ex, ei, nI_1]
    simp only [fm_lt]
    have fin : ∀ (B3 : fm_M) (w : Int32), fl f k = w → (∀ q j, (q ≠ 76 ∨ j ≠ 32) → B3.1 q j = B1.1 q j) → ∃ B2 : fm_M, G_X10_layFiled_10 fb l1 n (nI f) (nI (k + 1)) (fm_up B3 102 (9 * f + k) w) = some (nI 9, B2) ∧ ag iv_pB B B2 ∧ (∀ j, j < 9 → B2.1 102 (9 * f + j) = fl f j) ∧ (∀ c, (c < 9 * f ∨ 9 * f + 9 ≤ c) → B2.1 102 c = B1.1 102 c) := by
      intro B3 w hw f3
      obtain ⟨B2, g1, g2, g3, g4⟩ := ih (k + 1) fb (fm_up B3 102 (9 * f + k) w) (by omega) (by omega) (fun q c z => by rw [fm_up_ne (by unfold iv_pB at z; omega), f3 q c (by unfold iv_pB at z; omega), b q c z]) (fun j hj => by
        by_cases y : j = k
        · subst y; rw [fm_up_get, hw]
        · rw [fm_up_ne (by omega), f3 _ _ (by omega)]; exact h7 j (by omega))
      exact ⟨B2, g1, g2, g3, fun c x => by rw [g4 c x, fm_up_ne (by omega), f3 _ _ (by omega)]⟩
    rcases hT f k hf with ⟨w, e⟩ | ⟨e, v, v1, v2, -, v4⟩
    · rw [(e _).2, fm_bd_s, if_pos rfl, fm_gd_t ib, ic]
      exact fin _ _ w (fun _ _ _ => rfl)
    · rw [(e _).2, fm_bd_s, if_neg n10]
      rcases v4 B1 b with ⟨x1, x2⟩ | ⟨x1, B3, x2, x3⟩
      · rw [x1, fm_bd_s, if_neg n10, fm_gd_t ib, ic]
        exact fin _ _ (by rw [v2, x2]; rfl) (fun _ _ _ => rfl)
      · rw [x1, fm_bd_s, if_pos rfl, x2, fm_bd_s, fm_gd_t ib, ic]
        exact fin B3 _ v2 x3
theorem br_mout {A B : fm_M} {t nf mn : Nat} {n : Int32} {px : Nat → Nat} {fl : Nat → Nat → Int32} (hm : mn ≤ nf) (hm4 : mn ≤ 4) (hT : ∀ f k, f < nf → br_T A B t n px fl f k) (hx : ∀ f, f < nf → 100 ≤ px f ∧ px f ≤ 999) (hp : ∀ f, f < nf → B.1 98 f = nI (px f)) : ∀ (m f fb : Nat) (B1 : fm_M), f + m = mn → m < fb → ag iv_pB B B1 → (∀ g j, g < f → j < 9 → B1.1 102 (9 * g + j) = fl g j) → ∃ B2 : fm_M, G_X10_layFiled_2 fb (nI mn) n (nI f) B1 = some (nI mn, B2) ∧ ag iv_pB B B2 ∧ (∀ g j, g < mn → j < 9 → B2.1 102 (9 * g + j) = fl g j) := by
  intro m
  induction m with
  | zero =>
    intro f fb B1 hf hfb b h7
    obtain ⟨fb, rfl⟩ : ∃ z, fb = z + 1 := ⟨fb - 1, by omega⟩
    have : f = mn := by omega
    subst this
    rw [G_X10_layFiled_2, if_pos (nI_le (by omega) (by omega))]
    exact ⟨B1, rfl, b, h7⟩
  | succ m ih =>
    intro f fb B1 hf hfb b h7
    obtain ⟨fb, rfl⟩ : ∃ z, fb = z + 1 := ⟨fb - 1, by omega⟩
    obtain ⟨B2, g1, g2, g3, g4⟩ := br_min (show f < nf by omega) (by omega) hT (hx f (by omega)) (hp f (by omega)) (nI mn) 9 0 fm_fuel B1 (by omega) (by unfold fm_fuel; omega) b (fun j hj => by omega)
    rw [G_X10_layFiled_2, if_neg (nI_ge (by omega) (by omega)), show G_X10_layFiled_10 fm_fuel (nI mn) n (nI f) 0 B1 = _ from g1, fm_bd_s, nI_1]
    exact ih (f + 1) fb B2 (by omega) (by omega) g2 (fun g j hg hj => by
      by_cases y : g = f
      · subst y; exact g3 j hj
      · rw [g4 _ (by omega)]; exact h7 g j (by omega) hj)
