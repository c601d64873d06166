/-! the table of the two, and where both rest -/
theorem du_inner {A B : fm_M} {t nf nm kd km o w i x y : Nat} (n : Int32) (h : iv_all A B t nf nm kd km) (hs : iv_st A B 45 0 nf nm) (hso : iv_so A B t 45 nf nm) (ho : o < nf) (hw : w < nf) (how : o ≠ w) (ex : A.1 46 o = nI x) (ey : A.1 46 w = nI y) (hx : x ≤ 999) (hx2 : 100 ≤ x) (hy : y ≤ 999) (hy2 : 100 ≤ y) (hi : i < 5) : ∀ (m j fa fb : Nat) (A1 B1 : fm_M), j + m = 5 → m < fa → m < fb → du_A A A1 t o w → ag iv_pB B B1 → A1.1 46 o = du_w (x + i - 2) → (∀ c, c < 5 * i + j → du_t A1 B1 (B.1 78 5) c) →
    ∃ A4 B4 : fm_M, G_X2_settle_51 fa t 45 (nI o) (nI w) n (nI x) (nI y) (nI i) (nI j) A1 = some (nI 5, A4) ∧ G_X10_layAgainst_3 fb (nI o) (nI w) n (nI (5 * i + j)) B1 = G_X10_layAgainst_3 (fb - m) (nI o) (nI w) n (nI (5 * (i + 1))) B4 ∧ du_A A A4 t o w ∧ ag iv_pB B B4 ∧ (∀ c, c < 5 * (i + 1) → du_t A4 B4 (B.1 78 5) c) := by
  intro m
  induction m with
  | zero =>
    intro j fa fb A1 B1 hj hfa hfb sa sb e46 hc
    obtain ⟨fa, rfl⟩ : ∃ z, fa = z + 1 := ⟨fa - 1, by omega⟩
    have : j = 5 := by omega
    subst this
    rw [G_X2_settle_51, if_pos (by decide), Nat.sub_zero, show 5 * i + 5 = 5 * (i + 1) by omega]
    exact ⟨A1, B1, rfl, rfl, sa, sb, fun c z => hc c (by omega)⟩
  | succ m ih =>
    intro j fa fb A1 B1 hj hfa hfb sa sb e46 hc
    obtain ⟨fa, rfl⟩ : ∃ z, fa = z + 1 := ⟨fa - 1, by omega⟩
    obtain ⟨fb, rfl⟩ : ∃ z, fb = z + 1 := ⟨fb - 1, by omega⟩
    obtain ⟨A2, B2, e1, e2, e3, e4, e5, e6, e7⟩ := du_step (fa := fa) (fb := fb) n h hs hso ho hw how ex ey hx hx2 hy hy2 hi (show j < 5 by omega) sa sb e46
    obtain ⟨A4, B4, k1, k2, k3⟩ := ih (j + 1) fa fb A2 B2 (by omega) (by omega) (by omega) e3 e4 e5 (fun c z => by
      by_cases y1 : c = 5 * i + j
      · rw [y1]; exact e6
      · have := hc c (by omega)
        unfold du_t at this ⊢
        rw [(e7 c y1).1, (e7 c y1).2.1, (e7 c y1).2.2]; exact this)
    refine ⟨A4, B4, by rw [e1]; exact k1, ?_, k3⟩
    rw [e2, show fb + 1 - (m + 1) = fb - m by omega]
    exact k2
theorem du_outer {A B : fm_M} {t nf nm kd km o w x y : Nat} (n : Int32) (h : iv_all A B t nf nm kd km) (hs : iv_st A B 45 0 nf nm) (hso : iv_so A B t 45 nf nm) (ho : o < nf) (hw : w < nf) (how : o ≠ w) (ex : A.1 46 o = nI x) (ey : A.1 46 w = nI y) (hx : x ≤ 999) (hx2 : 100 ≤ x) (hy : y ≤ 999) (hy2 : 100 ≤ y) : ∀ (m i fa fb : Nat) (A1 B1 : fm_M), i + m = 5 → m < fa → 5 * m < fb → du_A A A1 t o w → ag iv_pB B B1 → (∀ c, c < 5 * i → du_t A1 B1 (B.1 78 5) c) →
    ∃ A4 B4 : fm_M, G_X2_settle_20 fa t 45 (nI o) (nI w) n (nI x) (nI y) (nI i) A1 = some (nI 5, A4) ∧ G_X10_layAgainst_3 fb (nI o) (nI w) n (nI (5 * i)) B1 = some (nI 25, B4) ∧ du_A A A4 t o w ∧ ag iv_pB B B4 ∧ (∀ c, c < 25 → du_t A4 B4 (B.1 78 5) c) := by
  have ht := fm_td (iv_tt h)
  have hn := (iv_nf h).1
  intro m
  induction m with
  | zero =>
    intro i fa fb A1 B1 hi hfa hfb sa sb hc
    obtain ⟨fa, rfl⟩ : ∃ z, fa = z + 1 := ⟨fa - 1, by omega⟩
    obtain ⟨fb, rfl⟩ : ∃ z, fb = z + 1 := ⟨fb - 1, by omega⟩
    have : i = 5 := by omega
    subst this
    rw [G_X2_settle_20, if_pos (by decide), G_X10_layAgainst_3, if_pos (by decide)]
    exact ⟨A1, B1, rfl, rfl, sa, sb, hc⟩
  | succ m ih =>
    intro i fa fb A1 B1 hi hfa hfb sa sb hc
    obtain ⟨fa, rfl⟩ : ∃ z, fa = z + 1 := ⟨fa - 1, by omega⟩
    have v1 : (nI x + nI i - 2 : Int32) = nI (x + i - 2) := by rw [nI_add, show (2 : Int32) = nI 2 from rfl, pk_sub (by omega)]
    have sa2 : du_A A (fm_up A1 46 o (du_w (x + i - 2))) t o w := ⟨fun q k a b c => by rw [fm_up_ne (by omega), sa.1 q k a b c], fun k a b => by rw [fm_up_ne (by omega), sa.2 k a b]⟩
    obtain ⟨A4, B4, k1, k2, k3, k4, k5⟩ := du_inner n h hs hso ho hw how ex ey hx hx2 hy hy2 (show i < 5 by omega) 5 0 fm_fuel fb (fm_up A1 46 o (du_w (x + i - 2))) B1 (by omega) (by unfold fm_fuel; omega) (by omega) sa2 sb fm_up_get (fun c z => by
      have := hc c (by omega)
      unfold du_t at this ⊢
      rw [fm_up_ne (by omega)]; exact this)
    rw [G_X2_settle_20, if_neg (show ¬ (5 : Int32) ≤ nI i from nI_ge (b := 5) (by omega) (by omega)), F_X9_within, fm_bd_s, v1, du_wi _ (by omega), fm_gd_t (nu_inb (by omega) (by omega)), nI_clamp (by omega)]
    simp only [fm_lt]
    rw [show G_X2_settle_51 fm_fuel t 45 (nI o) (nI w) n (nI x) (nI y) (nI i) 0 (fm_up A1 (45 + 1) o (du_w (x + i - 2))) = _ from k1, fm_bd_s, nI_1, show G_X10_layAgainst_3 fb (nI o) (nI w) n (nI (5 * i)) B1 = _ from k2]
    exact ih (i + 1) fa (fb - 5) A4 B4 (by omega) (by omega) (by omega) k3 k4 k5
/-- what the first and the second have -/
theorem du_has {A B : fm_M} {pr : Int32} {i j : Nat} (hi : i < 5) (hj : j < 5) (h : du_t A B pr (5 * i + j)) : F_X2_firstHas (nI i) (nI j) pr A = some (B.1 103 (5 * i + j), A) ∧ F_X2_secondHas (nI i) (nI j) pr A = some (B.1 104 (5 * i + j), A) := by
  have ci : (nI i * 5 + nI j : Int32) = nI (5 * i + j) := by rw [show (5 : Int32) = nI 5 from rfl, pk_mul, nI_add, Nat.mul_comm]
  have ed : (5 * i + j) / 5 = i := by omega
  have em : (5 * i + j) % 5 = j := by omega
  rw [F_X2_firstHas, F_X2_secondHas, ci, fm_gd_t (nu_inb (by omega) (by omega)), fm_gd_t (nu_inb (by omega) (by omega)), nI_clamp (by omega)]
  unfold du_t at h
  rw [ed, em] at h
  rcases h with ⟨h1, h2, h3⟩ | ⟨h1, h2, h3⟩
  · rw [if_pos h1, if_pos h1, J_X2_firstHas_19, J_X2_secondHas_19, h2, h3]; exact ⟨rfl, rfl⟩
  · rw [if_neg (by rw [h1]; decide), if_neg (by rw [h1]; decide), J_X2_firstHas_19, J_X2_secondHas_19, h2, h3]; exact ⟨rfl, rfl⟩
theorem du_isRest {A B : fm_M} {pr : Int32} {i j : Nat} (hi : i < 5) (hj : j < 5) (h : ∀ c, c < 25 → du_t A B pr c) : ∃ v : Int32, F_X2_isRest (nI i) (nI j) pr A = some (v, A) ∧ F_X10_isRest (nI (5 * i + j)) B = some (v, B) := by
  have cd : nI (5 * i + j) / 5 = nI i := by rw [show (5 : Int32) = nI 5 from rfl, pk_div (by omega) (by omega) (by omega)]; congr 1; omega
  have cr : i_rem (nI (5 * i + j)) 5 = nI j := by unfold i_rem; rw [show (5 : Int32) = nI 5 from rfl, pk_rem (by omega) (by omega) (by omega)]; congr 1; omega
  obtain ⟨e1, e2⟩ := du_has hi hj (h (5 * i + j) (by omega))
  have lp : ∀ (m k fa fb : Nat), k + m = 5 → m < fa → m < fb → ∃ v, G_X2_isRest_21 fa (nI i) (nI j) pr (B.1 103 (5 * i + j)) (B.1 104 (5 * i + j)) (nI k) A = some (v, A) ∧ G_X10_isRest_2 fb (nI (5 * i + j)) (nI k) B = some (v, B) := by
    intro m
    induction m with
    | zero =>
      intro k fa fb hk hfa hfb
      obtain ⟨fa, rfl⟩ : ∃ z, fa = z + 1 := ⟨fa - 1, by omega⟩
      obtain ⟨fb, rfl⟩ : ∃ z, fb = z + 1 := ⟨fb - 1, by omega⟩
      have : k = 5 := by omega
      subst this
      rw [G_X2_isRest_21, if_pos (by decide), G_X10_isRest_2, if_pos (by decide)]
      exact ⟨_, rfl, rfl⟩
    | succ m ih =>
      intro k fa fb hk hfa hfb
      obtain ⟨fa, rfl⟩ : ∃ z, fa = z + 1 := ⟨fa - 1, by omega⟩
      obtain ⟨fb, rfl⟩ : ∃ z, fb = z + 1 := ⟨fb - 1, by omega⟩
      have c1 : (5 * nI k + nI j : Int32) = nI (5 * k + j) := by rw [show (5 : Int32) = nI 5 from rfl, pk_mul, nI_add]
      have c2 : (nI i * 5 + nI k : Int32) = nI (5 * i + k) := by rw [show (5 : Int32) = nI 5 from rfl, pk_mul, nI_add, Nat.mul_comm]
      rw [G_X2_isRest_21, if_neg (show ¬ (5 : Int32) ≤ nI k from nI_ge (b := 5) (by omega) (by omega)), (du_has (show k < 5 by omega) hj (h (5 * k + j) (by omega))).1, fm_bd_s, (du_has hi (show k < 5 by omega) (h (5 * i + k) (by omega))).2, fm_bd_s, G_X10_isRest_2, if_neg (show ¬ (5 : Int32) ≤ nI k from nI_ge (b := 5) (by omega) (by omega)), cr, cd, c1, c2, fm_gd_t (nu_inb (by omega) (by omega)), fm_gd_t (nu_inb (by omega) (by omega)), fm_gd_t (nu_inb (by omega) (by omega)), fm_gd_t (nu_inb (by omega) (by omega)), nI_clamp (by omega), nI_clamp (by omega), nI_clamp (by omega), nI_1]
      by_cases z1 : B.1 103 (5 * i + j) < B.1 103 (5 * k + j)
      · rw [if_pos z1, if_pos z1]; exact ⟨_, rfl, rfl⟩
      rw [if_neg z1, if_neg z1]
      by_cases z2 : B.1 104 (5 * i + k) ≤ B.1 104 (5 * i + j)
      · rw [if_pos z2, if_pos z2]; exact ih (k + 1) fa fb (by omega) (by omega) (by omega)
      · rw [if_neg z2, if_neg z2]; exact ⟨_, rfl, rfl⟩
  obtain ⟨v, k1, k2⟩ := lp 5 0 fm_fuel fm_fuel (by omega) (by unfold fm_fuel; omega) (by unfold fm_fuel; omega)
  rw [F_X2_isRest, e1, fm_bd_s, e2, fm_bd_s, show G_X2_isRest_21 fm_fuel (nI i) (nI j) pr _ _ 0 A = _ from k1, F_X10_isRest, show G_X10_isRest_2 fm_fuel (nI (5 * i + j)) 0 B = _ from k2]
  rcases v with v | v
  · exact ⟨_, rfl, rfl⟩
  · exact ⟨_, rfl, rfl⟩
def du_cnt (r : Nat → Int32) : Nat → Nat
  | 0 => 0
  | c + 1 => du_cnt r c + (if r c = 0 then 0 else 1)
theorem du_cnt_le (r : Nat → Int32) : ∀ c, du_cnt r c ≤ c := by
  intro c
  induction c with
  | zero => exact Nat.le_refl _
  | succ c ih => rw [du_cnt]; split <;> omega
theorem du_cnt_mono (r : Nat → Int32) {a : Nat} : ∀ b, a ≤ b → du_cnt r a ≤ du_cnt r b := by
  intro b
  induction b with
  | zero => intro h; rw [show a = 0 by omega]; exact Nat.le_refl _
  | succ b ih =>
    intro h
    by_cases c : a = b + 1
    · rw [c]; exact Nat.le_refl _
    · have := ih (by omega)
      rw [du_cnt]; omega
theorem du_cnt_hit (r : Nat → Int32) {k : Nat} : ∀ c, k < du_cnt r c → ∃ d, d < c ∧ ¬ r d = 0 ∧ du_cnt r d = k := by
  intro c
  induction c with
  | zero => intro h; rw [du_cnt] at h; omega
  | succ c ih =>
    intro h
    rw [du_cnt] at h
    by_cases z : k < du_cnt r c
    · obtain ⟨d, d1, d2⟩ := ih z
      exact ⟨d, by omega, d2⟩
    · by_cases y : r c = 0
      · rw [if_pos y] at h; omega
      · rw [if_neg y] at h; exact ⟨c, by omega, y, by omega⟩
def du_code (c : Nat) : Int32 := nI (10 * (c / 5) + c % 5)
theorem du_cl2 {t : Nat} {r : Nat → Int32} (ht : t = 4 ∨ t = 21) (l3 l4 l5 l6 l7 : Int32) {A : fm_M} {pr : Int32} (hpr : A.1 t 15 = pr) (hr : ∀ A1 : fm_M, (∀ c, A1.1 71 c = A.1 71 c) → ∀ i j, i < 5 → j < 5 → F_X2_isRest (nI i) (nI j) pr A1 = some (r (5 * i + j), A1)) {i : Nat} (hi : i < 5) : ∀ (m j fa : Nat) (A1 : fm_M), j + m = 5 → m < fa → (∀ q k, (q ≠ 70 ∨ k ≠ 2) → q ≠ 72 → A1.1 q k = A.1 q k) → A1.1 70 2 = nI (du_cnt r (5 * i + j)) → (∀ c, c < 5 * i + j → ¬ r c = 0 → A1.1 72 (du_cnt r c) = du_code c) → ∃ A2 : fm_M, G_X2_settle_128 fa t 45 l3 l4 l5 l6 l7 (nI i) (nI j) A1 = some (nI 5, A2) ∧ (∀ q k, (q ≠ 70 ∨ k ≠ 2) → q ≠ 72 → A2.1 q k = A.1 q k) ∧ A2.1 70 2 = nI (du_cnt r (5 * (i + 1))) ∧ (∀ c, c < 5 * (i + 1) → ¬ r c = 0 → A2.1 72 (du_cnt r c) = du_code c) := by
  intro m
  induction m with
  | zero =>
    intro j fa A1 hj hfa f1 f2 f3
    obtain ⟨fa, rfl⟩ : ∃ z, fa = z + 1 := ⟨fa - 1, by omega⟩
    have : j = 5 := by omega
    subst this
    rw [G_X2_settle_128, if_pos (by decide)]
    rw [show 5 * i + 5 = 5 * (i + 1) by omega] at f2 f3
    exact ⟨A1, rfl, f1, f2, f3⟩
  | succ m ih =>
    intro j fa A1 hj hfa f1 f2 f3
    obtain ⟨fa, rfl⟩ : ∃ z, fa = z + 1 := ⟨fa - 1, by omega⟩
    rw [G_X2_settle_128, if_neg (show ¬ (5 : Int32) ≤ nI j from nI_ge (b := 5) (by omega) (by omega)), f1 t 15 (by omega) (by omega), hpr, hr A1 (fun c => f1 71 c (by omega) (by omega)) i j hi (by omega), fm_bd_s, nI_1]
    have hc := du_cnt_le r (5 * i + j)
    by_cases z : r (5 * i + j) = 0
    · rw [if_pos z]
      exact ih (j + 1) fa A1 (by omega) (by omega) f1 (by rw [show 5 * i + (j + 1) = 5 * i + j + 1 by omega, du_cnt, if_pos z, f2]; rfl) (fun c hc1 hc2 => by
        by_cases y : c = 5 * i + j
        · exact absurd (y ▸ z) hc2
        · exact f3 c (by omega) hc2)
    · have ec : ((10 : Int32) * nI i + nI j) = du_code (5 * i + j) := by
        unfold du_code
        rw [show (10 : Int32) = nI 10 from rfl, pk_mul, nI_add]; congr 1; omega
      rw [if_neg z, f2, fm_gd_t (nu_inb (by omega) (by omega)), nI_clamp (by omega), ec]
      simp only [fm_lt]
      rw [fm_up_ne (by omega), f2, nI_1]
      refine ih (j + 1) fa _ (by omega) (by omega) (fun q k a b => by rw [fm_up_ne (by omega), fm_up_ne (by omega), f1 q k a b]) (by rw [fm_up_get, show 5 * i + (j + 1) = 5 * i + j + 1 by omega, du_cnt, if_neg z]) (fun c hc1 hc2 => ?_)
      by_cases y : c = 5 * i + j
      · subst y; rw [fm_up_ne (by omega), fm_up_get]
      · have hm := du_cnt_mono r (a := c + 1) (5 * i + j) (by omega)
        rw [du_cnt, if_neg hc2] at hm
        rw [fm_up_ne (by omega), fm_up_ne (by omega)]; exact f3 c (by omega) hc2
theorem du_cl1 {t : Nat} {r : Nat → Int32} (ht : t = 4 ∨ t = 21) (l3 l4 l5 l6 l7 : Int32) {A : fm_M} {pr : Int32} (hpr : A.1 t 15 = pr) (hr : ∀ A1 : fm_M, (∀ c, A1.1 71 c = A.1 71 c) → ∀ i j, i < 5 → j < 5 → F_X2_isRest (nI i) (nI j) pr A1 = some (r (5 * i + j), A1)) : ∀ (m i fa : Nat) (A1 : fm_M), i + m = 5 → m < fa → (∀ q k, (q ≠ 70 ∨ k ≠ 2) → q ≠ 72 → A1.1 q k = A.1 q k) → A1.1 70 2 = nI (du_cnt r (5 * i)) → (∀ c, c < 5 * i → ¬ r c = 0 → A1.1 72 (du_cnt r c) = du_code c) → ∃ A2 : fm_M, G_X2_settle_119 fa t 45 l3 l4 l5 l6 l7 (nI i) A1 = some (nI 5, A2) ∧ (∀ q k, (q ≠ 70 ∨ k ≠ 2) → q ≠ 72 → A2.1 q k = A.1 q k) ∧ A2.1 70 2 = nI (du_cnt r 25) ∧ (∀ c, c < 25 → ¬ r c = 0 → A2.1 72 (du_cnt r c) = du_code c) := by
  intro m
  induction m with
  | zero =>
    intro i fa A1 hi hfa f1 f2 f3
    obtain ⟨fa, rfl⟩ : ∃ z, fa = z + 1 := ⟨fa - 1, by omega⟩
    have : i = 5 := by omega
    subst this
    rw [G_X2_settle_119, if_pos (by decide)]
    exact ⟨A1, rfl, f1, f2, f3⟩
  | succ m ih =>
    intro i fa A1 hi hfa f1 f2 f3
    obtain ⟨fa, rfl⟩ : ∃ z, fa = z + 1 := ⟨fa - 1, by omega⟩
    obtain ⟨A2, e1, e2, e3, e4⟩ := du_cl2 ht l3 l4 l5 l6 l7 hpr hr (show i < 5 by omega) 5 0 fm_fuel A1 (by omega) (by unfold fm_fuel; omega) f1 f2 f3
    rw [G_X2_settle_119, if_neg (show ¬ (5 : Int32) ≤ nI i from nI_ge (b := 5) (by omega) (by omega)), show G_X2_settle_128 fm_fuel t 45 l3 l4 l5 l6 l7 (nI i) 0 A1 = _ from e1, fm_bd_s, nI_1]
    exact ih (i + 1) fa A2 (by omega) (by omega) e2 e3 e4
theorem du_md {B : fm_M} {r : Nat → Int32} (hr : ∀ c, c < 25 → F_X10_isRest (nI c) B = some (r c, B)) (k : Int32) : ∀ (m c fb : Nat), c + m = 25 → m < fb → (∃ d, c ≤ d ∧ d < 25 ∧ ¬ r d = 0 ∧ k = nI (du_cnt r d) ∧ G_X10_restOf_4 fb k (nI (du_cnt r c)) (nI c) B = some (.inr (du_code d), B)) ∨ ((∀ d, c ≤ d → d < 25 → ¬ r d = 0 → ¬ k = nI (du_cnt r d)) ∧ G_X10_restOf_4 fb k (nI (du_cnt r c)) (nI c) B = some (.inl (nI (du_cnt r 25), nI 25), B)) := by
  intro m
  induction m with
  | zero =>
    intro c fb hc hfb
    obtain ⟨fb, rfl⟩ : ∃ z, fb = z + 1 := ⟨fb - 1, by omega⟩
    have : c = 25 := by omega
    subst this
    rw [G_X10_restOf_4, if_pos (by decide)]
    exact Or.inr ⟨fun d a b => by omega, rfl⟩
  | succ m ih =>
    intro c fb hc hfb
    obtain ⟨fb, rfl⟩ : ∃ z, fb = z + 1 := ⟨fb - 1, by omega⟩
    have cd : nI c / 5 = nI (c / 5) := by rw [show (5 : Int32) = nI 5 from rfl, pk_div (by omega) (by omega) (by omega)]
    have cr : i_rem (nI c) 5 = nI (c % 5) := by unfold i_rem; rw [show (5 : Int32) = nI 5 from rfl, pk_rem (by omega) (by omega) (by omega)]
    have ec : (10 : Int32) * (nI c / 5) + i_rem (nI c) 5 = du_code c := by rw [cd, cr, show (10 : Int32) = nI 10 from rfl, pk_mul, nI_add]; rfl
    rw [G_X10_restOf_4, if_neg (show ¬ (25 : Int32) ≤ nI c from nI_ge (b := 25) (by omega) (by omega)), hr c (by omega), fm_bd_s, ec, nI_1, nI_1]
    have nx := ih (c + 1) fb (by omega) (by omega)
    rw [du_cnt] at nx
    by_cases z : r c = 0
    · rw [if_pos z]
      rw [if_pos z, Nat.add_zero] at nx
      rcases nx with ⟨d, d1, d2, d3, d4, d5⟩ | ⟨d1, d2⟩
      · exact Or.inl ⟨d, by omega, d2, d3, d4, d5⟩
      · refine Or.inr ⟨fun d a b e => ?_, d2⟩
        by_cases y : d = c
        · exact absurd (y ▸ z) e
        · exact d1 d (by omega) b e
    · rw [if_neg z]
      rw [if_neg z] at nx
      by_cases y : nI (du_cnt r c) = k
      · rw [if_pos y]
        exact Or.inl ⟨c, by omega, by omega, z, y.symm, rfl⟩
      · rw [if_neg y]
        rcases nx with ⟨d, d1, d2, d3, d4, d5⟩ | ⟨d1, d2⟩
        · exact Or.inl ⟨d, by omega, d2, d3, d4, d5⟩
        · refine Or.inr ⟨fun d a b e => ?_, d2⟩
          by_cases x : d = c
          · subst x; exact fun q => y q.symm
          · exact d1 d (by omega) b e
/-- both sides of a duel -/
theorem du_all {A B : fm_M} {t nf nm kd km o w : Nat} (h : iv_all A B t nf nm kd km) (n : Int32) (ho : o < nf) (hw : w < nf) (how : o ≠ w) : ∃ (A1 A2 B2 : fm_M) (r : Nat → Int32), F_X7_copyFrom 45 38 A = some ((), A1) ∧ Int32.toNatClampNeg (A1.1 0 1) = t ∧ F_X2_settle t 45 (nI o) (nI w) n A1 = some ((), A2) ∧ F_X10_layAgainst (nI o) (nI w) n B = some ((), B2) ∧ iv_all A2 B2 t nf nm kd km ∧ A2.1 70 2 = nI (du_cnt r 25) ∧ (∀ c, c < 25 → ¬ r c = 0 → A2.1 72 (du_cnt r c) = du_code c) ∧ (∀ c, c < 25 → F_X10_isRest (nI c) B2 = some (r c, B2)) := by
  have ht := fm_td (iv_tt h)
  have hn := (iv_nf h).1
  obtain ⟨A1, x1, x2, x3, x4, x5⟩ := iv_trial0 h
  obtain ⟨x, hx1, hx2, ex⟩ := x4.2.2.2.1 o ho
  obtain ⟨y, hy1, hy2, ey⟩ := x4.2.2.2.1 w hw
  obtain ⟨A2, B2, e1, e2, e3, e4, e5⟩ := du_outer n x2 x3 x4 ho hw how ex ey hx2 hx1 hy2 hy1 5 0 fm_fuel fm_fuel A1 B (by omega) (by unfold fm_fuel; omega) (by unfold fm_fuel; omega) ⟨fun _ _ _ _ _ => rfl, fun _ _ _ => rfl⟩ ag_rf (fun c z => by omega)
  have hp : A1.1 t 15 = B.1 78 5 := x2.2.2.2.1.2.2.1.2.2.1
  have key : ∀ c, ∃ v : Int32, c < 25 → F_X2_isRest (nI (c / 5)) (nI (c % 5)) (B.1 78 5) A2 = some (v, A2) ∧ F_X10_isRest (nI c) B2 = some (v, B2) := by
    intro c
    by_cases hc : c < 25
    · obtain ⟨v, v1, v2⟩ := du_isRest (i := c / 5) (j := c % 5) (by omega) (by omega) e5
      rw [show 5 * (c / 5) + c % 5 = c by omega] at v2
      exact ⟨v, fun _ => ⟨v1, v2⟩⟩
    · exact ⟨0, fun z => absurd z hc⟩
  have hr1 : ∀ A3 : fm_M, (∀ c, A3.1 71 c = A2.1 71 c) → ∀ i j, i < 5 → j < 5 → F_X2_isRest (nI i) (nI j) (B.1 78 5) A3 = some (Classical.choose (key (5 * i + j)), A3) := by
    intro A3 hA i j hi hj
    have s1 := Classical.choose_spec (key (5 * i + j)) (by omega)
    obtain ⟨v, v1, v2⟩ := du_isRest (A := A3) (B := B2) (pr := B.1 78 5) hi hj (fun c hc => by
      have := e5 c hc
      unfold du_t at this ⊢
      rw [hA]; exact this)
    have : v = Classical.choose (key (5 * i + j)) := congrArg Prod.fst (Option.some.inj (v2.symm.trans s1.2))
    rw [v1, this]
  obtain ⟨A4, g1, g2, g3, g4⟩ := du_cl1 (r := fun c => Classical.choose (key c)) ht (nI o) (nI w) n (nI x) (nI y) (A := fm_up A2 70 2 0) (pr := B.1 78 5) (by rw [fm_up_ne (by omega), e3.1 t 15 (by omega) (by omega) (by omega)]; exact hp) (fun A3 hA => hr1 A3 (fun c => by rw [hA c, fm_up_ne (by omega)])) 5 0 fm_fuel (fm_up A2 70 2 0) (by omega) (by unfold fm_fuel; omega) (fun _ _ _ _ => rfl) fm_up_get (fun c z => by omega)
  refine ⟨A1, A4, B2, fun c => Classical.choose (key c), x1, iv_t x2, ?_, ?_, ?_, g3, g4, fun c hc => (Classical.choose_spec (key c) hc).2⟩
  · rw [F_X2_settle, fm_gd_t (iv_tt h), fm_gd_t (by decide), fm_gd_t (nu_inb (by omega) (by omega)), fm_lt, fm_gd_t (nu_inb (by omega) (by omega)), nI_clamp (by omega), nI_clamp (by omega)]
    simp only [fm_lt]
    rw [show A1.1 (45 + 1) o = nI x from ex, show A1.1 (45 + 1) w = nI y from ey, show G_X2_settle_20 fm_fuel t 45 (nI o) (nI w) n (nI x) (nI y) 0 A1 = _ from e1, fm_bd_s, show G_X2_settle_119 fm_fuel t 45 (nI o) (nI w) n (nI x) (nI y) 0 (fm_up A2 70 2 0) = _ from g1, fm_bd_s]
  · rw [F_X10_layAgainst, show G_X10_layAgainst_3 fm_fuel (nI o) (nI w) n 0 B = _ from e2, fm_bd_s]
  · exact iv_cg x2 (fun q k z => by rw [g2 q k (by unfold iv_pA at z; omega) (by unfold iv_pA at z; omega), fm_up_ne (by unfold iv_pA at z; omega), e3.1 q k (by unfold iv_pA at z; omega) (by unfold iv_pA at z; omega) (by unfold iv_pA at z; omega)]) e4
theorem iv_pair {A B : fm_M} {t nf nm kd km : Nat} (h : iv_all A B t nf nm kd km) (a1 a2 a3 : Int32) : (∃ v : Int32, F_X9_arePair a1 a2 A = some (v, A) ∧ F_X10_areAgainst a1 a2 a3 B = some (0, B) ∧ (v = 0 ∨ (v = 1 ∧ F_X9_isNote a3 A = some (0, A)))) ∨ ∃ o w, o < nf ∧ w < nf ∧ o ≠ w ∧ a1 = nI o ∧ a2 = nI w ∧ F_X9_arePair a1 a2 A = some (1, A) ∧ F_X10_areAgainst a1 a2 a3 B = some (1, B) ∧ F_X9_isNote a3 A = some (1, A) := by
  rw [F_X9_arePair, F_X10_areAgainst]
  have hn := (iv_nf h).1
  rcases iv_isFork h a1 with ⟨e1, e2⟩ | ⟨o, ho, ho8, rfl, e1, e2⟩
  · rw [e1, e2, fm_bd_s, fm_bd_s, if_pos rfl, if_pos rfl]; exact Or.inl ⟨0, rfl, rfl, Or.inl rfl⟩
  rw [e1, e2, fm_bd_s, fm_bd_s, if_neg n10, if_neg n10]
  rcases iv_isFork h a2 with ⟨e3, e4⟩ | ⟨w, hw, hw8, rfl, e3, e4⟩
  · rw [e3, e4, fm_bd_s, fm_bd_s, if_pos rfl, if_pos rfl]; exact Or.inl ⟨0, rfl, rfl, Or.inl rfl⟩
  rw [e3, e4, fm_bd_s, fm_bd_s, if_neg n10, if_neg n10]
  by_cases c : nI o = nI w
  · rw [if_pos c, if_pos c]; exact Or.inl ⟨0, rfl, rfl, Or.inl rfl⟩
  rw [if_neg c, if_neg c]
  rcases iv_isNote a3 with e5 | ⟨-, e5⟩
  · rw [(e5 B).2, fm_bd_s, if_pos rfl]; exact Or.inl ⟨1, rfl, rfl, Or.inr ⟨rfl, (e5 A).1⟩⟩
  · rw [(e5 B).2, fm_bd_s, if_neg n10]; exact Or.inr ⟨o, w, ho, hw, fun z => c (by rw [z]), rfl, rfl, rfl, rfl, (e5 A).1⟩
theorem pu_rests {A B : fm_M} {t nf nm kd km : Nat} (h : iv_all A B t nf nm kd km) (a1 a2 a3 : Int32) : pu t nf nm kd km (F_X9_rests a1 a2 a3 A) (F_X10_rests a1 a2 a3 B) := by
  have h0 := iv_thr h 0
  rw [F_X9_rests, F_X10_rests]
  simp only [fm_lt]
  generalize fm_up B 76 0 0 = B1 at *
  rcases iv_pair h0 a1 a2 a3 with ⟨v, e1, e2, e3⟩ | ⟨o, w, ho, hw, how, rfl, rfl, e1, e2, e3⟩
  · rw [e1, e2, fm_bd_s, fm_bd_s, if_pos rfl]
    rcases e3 with rfl | ⟨rfl, e3⟩
    · rw [if_pos rfl]; exact rR_ret h0 rfl
    · rw [if_neg n10, e3, fm_bd_s, if_pos rfl]; exact rR_ret h0 rfl
  obtain ⟨A2, A3, B3, r, g1, g2, g3, g4, g5, g6, g7, g8⟩ := du_all h0 a3 ho hw how
  rw [e1, e2, fm_bd_s, fm_bd_s, if_neg n10, if_neg n10, e3, fm_bd_s, if_neg n10, g1, fm_bd_s, g2, fm_gd_t (iv_tt h), g3, fm_bd_s, g4, fm_bd_s, F_X10_restOf, g6]
  rcases du_md g8 (-1) 25 0 fm_fuel (by omega) (by unfold fm_fuel; omega) with ⟨d, d1, d2, d3, d4, d5⟩ | ⟨d1, d2⟩
  · exfalso
    have := du_cnt_le r d
    exact absurd (d4 ▸ nI_pos (show du_cnt r d < 2 ^ 31 by omega)) (by decide)
  · rw [show G_X10_restOf_4 fm_fuel (-1) 0 0 B3 = _ from d2]
    exact rR_ret g5 rfl
theorem pu_rest {A B : fm_M} {t nf nm kd km : Nat} (h : iv_all A B t nf nm kd km) (a1 a2 a3 a4 : Int32) : pu t nf nm kd km (F_X9_rest a1 a2 a3 a4 A) (F_X10_rest a1 a2 a3 a4 B) := by
  have h0 := iv_thr h 0
  rw [F_X9_rest, F_X10_rest]
  simp only [fm_lt]
  generalize fm_up B 76 0 0 = B1 at *
  rcases iv_pair h0 a1 a2 a3 with ⟨v, e1, e2, e3⟩ | ⟨o, w, ho, hw, how, rfl, rfl, e1, e2, e3⟩
  · rw [e1, e2, fm_bd_s, fm_bd_s, if_pos rfl]
    rcases e3 with rfl | ⟨rfl, e3⟩
    · rw [if_pos rfl]; exact rR_ret h0 rfl
    · rw [if_neg n10, e3, fm_bd_s, if_pos rfl]; exact rR_ret h0 rfl
  rw [e1, e2, fm_bd_s, fm_bd_s, if_neg n10, if_neg n10, e3, fm_bd_s, if_neg n10]
  by_cases z : (0 : Int32) ≤ a4
  · obtain ⟨A2, A3, B3, r, g1, g2, g3, g4, g5, g6, g7, g8⟩ := du_all h0 a3 ho hw how
    rw [if_pos z, if_pos z, g1, fm_bd_s, g2, fm_gd_t (iv_tt h), g3, fm_bd_s, g4, fm_bd_s, F_X10_restOf, g6]
    have c25 := du_cnt_le r 25
    have hm1 : ¬ a4 = -1 := fun y => absurd (y ▸ z) (by decide)
    rcases du_md g8 a4 25 0 fm_fuel (by omega) (by unfold fm_fuel; omega) with ⟨d, d1, d2, d3, d4, d5⟩ | ⟨d1, d2⟩
    · have hd := du_cnt_mono r (a := d + 1) 25 (by omega)
      rw [du_cnt, if_neg d3] at hd
      have hd2 := du_cnt_le r d
      rw [show G_X10_restOf_4 fm_fuel a4 0 0 B3 = _ from d5, d4, if_neg (nI_ge (by omega) (by omega)), fm_gd_t (nu_inb (by omega) (by omega)), nI_clamp (by omega), g7 d d2 d3]
      exact rR_ret g5 rfl
    · obtain ⟨k, hk, rfl⟩ := nI_of (Int32.not_lt.mpr z)
      have hle : du_cnt r 25 ≤ k := by
        by_cases y : du_cnt r 25 ≤ k
        · exact y
        · obtain ⟨d, q1, q2, q3⟩ := du_cnt_hit r 25 (show k < du_cnt r 25 by omega)
          exact absurd (by rw [q3]) (d1 d (by omega) q1 q2)
      rw [show G_X10_restOf_4 fm_fuel (nI k) 0 0 B3 = _ from d2, if_pos (nI_le hle (by omega))]
      show pu t nf nm kd km (some (-2, A3)) (fm_bd (if nI k = -1 then some (nI (du_cnt r 25), B3) else some (-2, B3)) (fun v6 M7 => some (v6, M7)))
      rw [if_neg hm1]
      exact rR_ret g5 rfl
  · rw [if_neg z, if_neg z]; exact rR_ret h0 rfl
