/-! widths -/
theorem wd_clr {B : fm_M} {kn : Nat} (hk : kn ≤ 24) (hr : ∀ B1 : fm_M, (∀ q k, q ≠ 109 → B1.1 q k = B.1 q k) → F_X10_knownMany B1 = some (nI kn, B1)) (l1 l2 : Int32) : ∀ (m i fb : Nat) (B1 : fm_M), i + m = kn → m < fb → (∀ q k, q ≠ 109 → B1.1 q k = B.1 q k) → (∀ j, j < i → B1.1 109 j = 0) → ∃ (x : Int32) (B2 : fm_M), G_X10_widths_19 fb l1 l2 (nI i) B1 = some (x, B2) ∧ (∀ q k, q ≠ 109 → B2.1 q k = B.1 q k) ∧ (∀ j, j < kn → B2.1 109 j = 0) := by
  intro m
  induction m with
  | zero =>
    intro i fb B1 hi hfb fB h0
    obtain ⟨fb, rfl⟩ : ∃ z, fb = z + 1 := ⟨fb - 1, by omega⟩
    rw [G_X10_widths_19, hr B1 fB, fm_bd_s, if_pos (nI_le (by omega) (by omega))]
    exact ⟨_, B1, rfl, fB, fun j hj => h0 j (by omega)⟩
  | succ m ih =>
    intro i fb B1 hi hfb fB h0
    obtain ⟨fb, rfl⟩ : ∃ z, fb = z + 1 := ⟨fb - 1, by omega⟩
    rw [G_X10_widths_19, hr B1 fB, fm_bd_s, if_neg (nI_ge (by omega) (by omega)), fm_gd_t (nu_inb (by omega) (by omega)), fm_lt, nI_clamp (by omega), nar01.1, nI_1]
    refine ih (i + 1) fb _ (by omega) (by omega) (fun q k y => by rw [fm_up_ne (by omega), fB q k y]) (fun j hj => ?_)
    by_cases c : j = i
    · subst c; rw [fm_up_get]
    · rw [fm_up_ne (by omega)]; exact h0 j (by omega)
theorem wd_mx1 {a b : Nat} (ha : a < 1000) (hb : b < 1000) : i_max (nI a) (nI b + 1) = nI (max a (b + 1)) ∧ i_max (nI a - 1) (nI b) = nI (max a (b + 1)) - 1 := by
  unfold i_max
  rw [nI_1]
  by_cases c : a < b + 1
  · rw [if_pos (nI_lt c (by omega)), Nat.max_eq_right (by omega), nI_pred]
    refine ⟨rfl, ?_⟩
    by_cases a0 : a = 0
    · subst a0
      have : (nI 0 - 1 : Int32) < nI b := Int32.lt_iff_toInt_lt.mpr (by rw [nI_toInt (by omega), show (nI 0 - 1 : Int32).toInt = -1 from rfl]; omega)
      rw [if_pos this]
    · obtain ⟨e, rfl⟩ : ∃ e, a = e + 1 := ⟨a - 1, by omega⟩
      rw [nI_pred]
      by_cases d : e < b
      · rw [if_pos (nI_lt d (by omega))]
      · rw [if_neg (nI_nlt (by omega) (by omega)), show e = b by omega]
  · rw [if_neg (nI_nlt (by omega) (by omega)), Nat.max_eq_left (by omega)]
    obtain ⟨e, rfl⟩ : ∃ e, a = e + 1 := ⟨a - 1, by omega⟩
    rw [nI_pred, if_neg (nI_nlt (by omega) (by omega))]
    exact ⟨rfl, rfl⟩
theorem wd_tells {A B : fm_M} {nm km kn z i : Nat} (h : iv_mn A B nm km) (hk : kn ≤ km) (hs : wd_s A B z kn) (hi : i < kn) : (F_X4_tells (nI i) A = some (0, A) ∧ (B.1 109 i = 0 → ¬ B.1 108 i = -1)) ∨ (F_X4_tells (nI i) A = some (1, A) ∧ B.1 109 i = 0 ∧ B.1 108 i = -1 ∧ (∃ m : Nat, m < nm ∧ A.1 65 i = nI m ∧ B.1 106 i = nI m) ∧ (A.1 64 i = 0 ∨ A.1 64 i = 1) ∧ B.1 107 i = A.1 64 i) := by
  obtain ⟨h1, -, -, -, -, h6⟩ := h
  obtain ⟨z1, z2, z3⟩ := hs
  rw [F_X4_tells, fm_gd_t (nu_inb (by omega) (by omega)), nI_clamp (by omega), F_X9_bitOf, fm_bd_s, z2, show (nI z >>> (nI i &&& 31)) &&& 1 = _ from wd_bit z1 (show i < 24 by omega), z3 i hi]
  rcases h6 i (by omega) with ⟨k1, k2, k3, k4⟩ | ⟨k1, j, k2, k3, k4⟩
  · rw [if_neg (by rcases k3 with k3 | k3 <;> rw [k3] <;> decide)]
    by_cases c : z.testBit i = true
    · rw [if_pos c, if_neg n10]; exact Or.inl ⟨rfl, fun y => absurd y n10⟩
    · rw [if_neg c, if_pos rfl]; exact Or.inr ⟨rfl, rfl, k1, k2, k3, k4⟩
  · rw [if_pos k1]
    refine Or.inl ⟨rfl, fun _ y => ?_⟩
    rw [k4] at y
    exact absurd (y ▸ nI_pos (show j < 2 ^ 31 by omega)) (by decide)
/-- the days that are due -/
theorem wd_days {A B : fm_M} {t nm km kn z : Nat} (h : iv_mn A B nm km) (hm : nm ≤ 10) (hk : kn ≤ km) (hs : wd_s A B z kn) (h1 : F_X4_reach A = some (nI kn, A)) (h2 : F_X10_knownMany B = some (nI kn, B)) (hd : ∀ m, m < nm → A.1 (t + 8) m = B.1 86 m ∧ ∃ x : Nat, x ≤ 99 ∧ A.1 (t + 8) m = nI x) (l1 : Int32) : ∀ (m i fa fb e : Nat), i + m = kn → m < fa → m < fb → e ≤ 100 → ∃ (d : Nat) (x y : Int32), d ≤ 100 ∧ e ≤ d ∧ G_X4_daysToHear_4 fa t (nI e) (nI i) A = some ((nI d, x), A) ∧ G_X10_widths_90 fb l1 (nI e - 1) (nI i) B = some ((nI d - 1, y), B) ∧ ∀ j, i ≤ j → j < kn → F_X4_tells (nI j) A = some (1, A) → ∃ g v : Nat, g < nm ∧ A.1 65 j = nI g ∧ A.1 (t + 8) g = nI v ∧ v < d := by
  have k24 := h.1
  intro m
  induction m with
  | zero =>
    intro i fa fb e hi hfa hfb he
    obtain ⟨fa, rfl⟩ : ∃ z, fa = z + 1 := ⟨fa - 1, by omega⟩
    obtain ⟨fb, rfl⟩ : ∃ z, fb = z + 1 := ⟨fb - 1, by omega⟩
    rw [G_X4_daysToHear_4, h1, fm_bd_s, if_pos (nI_le (by omega) (by omega)), G_X10_widths_90, h2, fm_bd_s, if_pos (nI_le (by omega) (by omega))]
    exact ⟨e, _, _, he, Nat.le_refl _, rfl, rfl, fun j a b => by omega⟩
  | succ m ih =>
    intro i fa fb e hi hfa hfb he
    obtain ⟨fa, rfl⟩ : ∃ z, fa = z + 1 := ⟨fa - 1, by omega⟩
    obtain ⟨fb, rfl⟩ : ∃ z, fb = z + 1 := ⟨fb - 1, by omega⟩
    have ib : fm_inb (nI i) 24 = true := nu_inb (by omega) (by omega)
    have ic : Int32.toNatClampNeg (nI i) = i := nI_clamp (by omega)
    rw [G_X4_daysToHear_4, h1, fm_bd_s, if_neg (nI_ge (by omega) (by omega)), G_X10_widths_90, h2, fm_bd_s, if_neg (nI_ge (by omega) (by omega)), fm_gd_t ib, ic, nI_1]
    rcases wd_tells h hk hs (show i < kn by omega) with ⟨a1, a2⟩ | ⟨a1, a2, a3, ⟨g, g1, g2, g3⟩, -, -⟩
    · obtain ⟨d, x, y, d1, d2, d3, d4, d5⟩ := ih (i + 1) fa fb e (by omega) (by omega) (by omega) he
      refine ⟨d, x, y, d1, d2, ?_, ?_, fun j b c q => ?_⟩
      · rw [a1, fm_bd_s, if_pos rfl]; exact d3
      · by_cases c : B.1 109 i = 0
        · rw [if_pos c, fm_gd_t ib, if_neg (a2 c)]; exact d4
        · rw [if_neg c]; exact d4
      · by_cases w : j = i
        · subst w; rw [a1] at q; cases q
        · exact d5 j (by omega) c q
    · obtain ⟨u1, v, v1, v2⟩ := hd g g1
      obtain ⟨w1, w2⟩ := wd_mx1 (a := e) (b := v) (by omega) (by omega)
      obtain ⟨d, x, y, d1, d2, d3, d4, d5⟩ := ih (i + 1) fa fb (max e (v + 1)) (by omega) (by omega) (by omega) (by omega)
      refine ⟨d, x, y, d1, by omega, ?_, ?_, fun j b c q => ?_⟩
      · rw [a1, fm_bd_s, if_neg n10, fm_gd_t ib, g2, fm_gd_t (nu_inb (by omega) (by omega)), fm_lt, nI_clamp (by omega), v2, w1]; exact d3
      · rw [if_pos a2, fm_gd_t ib, if_pos a3, fm_gd_t ib, g3, fm_gd_t (nu_inb (by omega) (by omega)), fm_lt, nI_clamp (by omega), ← u1, v2, w2]; exact d4
      · by_cases w : j = i
        · subst w; exact ⟨g, v, g1, g2, v2, by omega⟩
        · exact d5 j (by omega) c q
/-- do the verdicts agree -/
theorem wd_agree {A B : fm_M} {nm km kn z : Nat} (h : iv_mn A B nm km) (hm : nm ≤ 10) (hk : kn ≤ km) (hs : wd_s A B z kn) (h1 : F_X4_reach A = some (nI kn, A)) (h2 : F_X10_knownMany B = some (nI kn, B)) (ho : ∀ m, m < nm → A.1 49 m = B.1 100 (10 + m)) (hv : ∀ j, j < kn → F_X4_tells (nI j) A = some (1, A) → ∃ g : Nat, g < nm ∧ A.1 65 j = nI g ∧ (A.1 49 g = 0 ∨ A.1 49 g = 1)) (l1 : Int32) : ∃ v : Int32, F_X4_agreeWith 45 A = some (v, A) ∧ fm_bs (G_X10_fitsWidth_14 fm_fuel l1 0 B) (fun w12 M13 => some ((1 : Int32), M13)) (fun r14 M => some (r14, M)) = some (v, B) := by
  have k24 := h.1
  have lp : ∀ (m i fa fb : Nat), i + m = kn → m < fa → m < fb → (∃ x y, G_X4_agreeWith_2 fa 45 (nI i) A = some (.inl x, A) ∧ G_X10_fitsWidth_14 fb l1 (nI i) B = some (.inl y, B)) ∨ (G_X4_agreeWith_2 fa 45 (nI i) A = some (.inr 0, A) ∧ G_X10_fitsWidth_14 fb l1 (nI i) B = some (.inr 0, B)) := by
    intro m
    induction m with
    | zero =>
      intro i fa fb hi hfa hfb
      obtain ⟨fa, rfl⟩ : ∃ z, fa = z + 1 := ⟨fa - 1, by omega⟩
      obtain ⟨fb, rfl⟩ : ∃ z, fb = z + 1 := ⟨fb - 1, by omega⟩
      rw [G_X4_agreeWith_2, h1, fm_bd_s, if_pos (nI_le (by omega) (by omega)), G_X10_fitsWidth_14, h2, fm_bd_s, if_pos (nI_le (by omega) (by omega))]
      exact Or.inl ⟨_, _, rfl, rfl⟩
    | succ m ih =>
      intro i fa fb hi hfa hfb
      obtain ⟨fa, rfl⟩ : ∃ z, fa = z + 1 := ⟨fa - 1, by omega⟩
      obtain ⟨fb, rfl⟩ : ∃ z, fb = z + 1 := ⟨fb - 1, by omega⟩
      have ib : fm_inb (nI i) 24 = true := nu_inb (by omega) (by omega)
      have ic : Int32.toNatClampNeg (nI i) = i := nI_clamp (by omega)
      rw [G_X4_agreeWith_2, h1, fm_bd_s, if_neg (nI_ge (by omega) (by omega)), G_X10_fitsWidth_14, h2, fm_bd_s, if_neg (nI_ge (by omega) (by omega)), fm_gd_t ib, ic, nI_1]
      have nx := ih (i + 1) fa fb (by omega) (by omega) (by omega)
      rcases wd_tells h hk hs (show i < kn by omega) with ⟨a1, a2⟩ | ⟨a1, a2, a3, ⟨g, g1, g2, g3⟩, g4, g5⟩
      · rw [a1, fm_bd_s, if_pos rfl]
        by_cases c : B.1 109 i = 0
        · rw [if_pos c, fm_gd_t ib, if_neg (a2 c)]; exact nx
        · rw [if_neg c]; exact nx
      · obtain ⟨g', h1', h2', h3'⟩ := hv i (by omega) a1
        have eg : g' = g := (nI_eq (by omega) (by omega)).mp (h2'.symm.trans g2)
        subst eg
        have ho' := ho g' g1
        rw [a1, fm_bd_s, if_neg n10, fm_gd_t ib, g2, fm_gd_t (nu_inb (by omega) (by omega)), fm_gd_t ib, nI_clamp (by omega), show A.1 (45 + 4) g' = A.1 49 g' from rfl, if_pos a2, fm_gd_t ib, if_pos a3, fm_gd_t ib, g3, show (10 + nI g' : Int32) = nI (10 + g') from nI_add 10 g', fm_gd_t (nu_inb (by omega) (by omega)), nI_clamp (by omega), ← ho', J_X10_fitsWidth_67, J_X10_fitsWidth_67, fm_gd_t ib, fm_gd_t ib, ic, g5, nI_1]
        rcases h3' with q | q
        · rw [q, if_neg (show ¬ (0 : Int32) = 1 by decide)]
          by_cases c : (0 : Int32) = A.1 64 i
          · rw [if_pos c, if_pos c]; exact nx
          · rw [if_neg c, if_neg c]; exact Or.inr ⟨rfl, rfl⟩
        · rw [q, if_pos (show (1 : Int32) = 1 from rfl)]
          by_cases c : (1 : Int32) = A.1 64 i
          · rw [if_pos c, if_pos c]; exact nx
          · rw [if_neg c, if_neg c]; exact Or.inr ⟨rfl, rfl⟩
  rw [F_X4_agreeWith, fm_gd_t (by decide)]
  rcases lp kn 0 fm_fuel fm_fuel (by omega) (by unfold fm_fuel; omega) (by unfold fm_fuel; omega) with ⟨x, y, e1, e2⟩ | ⟨e1, e2⟩
  · rw [show G_X4_agreeWith_2 fm_fuel 45 0 A = _ from e1, show G_X10_fitsWidth_14 fm_fuel l1 0 B = _ from e2]; exact ⟨1, rfl, rfl⟩
  · rw [show G_X4_agreeWith_2 fm_fuel 45 0 A = _ from e1, show G_X10_fitsWidth_14 fm_fuel l1 0 B = _ from e2]; exact ⟨0, rfl, rfl⟩
