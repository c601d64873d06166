/-! questions, further -/
theorem n_le_lt (a b : Int32) : a ≤ b ↔ ¬ b < a := ⟨Int32.not_lt.mpr, Int32.not_lt.mp⟩
theorem iv_nf {A B : fm_M} {t nf nm kd km : Nat} (h : iv_all A B t nf nm kd km) : nf ≤ 8 ∧ A.1 t 0 = nI nf ∧ B.1 78 0 = nI nf := ⟨h.2.2.2.1.1.2.1, h.2.2.2.1.1.2.2.2.1, h.2.2.2.1.1.2.2.2.2.1⟩
theorem iv_nm {A B : fm_M} {t nf nm kd km : Nat} (h : iv_all A B t nf nm kd km) : nm ≤ 10 ∧ A.1 t 7 = nI nm ∧ B.1 78 1 = nI nm := ⟨h.2.2.2.1.1.2.2.1, h.2.2.2.1.1.2.2.2.2.2.1, h.2.2.2.1.1.2.2.2.2.2.2⟩
theorem iv_carries {A B : fm_M} {t nf nm kd km : Nat} (h : iv_all A B t nf nm kd km) (n : Int32) : rR (fun A B => iv_all A B t nf nm kd km) eq01 (F_X7_carries 38 t n A) (fm_bd (F_X10_humAll 0 n B) (fun v M => F_X10_passes 0 n v M)) := by
  rw [F_X7_carries, fm_gd_t (by decide), fm_gd_t (iv_tt h)]
  refine rR_bd (iv_humAll h n) (fun a b A2 B2 hP hI => ?_)
  obtain ⟨v, -, rfl, rfl⟩ := hP
  obtain ⟨x, y, A3, B3, e1, e2, ⟨rfl, e3⟩, e4⟩ := iv_passes hI n (nI v)
  rw [e1, fm_bd_s, e2, fm_gd_t (show fm_z01 x = true from decide_eq_true e3)]
  exact rR_ret e4 ⟨rfl, e3⟩
theorem iv_agreed {t nf nm kd km : Nat} (n l2 : Int32) : ∀ (m i fa fb : Nat) (acc : Int32) (A B : fm_M), iv_all A B t nf nm kd km → i + m = nf → m < fa → m < fb → rR (fun A B => iv_all A B t nf nm kd km) (fun a b => a.1 = b.1) (G_X7_agreed_5 fa 38 t n acc (nI i) A) (G_X10_struck_65 fb n l2 acc (nI i) B) := by
  intro m
  induction m with
  | zero =>
    intro i fa fb acc A B h hi hfa hfb
    obtain ⟨fa, rfl⟩ : ∃ z, fa = z + 1 := ⟨fa - 1, by omega⟩
    obtain ⟨fb, rfl⟩ : ∃ z, fb = z + 1 := ⟨fb - 1, by omega⟩
    obtain ⟨hn, h1, h2⟩ := iv_nf h
    rw [G_X7_agreed_5, h1, if_pos (nI_le (by omega) (by omega)), G_X10_struck_65, fm_gd_t (by decide), ck_0, h2, if_pos (nI_le (by omega) (by omega))]
    exact rR_ret h rfl
  | succ m ih =>
    intro i fa fb acc A B h hi hfa hfb
    obtain ⟨fa, rfl⟩ : ∃ z, fa = z + 1 := ⟨fa - 1, by omega⟩
    obtain ⟨fb, rfl⟩ : ∃ z, fb = z + 1 := ⟨fb - 1, by omega⟩
    obtain ⟨hn, h1, h2⟩ := iv_nf h
    rw [G_X7_agreed_5, h1, if_neg (nI_ge (by omega) (by omega)), G_X10_struck_65, fm_gd_t (by decide), ck_0, h2, if_neg (nI_ge (by omega) (by omega))]
    refine rR_bd (iv_hum h (show i < nf by omega) n) (fun a b A2 B2 hP hI => ?_)
    obtain ⟨v, -, rfl, rfl⟩ := hP
    simp only [fm_lt, nI_1, Int32.add_zero]
    by_cases hc : nI v ≤ 0
    · rw [if_pos hc, if_pos hc]; exact ih (i + 1) fa fb _ A2 B2 hI (by omega) (by omega) (by omega)
    · rw [if_neg hc, if_neg hc]; exact ih (i + 1) fa fb _ A2 B2 hI (by omega) (by omega) (by omega)
theorem pu_struck {A B : fm_M} {t nf nm kd km : Nat} (h : iv_all A B t nf nm kd km) (a1 a2 : Int32) : pu t nf nm kd km (F_X9_struck a1 a2 A) (F_X10_struck a1 a2 B) := by
  have h0 := iv_thr h 0
  rw [F_X9_struck, F_X10_struck, fm_lt]
  generalize fm_up B 76 0 0 = B1 at *
  rcases iv_isNote a1 with e3 | ⟨-, e3⟩
  · rw [(e3 A).1, (e3 B1).2, fm_bd_s, fm_bd_s, if_pos rfl, if_pos rfl]; exact rR_ret h0 rfl
  rw [(e3 A).1, (e3 B1).2, fm_bd_s, fm_bd_s, if_neg n10, if_neg n10]
  simp only [fm_lt, iv_t h0, iv_tt h, fm_gd1]
  by_cases c0 : a2 = 0
  · subst c0
    rw [if_pos rfl, if_neg (by decide), if_pos (by decide), if_pos rfl]
    exact rR_bd (iv_humAll h0 a1) (fun a b A B hP hI => rR_ret hI (by obtain ⟨v, -, rfl, rfl⟩ := hP; rfl))
  rw [if_neg c0]
  by_cases c1 : a2 = 1
  · subst c1
    rw [if_pos rfl, if_neg (by decide), if_pos (by decide), if_neg (by decide), if_pos rfl]
    obtain ⟨x, y, A3, B3, e1, e2, ⟨rfl, e5⟩, e4⟩ := iv_carries h0 a1
    rw [e1, fm_bd_s]
    obtain ⟨u, M2, g1, g2⟩ := fm_bdp e2
    rw [g1, fm_bd_s, g2, fm_bd_s]
    rcases e5 with rfl | rfl
    · rw [if_pos rfl, if_pos rfl]; exact rR_ret e4 rfl
    · rw [if_neg n10, if_neg n10]; exact rR_ret e4 rfl
  rw [if_neg c1]
  by_cases c2 : a2 = 2
  · subst c2
    rw [if_pos rfl, if_neg (by decide), if_pos (by decide), if_neg (by decide), if_neg (by decide), F_X7_agreed, fm_gd_t (by decide), fm_gd_t (iv_tt h)]
    have hn := (iv_nf h0).1
    obtain ⟨x, y, A3, B3, e1, e2, e3, e4⟩ := iv_agreed (t := t) (nf := nf) a1 2 nf 0 fm_fuel fm_fuel 0 A B1 h0 (by omega) (by unfold fm_fuel; omega) (by unfold fm_fuel; omega)
    rw [show G_X7_agreed_5 fm_fuel 38 t a1 0 0 A = some (x, A3) from e1, show G_X10_struck_65 fm_fuel a1 2 0 0 B1 = some (y, B3) from e2, fm_bd_s, fm_bd_s, fm_bd_s]
    exact rR_ret e4 e3
  rw [if_neg c2]
  by_cases d0 : a2 < 0
  · rw [if_pos d0]; exact rR_ret h0 rfl
  rw [if_neg d0]
  by_cases d1 : a2 ≤ 2
  · exfalso
    obtain ⟨j, hj, rfl⟩ := nI_of2 (M := 2) (n := 2) rfl d0 d1
    rcases (show j = 0 ∨ j = 1 ∨ j = 2 by omega) with rfl | rfl | rfl
    · exact c0 rfl
    · exact c1 rfl
    · exact c2 rfl
  · rw [if_neg d1]; exact rR_ret h0 rfl
theorem iv_best {t nf nm kd km : Nat} (l1 l1' : Int32) : ∀ (m i fa fb : Nat) (x y : Int32) (A B : fm_M), iv_all A B t nf nm kd km → i + m = 1000 → m < fa → m < fb → rR (fun A B => iv_all A B t nf nm kd km) Eq (G_X9_best_20 fa l1 x y (nI i) A) (G_X10_best_25 fb l1' x y (nI i) B) := by
  intro m
  induction m with
  | zero =>
    intro i fa fb x y A B h hi hfa hfb
    obtain ⟨fa, rfl⟩ : ∃ z, fa = z + 1 := ⟨fa - 1, by omega⟩
    obtain ⟨fb, rfl⟩ : ∃ z, fb = z + 1 := ⟨fb - 1, by omega⟩
    have : i = 1000 := by omega
    subst this
    rw [G_X9_best_20, if_pos (by decide), G_X10_best_25, if_pos (by decide)]
    exact rR_ret h rfl
  | succ m ih =>
    intro i fa fb x y A B h hi hfa hfb
    obtain ⟨fa, rfl⟩ : ∃ z, fa = z + 1 := ⟨fa - 1, by omega⟩
    obtain ⟨fb, rfl⟩ : ∃ z, fb = z + 1 := ⟨fb - 1, by omega⟩
    have hl : ¬ (999 : Int32) < nI i := nI_nlt (a := 999) (by omega) (by omega)
    rw [G_X9_best_20, if_neg hl, G_X10_best_25, if_neg hl, fm_lt, iv_t h, fm_gd_t (iv_tt h)]
    refine rR_bd (iv_humAll h (nI i)) (fun a b A2 B2 hP hI => ?_)
    obtain ⟨v, -, rfl, rfl⟩ := hP
    rw [nI_1]
    by_cases hc : y < nI v
    · rw [if_pos hc, if_neg (Int32.not_le.mpr hc)]; exact ih (i + 1) fa fb _ _ A2 B2 hI (by omega) (by omega) (by omega)
    · rw [if_neg hc, if_pos (Int32.not_lt.mp hc)]; exact ih (i + 1) fa fb _ _ A2 B2 hI (by omega) (by omega) (by omega)
theorem pu_best {A B : fm_M} {t nf nm kd km : Nat} (h : iv_all A B t nf nm kd km) (a1 : Int32) : pu t nf nm kd km (F_X9_best a1 A) (F_X10_best a1 B) := by
  have h0 := iv_thr h 0
  rw [F_X9_best, F_X10_best, fm_lt]
  generalize fm_up B 76 0 0 = B1 at *
  have key : rR (fun A B => iv_all A B t nf nm kd km) Eq (J_X9_best_11 a1 A) (fm_bd (G_X10_best_25 fm_fuel a1 100 (-1) 100 B1) (fun w4 M5 => if a1 = 0 then some (w4.1, M5) else some (w4.2.1, M5))) := by
    rw [J_X9_best_11]
    refine rR_bd (iv_best a1 a1 900 100 fm_fuel fm_fuel 100 (-1) A B1 h0 (by omega) (by unfold fm_fuel; omega) (by unfold fm_fuel; omega)) (fun a b A2 B2 hP hI => ?_)
    subst hP
    by_cases c0 : a1 = 0
    · rw [if_pos c0, if_pos c0]; exact rR_ret hI rfl
    · rw [if_neg c0, if_neg c0]; exact rR_ret hI rfl
  by_cases c0 : a1 = 0
  · rw [if_pos c0, if_neg (by rw [c0]; decide), if_pos (by rw [c0]; decide)]; exact key
  rw [if_neg c0]
  by_cases c1 : a1 = 1
  · rw [if_pos c1, if_neg (by rw [c1]; decide), if_pos (by rw [c1]; decide)]; exact key
  rw [if_neg c1]
  by_cases d0 : a1 < 0
  · rw [if_pos d0]; exact rR_ret h0 rfl
  rw [if_neg d0]
  by_cases d1 : a1 ≤ 1
  · exfalso
    obtain ⟨j, hj, rfl⟩ := nI_of2 (M := 1) (n := 1) rfl d0 d1
    rcases (show j = 0 ∨ j = 1 by omega) with rfl | rfl
    · exact c0 rfl
    · exact c1 rfl
  · rw [if_neg d1]; exact rR_ret h0 rfl
theorem iv_open {t nf nm kd km : Nat} : ∀ (m i fa fb : Nat) (x : Int32) (A B : fm_M), iv_all A B t nf nm kd km → i + m = 1000 → m < fa → m < fb → rR (fun A B => iv_all A B t nf nm kd km) Eq (G_X9_open_5 fa x (nI i) A) (G_X10_open_10 fb x (nI i) B) := by
  intro m
  induction m with
  | zero =>
    intro i fa fb x A B h hi hfa hfb
    obtain ⟨fa, rfl⟩ : ∃ z, fa = z + 1 := ⟨fa - 1, by omega⟩
    obtain ⟨fb, rfl⟩ : ∃ z, fb = z + 1 := ⟨fb - 1, by omega⟩
    have : i = 1000 := by omega
    subst this
    rw [G_X9_open_5, if_pos (by decide), G_X10_open_10, if_pos (by decide)]
    exact rR_ret h rfl
  | succ m ih =>
    intro i fa fb x A B h hi hfa hfb
    obtain ⟨fa, rfl⟩ : ∃ z, fa = z + 1 := ⟨fa - 1, by omega⟩
    obtain ⟨fb, rfl⟩ : ∃ z, fb = z + 1 := ⟨fb - 1, by omega⟩
    have hl : ¬ (999 : Int32) < nI i := nI_nlt (a := 999) (by omega) (by omega)
    rw [G_X9_open_5, if_neg hl, G_X10_open_10, if_neg hl, fm_lt, iv_t h, fm_gd_t (iv_tt h)]
    obtain ⟨v, y, A3, B3, e1, e2, ⟨rfl, e5⟩, e4⟩ := iv_carries h (nI i)
    rw [e1, fm_bd_s]
    obtain ⟨u, M2, g1, g2⟩ := fm_bdp e2
    rw [g1, fm_bd_s, g2, fm_bd_s]
    simp only [fm_lt, nI_1, Int32.add_zero]
    by_cases hc : v = 0
    · rw [if_pos hc, if_pos hc]; exact ih (i + 1) fa fb _ A3 B3 e4 (by omega) (by omega) (by omega)
    · rw [if_neg hc, if_neg hc]; exact ih (i + 1) fa fb _ A3 B3 e4 (by omega) (by omega) (by omega)
theorem pu_open {A B : fm_M} {t nf nm kd km : Nat} (h : iv_all A B t nf nm kd km) : pu t nf nm kd km (F_X9_open A) (F_X10_open B) := by
  have h0 := iv_thr h 0
  rw [F_X9_open, F_X10_open, fm_lt]
  exact rR_bd (iv_open 900 100 fm_fuel fm_fuel 0 A _ h0 (by omega) (by unfold fm_fuel; omega) (by unfold fm_fuel; omega)) (fun a b A2 B2 hP hI => by subst hP; exact rR_ret hI rfl)
theorem iv_party {t nf nm kd km : Nat} (l1 n : Int32) : ∀ (m i fa fb : Nat) (x : Int32) (A B : fm_M), iv_all A B t nf nm kd km → i + m = nf → m < fa → m < fb → rR (fun A B => iv_all A B t nf nm kd km) Eq (G_X9_party_23 fa l1 n x (nI i) A) (G_X10_party_28 fb l1 n x (nI i) B) := by
  intro m
  induction m with
  | zero =>
    intro i fa fb x A B h hi hfa hfb
    obtain ⟨fa, rfl⟩ : ∃ z, fa = z + 1 := ⟨fa - 1, by omega⟩
    obtain ⟨fb, rfl⟩ : ∃ z, fb = z + 1 := ⟨fb - 1, by omega⟩
    obtain ⟨hn, h1, h2⟩ := iv_nf h
    rw [G_X9_party_23, fm_lt, iv_t h, fm_gd_t (iv_tt h), h1, if_pos (nI_le (by omega) (by omega)), G_X10_party_28, fm_gd_t (by decide), ck_0, h2, if_pos (nI_le (by omega) (by omega))]
    exact rR_ret h rfl
  | succ m ih =>
    intro i fa fb x A B h hi hfa hfb
    obtain ⟨fa, rfl⟩ : ∃ z, fa = z + 1 := ⟨fa - 1, by omega⟩
    obtain ⟨fb, rfl⟩ : ∃ z, fb = z + 1 := ⟨fb - 1, by omega⟩
    obtain ⟨hn, h1, h2⟩ := iv_nf h
    obtain ⟨x1, x2, x3, x4, x5, x6, x7⟩ := h.2.2.2.1.2.2.2.2.1 i (by omega)
    rw [G_X9_party_23, G_X10_party_28]
    simp (disch := omega) only [fm_lt, iv_t h, iv_tt h, fm_gd1, nu_inb, show fm_inb 0 20 = true by decide, nI_clamp, nI_1, Int32.add_zero]
    rw [h1, if_neg (nI_ge (by omega) (by omega)), ck_0, h2, if_neg (nI_ge (by omega) (by omega)), x5]
    by_cases hc : B.1 83 i = l1
    · rw [if_pos hc, if_pos hc]
      refine rR_bd (iv_hum h (show i < nf by omega) n) (fun a b A2 B2 hP hI => ?_)
      obtain ⟨v, -, rfl, rfl⟩ := hP
      exact ih (i + 1) fa fb _ A2 B2 hI (by omega) (by omega) (by omega)
    · rw [if_neg hc, if_neg hc]; exact ih (i + 1) fa fb _ A B h (by omega) (by omega) (by omega)
theorem pu_party {A B : fm_M} {t nf nm kd km : Nat} (h : iv_all A B t nf nm kd km) (a1 a2 : Int32) : pu t nf nm kd km (F_X9_party a1 a2 A) (F_X10_party a1 a2 B) := by
  have h0 := iv_thr h 0
  rw [F_X9_party, F_X10_party, fm_lt]
  generalize fm_up B 76 0 0 = B1 at *
  by_cases d0 : a1 < 0
  · rw [if_pos d0, if_pos d0]; exact rR_ret h0 rfl
  rw [if_neg d0, if_neg d0]
  by_cases d1 : 3 < a1
  · rw [if_pos d1, if_pos d1]; exact rR_ret h0 rfl
  rw [if_neg d1, if_neg d1]
  rcases iv_isNote a2 with e3 | ⟨-, e3⟩
  · rw [(e3 A).1, (e3 B1).2, fm_bd_s, fm_bd_s, if_pos rfl, if_pos rfl]; exact rR_ret h0 rfl
  rw [(e3 A).1, (e3 B1).2, fm_bd_s, fm_bd_s, if_neg n10, if_neg n10]
  have hn := (iv_nf h0).1
  exact rR_bd (iv_party a1 a2 nf 0 fm_fuel fm_fuel 0 A _ h0 (by omega) (by unfold fm_fuel; omega) (by unfold fm_fuel; omega)) (fun a b A2 B2 hP hI => by subst hP; exact rR_ret hI rfl)
