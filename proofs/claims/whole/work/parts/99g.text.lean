/-! texts: what both do before and after the lines -/
def dv (j : Nat) : Int32 := if j = 2 then 10 else if j = 4 then 100 else if j = 5 then 5 else 0
theorem md_47 (x : Int32) : ∀ (m i fb : Nat) (B : fm_M), i + m = 10 → m < fb → ∃ (v : Int32) (B2 : fm_M), G_X10_text_47 fb x (nI i) B = some (v, B2) ∧ (∀ j, i ≤ j → j < 10 → B2.1 78 (10 + j) = dv j) ∧ (∀ q k, (q ≠ 78 ∨ k < 10 + i) → B2.1 q k = B.1 q k) := by
  intro m
  induction m with
  | zero =>
    intro i fb B hi hfb
    have : i = 10 := by omega
    subst this
    obtain ⟨fb, rfl⟩ : ∃ z, fb = z + 1 := ⟨fb - 1, by omega⟩
    exact ⟨_, B, by rw [G_X10_text_47, if_pos (show (10 : Int32) ≤ nI 10 by decide)], fun j h1 h2 => absurd h1 (by omega), fun _ _ _ => rfl⟩
  | succ m ih =>
    intro i fb B hi hfb
    obtain ⟨fb, rfl⟩ : ∃ z, fb = z + 1 := ⟨fb - 1, by omega⟩
    obtain ⟨v, B2, e1, e2, e3⟩ := ih (i + 1) fb (fm_up B 78 (10 + i) (dv i)) (by omega) (by omega)
    refine ⟨v, B2, ?_, fun j h1 h2 => ?_, fun q k z => by rw [e3 q k (by omega), fm_up_ne (by omega)]⟩
    · rw [G_X10_text_47, if_neg (show ¬ (10 : Int32) ≤ nI i from nI_ge (b := 10) (by omega) (by omega)), nI_1, md_rd i (by omega), fm_bd_s, md_rd i (by omega), fm_bd_s, md_rd i (by omega), fm_bd_s, md_rd i (by omega), fm_bd_s]
      have c : i = 0 ∨ i = 1 ∨ i = 2 ∨ i = 3 ∨ i = 4 ∨ i = 5 ∨ i = 6 ∨ i = 7 ∨ i = 8 ∨ i = 9 := by omega
      rcases c with rfl | rfl | rfl | rfl | rfl | rfl | rfl | rfl | rfl | rfl <;> exact e1
    · by_cases c : j = i
      · subst c; rw [e3 _ _ (by omega), fm_up_get]
      · exact e2 j (by omega) h2
theorem md_96 (x : Int32) : ∀ (m i fb : Nat) (B : fm_M), i + m = 6 → m < fb → ∃ (v : Int32) (B2 : fm_M), G_X10_text_96 fb x (nI i) B = some (v, B2) ∧ (∀ j, i ≤ j → j < 6 → B2.1 88 j = 0 ∧ B2.1 89 j = 0) ∧ (∀ q k, ((q ≠ 88 ∧ q ≠ 89) ∨ k < i) → B2.1 q k = B.1 q k) := by
  intro m
  induction m with
  | zero =>
    intro i fb B hi hfb
    have : i = 6 := by omega
    subst this
    obtain ⟨fb, rfl⟩ : ∃ z, fb = z + 1 := ⟨fb - 1, by omega⟩
    exact ⟨_, B, by rw [G_X10_text_96, if_pos (show (6 : Int32) ≤ nI 6 by decide)], fun j h1 h2 => absurd h1 (by omega), fun _ _ _ => rfl⟩
  | succ m ih =>
    intro i fb B hi hfb
    obtain ⟨fb, rfl⟩ : ∃ z, fb = z + 1 := ⟨fb - 1, by omega⟩
    obtain ⟨v, B2, e1, e2, e3⟩ := ih (i + 1) fb (fm_up (fm_up B 88 i 0) 89 i 0) (by omega) (by omega)
    refine ⟨v, B2, ?_, fun j h1 h2 => ?_, fun q k z => by rw [e3 q k (by omega), fm_up_ne (by omega), fm_up_ne (by omega)]⟩
    · rw [G_X10_text_96, if_neg (show ¬ (6 : Int32) ≤ nI i from nI_ge (b := 6) (by omega) (by omega)), nI_1, nI_clamp (by omega), fm_gd_t (nu_inb (by omega) (by omega)), fm_lt, fm_gd_t (nu_inb (by omega) (by omega)), fm_lt]
      exact e1
    · by_cases c : j = i
      · subst c; rw [e3 _ _ (by omega), e3 _ _ (by omega), fm_up_get, fm_up_ne (by omega), fm_up_get]; exact ⟨rfl, rfl⟩
      · exact e2 j (by omega) h2
/-- the fresh half becomes the one in force -/
theorem md_halfL {a0 n0 h : Nat} (hn : n0 = 2 * h) (hh : h < 1000) : ∀ (m i fb : Nat) (B : fm_M), i + m = h → m < fb → ∃ (v : Int32) (B2 : fm_M), G_X10_half_7 fb a0 n0 (nI h) (nI i) B = some (v, B2) ∧ (∀ k, i ≤ k → k < h → B2.1 a0 k = B.1 a0 (h + k)) ∧ (∀ q k, (q ≠ a0 ∨ k < i ∨ h ≤ k) → B2.1 q k = B.1 q k) := by
  intro m
  induction m with
  | zero =>
    intro i fb B hi hfb
    have : i = h := by omega
    subst this
    obtain ⟨fb, rfl⟩ : ∃ z, fb = z + 1 := ⟨fb - 1, by omega⟩
    exact ⟨_, B, by rw [G_X10_half_7, if_pos (nI_le (Nat.le_refl _) (by omega))], fun j h1 h2 => absurd h1 (by omega), fun _ _ _ => rfl⟩
  | succ m ih =>
    intro i fb B hi hfb
    obtain ⟨fb, rfl⟩ : ∃ z, fb = z + 1 := ⟨fb - 1, by omega⟩
    obtain ⟨v, B2, e1, e2, e3⟩ := ih (i + 1) fb (fm_up B a0 i (B.1 a0 (h + i))) (by omega) (by omega)
    refine ⟨v, B2, ?_, fun j h1 h2 => ?_, fun q k z => by rw [e3 q k (by omega), fm_up_ne (by omega)]⟩
    · rw [G_X10_half_7, if_neg (nI_ge (by omega) (by omega)), nI_add, fm_gd_t (nu_inb (by omega) (by omega)), fm_gd_t (nu_inb (by omega) (by omega)), nI_clamp (by omega), nI_clamp (by omega), fm_lt, nI_1]
      exact e1
    · by_cases c : j = i
      · subst c; rw [e3 _ _ (by omega), fm_up_get]
      · rw [e2 j (by omega) h2, fm_up_ne (by omega)]
def hh (q : Nat) : Nat := if q = 78 then 10 else if q ≤ 83 then 8 else if q ≤ 86 then 10 else if q = 87 then 8 else if q ≤ 89 then 3 else 64
def HH (q0 : Nat) (B B2 : fm_M) : Prop := (∀ q k, 78 ≤ q → q < q0 → k < hh q → B2.1 q k = B.1 q (hh q + k)) ∧ (∀ q k, (q < 78 ∨ q0 ≤ q ∨ hh q ≤ k) → B2.1 q k = B.1 q k)
theorem md_hs {q0 h : Nat} {B B1 : fm_M} (h0 : HH q0 B B1) (hq : 78 ≤ q0) (hq2 : hh q0 = h) (ha : fm_arI q0 = some (2 * h)) (hd : nI (2 * h) / 2 = nI h) (hl : h < 1000) : ∃ B2, F_X10_half q0 B1 = some ((), B2) ∧ HH (q0 + 1) B B2 := by
  obtain ⟨v, B2, e1, e2, e3⟩ := md_halfL (a0 := q0) (n0 := 2 * h) (h := h) rfl hl h 0 fm_fuel B1 (by omega) (by unfold fm_fuel; omega)
  refine ⟨B2, ?_, fun q k z1 z2 z3 => ?_, fun q k z => ?_⟩
  · rw [F_X10_half, ha]
    show fm_lt (nI (2 * h) / 2) (fun x1 => fm_bd (G_X10_half_7 fm_fuel q0 (2 * h) x1 0 B1) (fun w5 M6 => some ((), M6))) = _
    rw [fm_lt, hd, show G_X10_half_7 fm_fuel q0 (2 * h) (nI h) 0 B1 = _ from e1, fm_bd_s]
  · by_cases c : q = q0
    · subst c
      rw [e2 k (by omega) (by omega), h0.2 _ _ (by omega), hq2]
    · rw [e3 _ _ (by omega), h0.1 q k z1 (by omega) z3]
  · rw [e3 q k (by by_cases c : q = q0; subst c; omega; omega), h0.2 q k (by omega)]
theorem md_halves (B : fm_M) : ∃ B1 B2 B3 B4 B5 B6 B7 B8 B9 B10 B11 B12 B13 B14 : fm_M, F_X10_half 78 B = some ((), B1) ∧ F_X10_half 79 B1 = some ((), B2) ∧ F_X10_half 80 B2 = some ((), B3) ∧ F_X10_half 81 B3 = some ((), B4) ∧ F_X10_half 82 B4 = some ((), B5) ∧ F_X10_half 83 B5 = some ((), B6) ∧ F_X10_half 84 B6 = some ((), B7) ∧ F_X10_half 85 B7 = some ((), B8) ∧ F_X10_half 86 B8 = some ((), B9) ∧ F_X10_half 87 B9 = some ((), B10) ∧ F_X10_half 88 B10 = some ((), B11) ∧ F_X10_half 89 B11 = some ((), B12) ∧ F_X10_half 90 B12 = some ((), B13) ∧ F_X10_half 91 B13 = some ((), B14) ∧ HH 92 B B14 := by
  have h0 : HH 78 B B := ⟨fun q k z1 z2 => absurd z1 (by omega), fun _ _ _ => rfl⟩
  obtain ⟨B1, e1, h1⟩ := md_hs (h := 10) h0 (by omega) rfl rfl (by decide) (by omega)
  obtain ⟨B2, e2, h2⟩ := md_hs (h := 8) h1 (by omega) rfl rfl (by decide) (by omega)
  obtain ⟨B3, e3, h3⟩ := md_hs (h := 8) h2 (by omega) rfl rfl (by decide) (by omega)
  obtain ⟨B4, e4, h4⟩ := md_hs (h := 8) h3 (by omega) rfl rfl (by decide) (by omega)
  obtain ⟨B5, e5, h5⟩ := md_hs (h := 8) h4 (by omega) rfl rfl (by decide) (by omega)
  obtain ⟨B6, e6, h6⟩ := md_hs (h := 8) h5 (by omega) rfl rfl (by decide) (by omega)
  obtain ⟨B7, e7, h7⟩ := md_hs (h := 10) h6 (by omega) rfl rfl (by decide) (by omega)
  obtain ⟨B8, e8, h8⟩ := md_hs (h := 10) h7 (by omega) rfl rfl (by decide) (by omega)
  obtain ⟨B9, e9, h9⟩ := md_hs (h := 10) h8 (by omega) rfl rfl (by decide) (by omega)
  obtain ⟨B10, e10, h10⟩ := md_hs (h := 8) h9 (by omega) rfl rfl (by decide) (by omega)
  obtain ⟨B11, e11, h11⟩ := md_hs (h := 3) h10 (by omega) rfl rfl (by decide) (by omega)
  obtain ⟨B12, e12, h12⟩ := md_hs (h := 3) h11 (by omega) rfl rfl (by decide) (by omega)
  obtain ⟨B13, e13, h13⟩ := md_hs (h := 64) h12 (by omega) rfl rfl (by decide) (by omega)
  obtain ⟨B14, e14, h14⟩ := md_hs (h := 64) h13 (by omega) rfl rfl (by decide) (by omega)
  exact ⟨B1, B2, B3, B4, B5, B6, B7, B8, B9, B10, B11, B12, B13, B14, e1, e2, e3, e4, e5, e6, e7, e8, e9, e10, e11, e12, e13, e14, h14⟩
/-- the class clears its draft -/
theorem cl_clear {A : fm_M} {u : Nat} (hu : fm_isTd u = true) : ∃ A2, F_X8_clear u A = some ((), A2) ∧ (A2.1 u 0 = 0 ∧ A2.1 u 6 = 0 ∧ A2.1 u 7 = 0 ∧ A2.1 u 11 = 0 ∧ A2.1 u 13 = 10 ∧ A2.1 u 14 = 100 ∧ A2.1 u 15 = 5 ∧ A2.1 u 16 = 0) ∧ (∀ r, r < 3 → A2.1 (u + 11) r = 0 ∧ A2.1 (u + 12) r = 0) ∧ (A2.1 (u + 10) 4 = 0 ∧ A2.1 (u + 10) 5 = 0) ∧ (∀ q k, (q < u ∨ u + 14 < q) → A2.1 q k = A.1 q k) := by
  have h2 := fm_td hu
  obtain ⟨A1, eA⟩ : ∃ z, fm_up (fm_up (fm_up (fm_up (fm_up (fm_up (fm_up (fm_up A u 0 0) u 6 0) u 7 0) u 11 0) u 13 10) u 14 100) u 15 5) u 16 0 = z := ⟨_, rfl⟩
  obtain ⟨A2, e1, e2, e3⟩ := cl_fill (x := u + 11) (n := 3) (v := 0) (M := A1) (by rcases h2 with rfl | rfl <;> rfl) (by omega)
  obtain ⟨A3, f1, f2, f3⟩ := cl_fill (x := u + 12) (n := 3) (v := 0) (M := A2) (by rcases h2 with rfl | rfl <;> rfl) (by omega)
  have g : ∀ k, (fm_up (fm_up A3 (u + 10) 4 0) (u + 10) 5 0).1 u k = A1.1 u k := fun k => by rw [fm_up_ne (by omega), fm_up_ne (by omega), f3 _ _ (by omega), e3 _ _ (by omega)]
  refine ⟨fm_up (fm_up A3 (u + 10) 4 0) (u + 10) 5 0, ?_, ?_, fun r hr => ⟨?_, ?_⟩, ⟨by rw [fm_up_ne (by omega), fm_up_get], fm_up_get⟩, fun q k z => ?_⟩
  · rw [F_X8_clear, fm_gd_t hu]
    simp only [fm_lt, eA, F_X3_clear, fm_gd_t (rl_lw hu)]
    rw [show u + 10 + 1 = u + 11 from rfl, show u + 10 + 2 = u + 12 from rfl, e1, fm_bd_s, f1, fm_bd_s, fm_bd_s]
  · rw [g, g, g, g, g, g, g, g, ← eA]
    refine ⟨?_, ?_, ?_, ?_, ?_, ?_, ?_, ?_⟩
    · rw [fm_up_ne (by omega), fm_up_ne (by omega), fm_up_ne (by omega), fm_up_ne (by omega), fm_up_ne (by omega), fm_up_ne (by omega), fm_up_ne (by omega), fm_up_get]
    · rw [fm_up_ne (by omega), fm_up_ne (by omega), fm_up_ne (by omega), fm_up_ne (by omega), fm_up_ne (by omega), fm_up_ne (by omega), fm_up_get]
    · rw [fm_up_ne (by omega), fm_up_ne (by omega), fm_up_ne (by omega), fm_up_ne (by omega), fm_up_ne (by omega), fm_up_get]
    · rw [fm_up_ne (by omega), fm_up_ne (by omega), fm_up_ne (by omega), fm_up_ne (by omega), fm_up_get]
    · rw [fm_up_ne (by omega), fm_up_ne (by omega), fm_up_ne (by omega), fm_up_get]
    · rw [fm_up_ne (by omega), fm_up_ne (by omega), fm_up_get]
    · rw [fm_up_ne (by omega), fm_up_get]
    · rw [fm_up_get]
  · rw [fm_up_ne (by omega), fm_up_ne (by omega), f3 _ _ (by omega), e2 r hr]
  · rw [fm_up_ne (by omega), fm_up_ne (by omega), f2 r hr]
  · rw [fm_up_ne (by omega), fm_up_ne (by omega), f3 _ _ (by omega), e3 _ _ (by omega), ← eA, fm_up_ne (by omega), fm_up_ne (by omega), fm_up_ne (by omega), fm_up_ne (by omega), fm_up_ne (by omega), fm_up_ne (by omega), fm_up_ne (by omega), fm_up_ne (by omega)]
/-- the lines of a text -/
theorem tk_end {A B : fm_M} {u n lo d L K : Nat} (h : XR A B u n lo d L K) : (A.1 1 8 = 0 ∧ B.1 76 22 = 4) ∨ (¬ A.1 1 8 = 0 ∧ ¬ B.1 76 22 = 4) := by
  obtain ⟨-, ⟨p, k, t1, t2, t3, t4, t5, t6, t7, t8, t9⟩, -⟩ := h
  rcases t8 with ⟨z, y⟩ | ⟨z, y⟩ | ⟨z, y, -⟩ | ⟨z, y, z3⟩ | ⟨y, z⟩ | ⟨j, j1, z, y, x⟩
  · exact Or.inl ⟨z, y⟩
  · exact Or.inr ⟨by rw [z]; decide, by rw [y]; decide⟩
  · exact Or.inr ⟨by rw [z]; decide, by rw [y]; decide⟩
  · exact Or.inr ⟨by rw [z]; decide, by rw [y]; decide⟩
  · obtain ⟨c, c1, c2, c3⟩ := sgt_c z
    exact Or.inr ⟨by rw [c3]; exact nI_ne0 (by omega) (by omega), by rw [y]; decide⟩
  · exact Or.inr ⟨by rw [z]; exact nI_ne0 (by omega) (by omega), by rw [y]; decide⟩
theorem tfA_tr {u : Nat} {A B C : fm_M} (h : tfA u A B) (g : tfA u B C) : tfA u A C := fun q k z => by rw [g q k z, h q k z]
theorem tfB_tr {A B C : fm_M} (h : tfB A B) (g : tfB B C) : tfB A C := fun q k z => by rw [g q k z, h q k z]
theorem xb_t {A B A2 B2 : fm_M} {u n : Nat} (h : xb A B u n) (hA : tfA u A A2) (hB : tfB B B2) : xb A2 B2 u n := by
  have hu := fm_td h.1
  obtain ⟨h1, ⟨g1, g2, g3, g4, g5⟩, h3⟩ := h
  have a : ∀ q k, (q = 1 ∧ (k = 5 ∨ k = 6)) ∨ q = 2 ∨ q = 3 → A2.1 q k = A.1 q k := fun q k z => hA q k (by unfold twA; omega)
  have b : ∀ q k, (q = 76 ∧ k = 19) ∨ q = 77 → B2.1 q k = B.1 q k := fun q k z => hB q k (by unfold twB; omega)
  exact ⟨h1, ⟨g1, by rw [a _ _ (by omega)]; exact g2, by rw [b _ _ (by omega)]; exact g3, fun i hi => by rw [a _ _ (by omega), b _ _ (by omega)]; exact g4 i hi, fun i hi => by rw [a _ _ (by omega)]; exact g5 i hi⟩, by rw [a _ _ (by omega)]; exact h3⟩
theorem t_loop {u n : Nat} (l x y : Int32) : ∀ (m j fa fb L nf nm nw a b : Nat) (A B : fm_M), j + m = 700 → m + 1 < fa → m + 1 < fb → xb A B u n → XR A B u n j 0 L L → LDp A B u L nf nm nw a b → B.1 76 18 = nI j → ∃ (v : Int32) (A2 B2 : fm_M), G_X9_text_28 fa l (nI j) A = some (v, A2) ∧ G_X10_text_146 fb x y B = some ((), B2) ∧ tfA u A A2 ∧ tfB B B2 ∧ (DF A2 B2 ∨ ∃ lo L nf nm nw a b : Nat, XR A2 B2 u n lo 0 L L ∧ LDp A2 B2 u L nf nm nw a b ∧ B2.1 76 18 = v) := by
  have dead : ∀ (fa fb : Nat) (l2 : Int32) (A B : fm_M), DF A B → ∃ v : Int32, G_X9_text_28 (fa + 1) l l2 A = some (v, A) ∧ G_X10_text_146 (fb + 1) x y B = some ((), B) := by
    intro fa fb l2 A B h
    rw [G_X9_text_28, G_X10_text_146, if_neg h.b]
    by_cases c : 700 ≤ l2
    · rw [if_pos c]; exact ⟨_, rfl, rfl⟩
    · rw [if_neg c, F_X6_hasMore]
      by_cases d : A.1 1 8 = 0
      · rw [if_pos d, fm_bd_s, if_pos rfl]; exact ⟨_, rfl, rfl⟩
      · rw [if_neg d, if_neg h.a, fm_bd_s, if_pos rfl]; exact ⟨_, rfl, rfl⟩
  intro m
  induction m with
  | zero =>
    intro j fa fb L nf nm nw a b A B hj hfa hfb hb h hd h18
    have : j = 700 := by omega
    subst this
    obtain ⟨fa, rfl⟩ : ∃ z, fa = z + 1 := ⟨fa - 1, by omega⟩
    obtain ⟨fb, rfl⟩ : ∃ z, fb = z + 1 := ⟨fb - 1, by omega⟩
    have e4 : B.1 76 22 = 4 := by
      rcases tk_end h with ⟨-, z⟩ | ⟨z, -⟩
      · exact z
      · obtain ⟨-, ⟨p, k, t1, t2, t3, t4, t5, t6, t7, t8, t9⟩, -⟩ := h
        have := t9 z
        have := hb.2.1.1
        omega
    rw [G_X9_text_28, if_pos (show (700 : Int32) ≤ nI 700 by decide), G_X10_text_146, if_pos h.1.2.1, if_pos e4]
    exact ⟨_, A, B, rfl, rfl, fun _ _ _ => rfl, fun _ _ _ => rfl, Or.inr ⟨_, L, nf, nm, nw, a, b, h, hd, h18⟩⟩
  | succ m ih =>
    intro j fa fb L nf nm nw a b A B hj hfa hfb hb h hd h18
    obtain ⟨fa, rfl⟩ : ∃ z, fa = z + 1 := ⟨fa - 1, by omega⟩
    obtain ⟨fb, rfl⟩ : ∃ z, fb = z + 1 := ⟨fb - 1, by omega⟩
    rw [G_X9_text_28, if_neg (show ¬ (700 : Int32) ≤ nI j from nI_ge (b := 700) (by omega) (by omega)), F_X6_hasMore, G_X10_text_146, if_pos h.1.2.1]
    rcases tk_end h with ⟨z1, z2⟩ | ⟨z1, z2⟩
    · rw [if_pos z1, fm_bd_s, if_pos rfl, if_pos z2]
      exact ⟨_, A, B, rfl, rfl, fun _ _ _ => rfl, fun _ _ _ => rfl, Or.inr ⟨_, L, nf, nm, nw, a, b, h, hd, h18⟩⟩
    · obtain ⟨A2, B2, y1, y2, y3, y4, y5⟩ := l_line hb h hd
      rw [if_neg z1, if_pos h.1.1, fm_bd_s, if_neg n10, if_neg z2, y1, fm_bd_s, y2, fm_bd_s, nI_1]
      rcases y5 with y5 | ⟨L2, nf2, nm2, nw2, a2, b2, w1, w2, w3⟩
      · obtain ⟨fa, rfl⟩ : ∃ z, fa = z + 1 := ⟨fa - 1, by omega⟩
        obtain ⟨fb, rfl⟩ : ∃ z, fb = z + 1 := ⟨fb - 1, by omega⟩
        obtain ⟨v, q1, q2⟩ := dead fa fb (nI (j + 1)) A2 B2 y5
        exact ⟨v, A2, B2, q1, q2, y3, y4, Or.inl y5⟩
      · obtain ⟨v, A3, B3, q1, q2, q3, q4, q5⟩ := ih (j + 1) fa fb L2 nf2 nm2 nw2 a2 b2 A2 B2 (by omega) (by omega) (by omega) (xb_t hb y3 y4) w1 w2 (by rw [w3, h18, nI_1])
        exact ⟨v, A3, B3, q1, q2, tfA_tr y3 q3, tfB_tr y4 q4, q5⟩
