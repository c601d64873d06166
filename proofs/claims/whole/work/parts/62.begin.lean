/-! a council begun -/
theorem cl_fillL {x n : Nat} {v : Int32} (hn : n < 2 ^ 31) : ∀ (m i fb : Nat) (M : fm_M), i + m = n → m < fb → ∃ M2, G_J7_fill_53178_5 fb x n v (nI n) (nI i) M = some (nI n, M2) ∧ (∀ k, i ≤ k → k < n → M2.1 x k = v) ∧ (∀ q k, (q ≠ x ∨ k < i ∨ n ≤ k) → M2.1 q k = M.1 q k) ∧ M2.2 = M.2 := by
  intro m
  induction m with
  | zero =>
    intro i fb M hi hfb
    have : i = n := by omega
    subst this
    obtain ⟨fb, rfl⟩ : ∃ z, fb = z + 1 := ⟨fb - 1, by omega⟩
    exact ⟨M, by rw [G_J7_fill_53178_5, if_pos (nI_le (Nat.le_refl _) (by omega))], fun k h1 h2 => absurd h1 (by omega), fun _ _ _ => rfl, rfl⟩
  | succ m ih =>
    intro i fb M hi hfb
    obtain ⟨fb, rfl⟩ : ∃ z, fb = z + 1 := ⟨fb - 1, by omega⟩
    obtain ⟨M2, e1, e2, e3, e4⟩ := ih (i + 1) fb (fm_up M x i v) (by omega) (by omega)
    refine ⟨M2, ?_, fun k h1 h2 => ?_, fun q k hq => ?_, by rw [e4]; rfl⟩
    · rw [G_J7_fill_53178_5, if_neg (nI_ge (by omega) (by omega)), fm_gd_t (nu_inb (by omega) (by omega)), fm_lt, nI_clamp (by omega), nI_1]
      exact e1
    · by_cases z : k = i
      · subst z; rw [e3 _ _ (by omega), fm_up_get]
      · exact e2 k (by omega) h2
    · rw [e3 q k (by omega), fm_up_ne (by omega)]
theorem cl_fill {x n : Nat} {v : Int32} {M : fm_M} (h : fm_arI x = some n) (hn : n < 9000) : ∃ M2, F_J7_fill_53178 x v M = some ((), M2) ∧ (∀ k, k < n → M2.1 x k = v) ∧ (∀ q k, q ≠ x → M2.1 q k = M.1 q k) := by
  obtain ⟨M2, e1, e2, e3, -⟩ := cl_fillL (x := x) (v := v) (show n < 2 ^ 31 by omega) n 0 fm_fuel M (by omega) (by unfold fm_fuel; omega)
  refine ⟨M2, ?_, fun k hk => e2 k (by omega) hk, fun q k hq => e3 q k (Or.inl hq)⟩
  rw [F_J7_fill_53178, h]
  show fm_bd (G_J7_fill_53178_5 fm_fuel x n v (nI n) 0 M) (fun w4 M5 => some ((), M5)) = _
  rw [show G_J7_fill_53178_5 fm_fuel x n v (nI n) 0 M = some (nI n, M2) from e1, fm_bd_s]
theorem cl_begin {A B : fm_M} {p t : Nat} (hp : fm_isSt p = true) (ht : fm_isTd t = true) (hw : rl_w A B t) :
    ∃ A2, F_X7_begin p t A = some ((), A2) ∧ (A2.1 p 0 = 0 ∧ A2.1 p 1 = md_wet B 0 ∧ A2.1 p 2 = A.1 t 14 ∧ A2.1 p 3 = 0 ∧ A2.1 p 4 = 0 ∧ A2.1 p 5 = A.1 t 6 ∧ A2.1 p 6 = -1 ∧ A2.1 p 7 = 1) ∧ (∀ f, f < 8 → A2.1 (p + 1) f = A.1 (t + 2) f ∧ A2.1 (p + 2) f = A.1 (t + 3) f) ∧ (∀ m, m < 10 → A2.1 (p + 3) m = A.1 (t + 8) m ∧ A2.1 (p + 4) m = -1 ∧ A2.1 (p + 5) m = -1) ∧ (∀ x k, (x < p ∨ p + 5 < x) → A2.1 x k = A.1 x k) := by
  have p3 := rl_st3 hp
  have t3 := fm_td ht
  have ar4 : fm_arI (p + 4) = some 10 := by rcases p3 with rfl | rfl | rfl <;> rfl
  have ar5 : fm_arI (p + 5) = some 10 := by rcases p3 with rfl | rfl | rfl <;> rfl
  have ew := rl_wetOn (A := fm_up A p 0 0) (dd := 0) ht (rl_w_cg hw (fun q k z => fm_up_ne (by omega)) (fun _ _ _ => rfl)) (by omega)
  rw [F_X7_begin, fm_gd_t hp, fm_gd_t ht]
  simp only [fm_lt]
  rw [show F_X8_wetOn t 0 (fm_up A p 0 0) = some (md_wet B 0, fm_up A p 0 0) from ew, fm_bd_s]
  rw [fm_gd_t (by decide), fm_gd_t (by decide), fm_gd_t (by decide)]
  obtain ⟨M1, e1, e2, e3⟩ := cl_fill (v := -1) (M := fm_row (fm_row (fm_row (fm_up (fm_up (fm_up (fm_up (fm_up (fm_up (fm_up (fm_up A p 0 0) p 1 (md_wet B 0)) p 2 ((fm_up (fm_up A p 0 0) p 1 (md_wet B 0)).1 t 14)) p 3 0) p 4 0) p 5 ((fm_up (fm_up (fm_up (fm_up (fm_up A p 0 0) p 1 (md_wet B 0)) p 2 ((fm_up (fm_up A p 0 0) p 1 (md_wet B 0)).1 t 14)) p 3 0) p 4 0).1 t 6)) p 6 (-1)) p 7 1) (p + 1) _) (p + 2) _) (p + 3) _) ar4 (by omega)
  rw [e1, fm_bd_s]
  obtain ⟨M2, g1, g2, g3⟩ := cl_fill (v := -1) (M := M1) ar5 (by omega)
  rw [g1, fm_bd_s]
  refine ⟨M2, rfl, ?_, fun f hf => ?_, fun m hm => ?_, fun x k hx => ?_⟩
  · refine ⟨?_, ?_, ?_, ?_, ?_, ?_, ?_, ?_⟩ <;> rw [g3 _ _ (by omega), e3 _ _ (by omega)] <;> simp (disch := omega) only [fm_row_n, fm_up_ne, fm_up_get]
  · refine ⟨?_, ?_⟩ <;> rw [g3 _ _ (by omega), e3 _ _ (by omega)] <;> simp (disch := omega) only [fm_row_n, fm_row_g, va_cpy8, fm_up_ne]
  · refine ⟨?_, ?_, g2 m hm⟩
    · rw [g3 _ _ (by omega), e3 _ _ (by omega)]; simp (disch := omega) only [fm_row_n, fm_row_g, va_cpy10, fm_up_ne]
    · rw [g3 _ _ (by omega)]; exact e2 m hm
  · rw [g3 _ _ (by omega), e3 _ _ (by omega)]; simp (disch := omega) only [fm_row_n, fm_up_ne]
theorem md_st8 {c nf : Nat} (hc : c < 23) (hn : nf ≤ 8) : ∀ (m i fb : Nat) (B : fm_M), B.1 78 0 = nI nf → i + m = 8 → m < fb → ∃ B2, G_X10_starts_35 fb (nI c) (nI i) B = some (nI 8, B2) ∧ (∀ f, i ≤ f → f < nf → B2.1 98 (8 * c + f) = B.1 80 f) ∧ (∀ q k, (q ≠ 98 ∨ k < 8 * c + i ∨ 8 * c + 8 ≤ k) → B2.1 q k = B.1 q k) := by
  intro m
  induction m with
  | zero =>
    intro i fb B h0 hi hfb
    have : i = 8 := by omega
    subst this
    obtain ⟨fb, rfl⟩ : ∃ z, fb = z + 1 := ⟨fb - 1, by omega⟩
    exact ⟨B, by rw [G_X10_starts_35, if_pos (by decide)], fun f h1 h2 => absurd h1 (by omega), fun _ _ _ => rfl⟩
  | succ m ih =>
    intro i fb B h0 hi hfb
    obtain ⟨fb, rfl⟩ : ∃ z, fb = z + 1 := ⟨fb - 1, by omega⟩
    have ex : (8 : Int32) * nI c + nI i = nI (8 * c + i) := by rw [show (8 : Int32) = nI 8 from rfl, pk_mul, nI_add]
    rw [G_X10_starts_35, if_neg (show ¬ (8 : Int32) ≤ nI i from nI_ge (b := 8) (by omega) (by omega)), fm_gd_t (show fm_inb 0 20 = true by decide), ck_0, h0, ex, fm_gd_t (nu_inb (show 8 * c + i < 184 by omega) (by omega))]
    simp (disch := omega) only [fm_lt, nI_clamp, nI_1, nu_inb, fm_gd1]
    by_cases z : nf ≤ i
    · rw [if_pos (nI_le z (by omega))]
      obtain ⟨B2, e1, e2, e3⟩ := ih (i + 1) fb (fm_up B 98 (8 * c + i) 0) (by rw [fm_up_ne (by omega)]; exact h0) (by omega) (by omega)
      exact ⟨B2, e1, fun f h1 h2 => absurd h2 (by omega), fun q k hq => by rw [e3 q k (by omega), fm_up_ne (by omega)]⟩
    · rw [if_neg (nI_ge (by omega) (by omega))]
      obtain ⟨B2, e1, e2, e3⟩ := ih (i + 1) fb (fm_up B 98 (8 * c + i) (B.1 80 i)) (by rw [fm_up_ne (by omega)]; exact h0) (by omega) (by omega)
      refine ⟨B2, e1, fun f h1 h2 => ?_, fun q k hq => by rw [e3 q k (by omega), fm_up_ne (by omega)]⟩
      by_cases y : f = i
      · subst y; rw [e3 _ _ (by omega), fm_up_get]
      · rw [e2 f (by omega) h2, fm_up_ne (by omega)]
theorem md_st10 {c nm : Nat} (hc : c < 23) (hn : nm ≤ 10) : ∀ (m i fb : Nat) (B : fm_M), B.1 78 1 = nI nm → i + m = 10 → m < fb → ∃ B2, G_X10_starts_80 fb (nI c) (nI i) B = some (nI 10, B2) ∧ (∀ f, i ≤ f → f < nm → B2.1 99 (10 * c + f) = B.1 86 f) ∧ (∀ f, i ≤ f → f < 10 → B2.1 100 (10 * c + f) = -1 ∧ B2.1 101 (10 * c + f) = -1) ∧ (∀ q k, (q < 99 ∨ 101 < q ∨ k < 10 * c + i ∨ 10 * c + 10 ≤ k) → B2.1 q k = B.1 q k) := by
  intro m
  induction m with
  | zero =>
    intro i fb B h0 hi hfb
    have : i = 10 := by omega
    subst this
    obtain ⟨fb, rfl⟩ : ∃ z, fb = z + 1 := ⟨fb - 1, by omega⟩
    exact ⟨B, by rw [G_X10_starts_80, if_pos (by decide)], fun f h1 h2 => absurd h1 (by omega), fun f h1 h2 => absurd h1 (by omega), fun _ _ _ => rfl⟩
  | succ m ih =>
    intro i fb B h0 hi hfb
    obtain ⟨fb, rfl⟩ : ∃ z, fb = z + 1 := ⟨fb - 1, by omega⟩
    have ex : (10 : Int32) * nI c + nI i = nI (10 * c + i) := by rw [show (10 : Int32) = nI 10 from rfl, pk_mul, nI_add]
    have key : ∀ v : Int32, ∃ B2, J_X10_starts_116 (G_X10_starts_80 fb (nI c)) (nI c) (nI i) (nI (10 * c + i)) v B = some (nI 10, B2) ∧ B2.1 99 (10 * c + i) = v ∧ (∀ f, i + 1 ≤ f → f < nm → B2.1 99 (10 * c + f) = B.1 86 f) ∧ (∀ f, i ≤ f → f < 10 → B2.1 100 (10 * c + f) = -1 ∧ B2.1 101 (10 * c + f) = -1) ∧ (∀ q k, (q < 99 ∨ 101 < q ∨ k < 10 * c + i ∨ 10 * c + 10 ≤ k) → B2.1 q k = B.1 q k) := by
      intro v
      obtain ⟨B2, e1, e2, e3, e4⟩ := ih (i + 1) fb (fm_up (fm_up (fm_up B 99 (10 * c + i) v) 100 (10 * c + i) (-1)) 101 (10 * c + i) (-1)) (by simp (disch := omega) only [fm_up_ne]; exact h0) (by omega) (by omega)
      refine ⟨B2, ?_, ?_, fun f h1 h2 => ?_, fun f h1 h2 => ?_, fun q k hq => ?_⟩
      · rw [J_X10_starts_116, ex]
        simp (disch := omega) only [fm_lt, nI_clamp, nI_1, nu_inb, fm_gd1]
        exact e1
      · rw [e4 _ _ (by omega)]; simp (disch := omega) only [fm_up_ne, fm_up_get]
      · rw [e2 f h1 h2]; simp (disch := omega) only [fm_up_ne]
      · by_cases y : f = i
        · subst y; rw [e4 _ _ (by omega), e4 _ _ (by omega)]; simp (disch := omega) only [fm_up_ne, fm_up_get, and_self]
        · exact e3 f (by omega) h2
      · rw [e4 q k (by omega)]; simp (disch := omega) only [fm_up_ne]
    rw [G_X10_starts_80, if_neg (show ¬ (10 : Int32) ≤ nI i from nI_ge (b := 10) (by omega) (by omega)), fm_gd_t (show fm_inb 1 20 = true by decide), ck_1, h0, ex, fm_gd_t (nu_inb (show i < 20 by omega) (by omega)), nI_clamp (by omega)]
    by_cases z : nm ≤ i
    · rw [if_pos (nI_le z (by omega))]
      obtain ⟨B2, e1, e2, e3, e4, e5⟩ := key 0
      exact ⟨B2, e1, fun f h1 h2 => absurd h2 (by omega), e4, e5⟩
    · rw [if_neg (nI_ge (by omega) (by omega))]
      obtain ⟨B2, e1, e2, e3, e4, e5⟩ := key (B.1 86 i)
      refine ⟨B2, e1, fun f h1 h2 => ?_, e4, e5⟩
      by_cases y : f = i
      · subst y; exact e2
      · exact e3 f (by omega) h2
theorem md_starts {B : fm_M} {c nf nm : Nat} (hc : c < 23) (hf : nf ≤ 8) (hm : nm ≤ 10) (h0 : B.1 78 0 = nI nf) (h1 : B.1 78 1 = nI nm) : ∃ B2, F_X10_starts (nI c) B = some ((), B2) ∧ (B2.1 94 c = 0 ∧ B2.1 95 c = B.1 78 4 ∧ B2.1 96 c = 0 ∧ B2.1 97 c = 0) ∧ (∀ f, f < nf → B2.1 98 (8 * c + f) = B.1 80 f) ∧ (∀ m, m < nm → B2.1 99 (10 * c + m) = B.1 86 m) ∧ (∀ m, m < 10 → B2.1 100 (10 * c + m) = -1 ∧ B2.1 101 (10 * c + m) = -1) ∧ (∀ q k, ¬ md_cc c q k → B2.1 q k = B.1 q k) := by
  rw [F_X10_starts]
  simp (disch := omega) only [nu_inb, fm_gd1, fm_lt, nI_clamp, fm_up_ne, show fm_inb 4 20 = true by decide, ck_4]
  generalize hB0 : fm_up (fm_up (fm_up (fm_up B 94 c 0) 95 c (B.1 78 4)) 96 c 0) 97 c 0 = B0
  obtain ⟨B1, e1, e2, e3⟩ := md_st8 hc hf 8 0 fm_fuel B0 (by rw [← hB0]; simp (disch := omega) only [fm_up_ne]; exact h0) (by omega) (by unfold fm_fuel; omega)
  obtain ⟨B2, g1, g2, g3, g4⟩ := md_st10 hc hm 10 0 fm_fuel B1 (by rw [e3 _ _ (by omega), ← hB0]; simp (disch := omega) only [fm_up_ne]; exact h1) (by omega) (by unfold fm_fuel; omega)
  rw [show G_X10_starts_35 fm_fuel (nI c) 0 B0 = some (nI 8, B1) from e1, fm_bd_s, show G_X10_starts_80 fm_fuel (nI c) 0 B1 = some (nI 10, B2) from g1, fm_bd_s]
  refine ⟨B2, rfl, ⟨?_, ?_, ?_, ?_⟩, fun f hf => ?_, fun m hm => ?_, fun m hm => g3 m (by omega) hm, fun q k hq => ?_⟩
  · rw [g4 _ _ (by omega), e3 _ _ (by omega), ← hB0]; simp (disch := omega) only [fm_up_ne, fm_up_get]
  · rw [g4 _ _ (by omega), e3 _ _ (by omega), ← hB0]; simp (disch := omega) only [fm_up_ne, fm_up_get]
  · rw [g4 _ _ (by omega), e3 _ _ (by omega), ← hB0]; simp (disch := omega) only [fm_up_ne, fm_up_get]
  · rw [g4 _ _ (by omega), e3 _ _ (by omega), ← hB0]; simp (disch := omega) only [fm_up_ne, fm_up_get]
  · rw [g4 _ _ (by omega), e2 f (by omega) hf, ← hB0]; simp (disch := omega) only [fm_up_ne]
  · rw [g2 m (by omega) hm, e3 _ _ (by omega), ← hB0]; simp (disch := omega) only [fm_up_ne]
  · unfold md_cc at hq
    rw [g4 _ _ (by omega), e3 _ _ (by omega), ← hB0]
    simp (disch := omega) only [fm_up_ne]
