/-! a council copied, a council begun -/
theorem fm_row_n {M : fm_M} {p q k : Nat} {f : Nat → Int32} (h : q ≠ p) : (fm_row M p f).1 q k = M.1 q k := congrFun (fm_row_ne q h).1 k
theorem fm_row_g {M : fm_M} {p k : Nat} {f : Nat → Int32} : (fm_row M p f).1 p k = f k := by rw [fm_row_eq]
theorem va_cpy8 {f g : Nat → Int32} {k : Nat} (h : k < 8) : va_cpy f g (Int32.toNatClampNeg 0) (Int32.toNatClampNeg 0) (Int32.toNatClampNeg 8) k = f k := by
  rw [ck_0, ck_8, pk_cpy_in (by omega) (by omega)]
  exact congrArg f (by omega)
theorem va_cpy10 {f g : Nat → Int32} {k : Nat} (h : k < 10) : va_cpy f g (Int32.toNatClampNeg 0) (Int32.toNatClampNeg 0) (Int32.toNatClampNeg 10) k = f k := by
  rw [ck_0, ck_10, pk_cpy_in (by omega) (by omega)]
  exact congrArg f (by omega)
theorem cl_copy {A : fm_M} {p q : Nat} (hp : fm_isSt p = true) (hq : fm_isSt q = true) (hne : p ≠ q) (h7 : A.1 q 7 = 0 ∨ A.1 q 7 = 1) :
    ∃ A2, F_X7_copyFrom p q A = some ((), A2) ∧ (∀ k, k < 8 → A2.1 p k = A.1 q k) ∧ (∀ f, f < 8 → A2.1 (p + 1) f = A.1 (q + 1) f ∧ A2.1 (p + 2) f = A.1 (q + 2) f) ∧ (∀ m, m < 10 → A2.1 (p + 3) m = A.1 (q + 3) m ∧ A2.1 (p + 4) m = A.1 (q + 4) m ∧ A2.1 (p + 5) m = A.1 (q + 5) m) ∧ (∀ x k, (x < p ∨ p + 5 < x) → A2.1 x k = A.1 x k) := by
  have p3 := rl_st3 hp
  have q3 := rl_st3 hq
  have hz : ∀ y : Int32, y = A.1 q 7 → fm_z01 y = true := fun y e => by rw [e]; exact decide_eq_true h7
  rw [F_X7_copyFrom, fm_gd_t hp, fm_gd_t hq]
  simp only [fm_lt]
  rw [fm_gd_t (hz _ (by simp (disch := omega) only [fm_up_ne])), fm_gd_t (by decide), fm_gd_t (by decide), fm_gd_t (by decide), fm_gd_t (by decide), fm_gd_t (by decide)]
  refine ⟨_, rfl, fun k hk => ?_, fun f hf => ?_, fun m hm => ?_, fun x k hx => ?_⟩
  · rcases (show k = 0 ∨ k = 1 ∨ k = 2 ∨ k = 3 ∨ k = 4 ∨ k = 5 ∨ k = 6 ∨ k = 7 by omega) with rfl | rfl | rfl | rfl | rfl | rfl | rfl | rfl <;> simp (disch := omega) only [fm_row_n, fm_up_ne, fm_up_get]
  · refine ⟨?_, ?_⟩ <;> simp (disch := omega) only [fm_row_n, fm_row_g, va_cpy8, fm_up_ne]
  · refine ⟨?_, ?_, ?_⟩ <;> simp (disch := omega) only [fm_row_n, fm_row_g, va_cpy10, fm_up_ne]
  · simp (disch := omega) only [fm_row_n, fm_up_ne]
theorem md_cp8 {a b : Nat} (ha : a < 23) (hb : b < 23) : ∀ (m i fb : Nat) (B : fm_M), i + m = 8 → m < fb → ∃ B2, G_X10_copies_50 fb (nI a) (nI b) (nI i) B = some (nI 8, B2) ∧ (a ≠ b → ∀ f, i ≤ f → f < 8 → B2.1 98 (8 * a + f) = B.1 98 (8 * b + f)) ∧ (∀ q k, (q ≠ 98 ∨ k < 8 * a + i ∨ 8 * a + 8 ≤ k) → B2.1 q k = B.1 q k) := by
  intro m
  induction m with
  | zero =>
    intro i fb B hi hfb
    have : i = 8 := by omega
    subst this
    obtain ⟨fb, rfl⟩ : ∃ z, fb = z + 1 := ⟨fb - 1, by omega⟩
    exact ⟨B, by rw [G_X10_copies_50, if_pos (by decide)], fun _ f h1 h2 => absurd h1 (by omega), fun _ _ _ => rfl⟩
  | succ m ih =>
    intro i fb B hi hfb
    obtain ⟨fb, rfl⟩ : ∃ z, fb = z + 1 := ⟨fb - 1, by omega⟩
    have ex : (8 : Int32) * nI a + nI i = nI (8 * a + i) := by rw [show (8 : Int32) = nI 8 from rfl, pk_mul, nI_add]
    have ey : (8 : Int32) * nI b + nI i = nI (8 * b + i) := by rw [show (8 : Int32) = nI 8 from rfl, pk_mul, nI_add]
    obtain ⟨B2, e1, e2, e3⟩ := ih (i + 1) fb (fm_up B 98 (8 * a + i) (B.1 98 (8 * b + i))) (by omega) (by omega)
    refine ⟨B2, ?_, fun hab f h1 h2 => ?_, fun q k hq => ?_⟩
    · rw [G_X10_copies_50, if_neg (show ¬ (8 : Int32) ≤ nI i from nI_ge (b := 8) (by omega) (by omega)), ex, ey, fm_gd_t (nu_inb (by omega) (by omega)), fm_gd_t (nu_inb (by omega) (by omega)), fm_lt, nI_clamp (by omega), nI_clamp (by omega), nI_1]
      exact e1
    · by_cases z : f = i
      · subst z
        rw [e3 _ _ (by omega), fm_up_get]
      · rw [e2 hab f (by omega) h2, fm_up_ne (by omega)]
    · rw [e3 q k (by omega), fm_up_ne (by omega)]
theorem md_cp10 {a b : Nat} (ha : a < 23) (hb : b < 23) : ∀ (m i fb : Nat) (B : fm_M), i + m = 10 → m < fb → ∃ B2, G_X10_copies_86 fb (nI a) (nI b) (nI i) B = some (nI 10, B2) ∧ (a ≠ b → ∀ f, i ≤ f → f < 10 → B2.1 99 (10 * a + f) = B.1 99 (10 * b + f) ∧ B2.1 100 (10 * a + f) = B.1 100 (10 * b + f) ∧ B2.1 101 (10 * a + f) = B.1 101 (10 * b + f)) ∧ (∀ q k, (q < 99 ∨ 101 < q ∨ k < 10 * a + i ∨ 10 * a + 10 ≤ k) → B2.1 q k = B.1 q k) := by
  intro m
  induction m with
  | zero =>
    intro i fb B hi hfb
    have : i = 10 := by omega
    subst this
    obtain ⟨fb, rfl⟩ : ∃ z, fb = z + 1 := ⟨fb - 1, by omega⟩
    exact ⟨B, by rw [G_X10_copies_86, if_pos (by decide)], fun _ f h1 h2 => absurd h1 (by omega), fun _ _ _ => rfl⟩
  | succ m ih =>
    intro i fb B hi hfb
    obtain ⟨fb, rfl⟩ : ∃ z, fb = z + 1 := ⟨fb - 1, by omega⟩
    have ex : (10 : Int32) * nI a + nI i = nI (10 * a + i) := by rw [show (10 : Int32) = nI 10 from rfl, pk_mul, nI_add]
    have ey : (10 : Int32) * nI b + nI i = nI (10 * b + i) := by rw [show (10 : Int32) = nI 10 from rfl, pk_mul, nI_add]
    obtain ⟨B2, e1, e2, e3⟩ := ih (i + 1) fb (fm_up (fm_up (fm_up B 99 (10 * a + i) (B.1 99 (10 * b + i))) 100 (10 * a + i) (B.1 100 (10 * b + i))) 101 (10 * a + i) (B.1 101 (10 * b + i))) (by omega) (by omega)
    refine ⟨B2, ?_, fun hab f h1 h2 => ?_, fun q k hq => ?_⟩
    · rw [G_X10_copies_86, if_neg (show ¬ (10 : Int32) ≤ nI i from nI_ge (b := 10) (by omega) (by omega)), ex, ey]
      simp (disch := omega) only [nu_inb, fm_gd1, fm_lt, nI_clamp, nI_1, fm_up_ne]
      exact e1
    · by_cases z : f = i
      · subst z
        refine ⟨?_, ?_, ?_⟩ <;> rw [e3 _ _ (by omega)] <;> simp (disch := omega) only [fm_up_ne, fm_up_get]
      · have := e2 hab f (by omega) h2
        simp (disch := omega) only [fm_up_ne] at this
        exact this
    · rw [e3 q k (by omega)]
      simp (disch := omega) only [fm_up_ne]
def md_cc (c q k : Nat) : Prop := (94 ≤ q ∧ q ≤ 97 ∧ k = c) ∨ (q = 98 ∧ 8 * c ≤ k ∧ k < 8 * c + 8) ∨ (99 ≤ q ∧ q ≤ 101 ∧ 10 * c ≤ k ∧ k < 10 * c + 10)
theorem md_copy {B : fm_M} {a b : Nat} (ha : a < 23) (hb : b < 23) (hab : a ≠ b) : ∃ B2, F_X10_copies (nI a) (nI b) B = some ((), B2) ∧ (B2.1 94 a = B.1 94 b ∧ B2.1 95 a = B.1 95 b ∧ B2.1 96 a = B.1 96 b ∧ B2.1 97 a = B.1 97 b) ∧ (∀ f, f < 8 → B2.1 98 (8 * a + f) = B.1 98 (8 * b + f)) ∧ (∀ m, m < 10 → B2.1 99 (10 * a + m) = B.1 99 (10 * b + m) ∧ B2.1 100 (10 * a + m) = B.1 100 (10 * b + m) ∧ B2.1 101 (10 * a + m) = B.1 101 (10 * b + m)) ∧ (∀ q k, ¬ md_cc a q k → B2.1 q k = B.1 q k) := by
  rw [F_X10_copies]
  simp (disch := omega) only [nu_inb, fm_gd1, fm_lt, nI_clamp, fm_up_ne]
  generalize hB0 : fm_up (fm_up (fm_up (fm_up B 94 a (B.1 94 b)) 95 a (B.1 95 b)) 96 a (B.1 96 b)) 97 a (B.1 97 b) = B0
  obtain ⟨B1, e1, e2, e3⟩ := md_cp8 ha hb 8 0 fm_fuel B0 (by omega) (by unfold fm_fuel; omega)
  obtain ⟨B2, g1, g2, g3⟩ := md_cp10 ha hb 10 0 fm_fuel B1 (by omega) (by unfold fm_fuel; omega)
  rw [show G_X10_copies_50 fm_fuel (nI a) (nI b) 0 B0 = some (nI 8, B1) from e1, fm_bd_s, show G_X10_copies_86 fm_fuel (nI a) (nI b) 0 B1 = some (nI 10, B2) from g1, fm_bd_s]
  refine ⟨B2, rfl, ⟨?_, ?_, ?_, ?_⟩, fun f hf => ?_, fun m hm => ?_, fun q k hq => ?_⟩
  · rw [g3 _ _ (by omega), e3 _ _ (by omega), ← hB0]; simp (disch := omega) only [fm_up_ne, fm_up_get]
  · rw [g3 _ _ (by omega), e3 _ _ (by omega), ← hB0]; simp (disch := omega) only [fm_up_ne, fm_up_get]
  · rw [g3 _ _ (by omega), e3 _ _ (by omega), ← hB0]; simp (disch := omega) only [fm_up_ne, fm_up_get]
  · rw [g3 _ _ (by omega), e3 _ _ (by omega), ← hB0]; simp (disch := omega) only [fm_up_ne, fm_up_get]
  · rw [g3 _ _ (by omega), e2 hab f (by omega) hf, ← hB0]; simp (disch := omega) only [fm_up_ne]
  · obtain ⟨x1, x2, x3⟩ := g2 hab m (by omega) hm
    rw [x1, x2, x3, e3 _ _ (by omega), e3 _ _ (by omega), e3 _ _ (by omega), ← hB0]
    simp (disch := omega) only [fm_up_ne, and_self]
  · unfold md_cc at hq
    rw [g3 _ _ (by omega), e3 _ _ (by omega), ← hB0]
    simp (disch := omega) only [fm_up_ne]
