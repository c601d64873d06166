/-! named, counted, law -/
theorem rl_place {A B : fm_M} {x y n n1 n0 b : Nat} {l : Int32} (hn : n ≤ n1) (hn1 : n1 < 2 ^ 31) (hb : b + n ≤ n0) (hn0 : n0 < 2 ^ 31) (hk : ∀ k, k < n → A.1 x k = B.1 y (b + k)) : ∀ (m i fa fb : Nat), i + m = n → m < fa → m < fb → ∃ r, G_X8_placeOf_2 fa x n1 l (nI n) (nI i) A = some (r, A) ∧ G_X10_found_3 fb y n0 (nI b) (nI n) l (nI i) B = some (r, B) ∧ (r = .inl (nI n) ∨ ∃ k, k < n ∧ r = .inr (nI k)) := by
  intro m
  induction m with
  | zero =>
    intro i fa fb hi hfa hfb
    obtain ⟨fa, rfl⟩ : ∃ z, fa = z + 1 := ⟨fa - 1, by omega⟩
    obtain ⟨fb, rfl⟩ : ∃ z, fb = z + 1 := ⟨fb - 1, by omega⟩
    have : i = n := by omega
    subst this
    rw [G_X8_placeOf_2, if_pos (nI_le (by omega) (by omega)), G_X10_found_3, if_pos (nI_le (by omega) (by omega))]
    exact ⟨_, rfl, rfl, Or.inl rfl⟩
  | succ m ih =>
    intro i fa fb hi hfa hfb
    obtain ⟨fa, rfl⟩ : ∃ z, fa = z + 1 := ⟨fa - 1, by omega⟩
    obtain ⟨fb, rfl⟩ : ∃ z, fb = z + 1 := ⟨fb - 1, by omega⟩
    rw [G_X8_placeOf_2, if_neg (nI_ge (by omega) (by omega)), if_neg (nI_ge (by omega) (by omega)), fm_gd_t (nu_inb (by omega) (by omega)), nI_clamp (by omega), G_X10_found_3, if_neg (nI_ge (by omega) (by omega)), nI_add, fm_gd_t (nu_inb (by omega) (by omega)), nI_clamp (by omega), hk i (by omega), nI_1]
    by_cases hc : B.1 y (b + i) = l
    · rw [if_pos hc, if_pos hc]; exact ⟨_, rfl, rfl, Or.inr ⟨i, by omega, rfl⟩⟩
    · rw [if_neg hc, if_neg hc]; exact ih (i + 1) fa fb (by omega) (by omega) (by omega)
theorem rl_placeF {A B : fm_M} {x y n n1 n0 b : Nat} {l : Int32} (hx : fm_arI x = some n1) (hy : fm_arI y = some n0) (hn : n ≤ n1) (hn1 : n1 < 2 ^ 31) (hb : b + n ≤ n0) (hn0 : n0 < 2 ^ 31) (hk : ∀ k, k < n → A.1 x k = B.1 y (b + k)) (hf : n < 9000) : ∃ v, F_X8_placeOf l x (nI n) A = some (v, A) ∧ F_X10_found y (nI b) (nI n) l B = some (v, B) ∧ (v = -1 ∨ ∃ k, k < n ∧ v = nI k) := by
  obtain ⟨r, e1, e2, e3⟩ := rl_place (l := l) hn hn1 hb hn0 hk n 0 fm_fuel fm_fuel (by omega) (by unfold fm_fuel; omega) (by unfold fm_fuel; omega)
  rw [F_X8_placeOf, F_X10_found, hx, hy]
  show ∃ v, fm_bs (G_X8_placeOf_2 fm_fuel x n1 l (nI n) (nI 0) A) (fun w2 M3 => some ((-1), M3)) (fun r4 M => some (r4, M)) = some (v, A) ∧ fm_bs (G_X10_found_3 fm_fuel y n0 (nI b) (nI n) l (nI 0) B) (fun w2 M3 => some ((-1), M3)) (fun r4 M => some (r4, M)) = some (v, B) ∧ (v = -1 ∨ ∃ k, k < n ∧ v = nI k)
  rw [e1, e2]
  rcases e3 with rfl | ⟨k, hk, rfl⟩
  · exact ⟨_, rfl, rfl, Or.inl rfl⟩
  · exact ⟨_, rfl, rfl, Or.inr ⟨k, hk, rfl⟩⟩
theorem pu_named {A B : fm_M} {t nf nm kd km : Nat} (h : iv_all A B t nf nm kd km) (a1 a2 : Int32) : pu t nf nm kd km (F_X9_named a1 a2 A) (F_X10_named a1 a2 B) := by
  have h0 := iv_thr h 0
  rw [F_X9_named, F_X10_named]
  simp only [fm_lt]
  generalize fm_up B 76 0 0 = B1 at *
  obtain ⟨hn, h1, h2⟩ := iv_nf h0
  obtain ⟨gn, g1, g2⟩ := iv_nm h0
  have ht := fm_td (iv_tt h)
  rw [iv_t h0, fm_gd_t (iv_tt h)]
  by_cases c0 : a1 = 0
  · rw [if_pos c0, if_pos c0, F_X8_forkNamed, fm_gd_t (iv_tt h), fm_gd_t (by decide), ck_0, h1, h2]
    obtain ⟨v, e1, e2, -⟩ := rl_placeF (A := A) (B := B1) (x := t + 1) (y := 79) (n := nf) (n1 := 8) (n0 := 16) (b := 0) (l := a2) (by rcases ht with rfl | rfl <;> rfl) rfl hn (by omega) (by omega) (by omega) (fun k hk => by rw [Nat.zero_add]; exact (h0.2.2.2.1.2.2.2.2.1 k hk).1) (by omega)
    rw [e1, fm_bd_s, fm_bd_s, show F_X10_found 79 0 (nI nf) a2 B1 = some (v, B1) from e2, fm_bd_s]
    exact rR_ret h0 rfl
  rw [if_neg c0, if_neg c0]
  by_cases c1 : a1 = 1
  · rw [if_pos c1, if_pos c1, fm_gd_t (iv_tt h), F_X8_motionNamed, fm_gd_t (iv_tt h), fm_gd_t (by decide), ck_1, g1, g2]
    obtain ⟨v, e1, e2, -⟩ := rl_placeF (A := A) (B := B1) (x := t + 6) (y := 84) (n := nm) (n1 := 10) (n0 := 20) (b := 0) (l := a2) (by rcases ht with rfl | rfl <;> rfl) rfl gn (by omega) (by omega) (by omega) (fun k hk => by rw [Nat.zero_add]; exact (h0.2.2.2.1.2.2.2.2.2 k hk).1) (by omega)
    rw [e1, fm_bd_s, fm_bd_s, show F_X10_found 84 0 (nI nm) a2 B1 = some (v, B1) from e2, fm_bd_s]
    exact rR_ret h0 rfl
  rw [if_neg c1, if_neg c1]
  exact rR_ret h0 rfl
/-- verdicts counted -/
theorem rl_verdL {A B : fm_M} {p t c nm : Nat} {w : Int32} (hc : c < 23) (hm : nm ≤ 10) (h1 : A.1 t 7 = nI nm) (h2 : B.1 78 1 = nI nm) (hk : ∀ m, m < nm → A.1 (p + 4) m = B.1 100 (10 * c + m)) : ∀ (m i fa fb acc : Nat), i + m = nm → m < fa → m < fb → ∃ v : Nat, v ≤ acc + m ∧ G_X7_verdicts_5 fa p t w (nI acc) (nI i) A = some ((nI v, nI nm), A) ∧ G_X10_manyOf_5 fb (nI c) w (nI acc) (nI i) B = some ((nI v, nI nm), B) := by
  intro m
  induction m with
  | zero =>
    intro i fa fb acc hi hfa hfb
    obtain ⟨fa, rfl⟩ : ∃ z, fa = z + 1 := ⟨fa - 1, by omega⟩
    obtain ⟨fb, rfl⟩ : ∃ z, fb = z + 1 := ⟨fb - 1, by omega⟩
    have : i = nm := by omega
    subst this
    refine ⟨acc, by omega, ?_, ?_⟩
    · rw [G_X7_verdicts_5, h1, if_pos (nI_le (by omega) (by omega))]
    · rw [G_X10_manyOf_5, fm_gd_t (by decide), ck_1, h2, if_pos (nI_le (by omega) (by omega))]
  | succ m ih =>
    intro i fa fb acc hi hfa hfb
    obtain ⟨fa, rfl⟩ : ∃ z, fa = z + 1 := ⟨fa - 1, by omega⟩
    obtain ⟨fb, rfl⟩ : ∃ z, fb = z + 1 := ⟨fb - 1, by omega⟩
    have ex : (10 : Int32) * nI c + nI i = nI (10 * c + i) := by rw [show (10 : Int32) = nI 10 from rfl, pk_mul, nI_add]
    rw [G_X7_verdicts_5, h1, if_neg (nI_ge (by omega) (by omega)), fm_gd_t (nu_inb (by omega) (by omega)), nI_clamp (by omega), G_X10_manyOf_5, fm_gd_t (by decide), ck_1, h2, if_neg (nI_ge (by omega) (by omega)), ex, fm_gd_t (nu_inb (by omega) (by omega)), nI_clamp (by omega), hk i (by omega)]
    simp only [fm_lt, nI_1, Int32.add_zero]
    by_cases z : B.1 100 (10 * c + i) = w
    · rw [if_pos z, if_pos z]
      obtain ⟨v, e0, e1, e2⟩ := ih (i + 1) fa fb (acc + 1) (by omega) (by omega) (by omega)
      exact ⟨v, by omega, e1, e2⟩
    · rw [if_neg z, if_neg z]
      obtain ⟨v, e0, e1, e2⟩ := ih (i + 1) fa fb acc (by omega) (by omega) (by omega)
      exact ⟨v, by omega, e1, e2⟩
theorem rl_verd {A B : fm_M} {p t c nm : Nat} (w : Int32) (hp : fm_isSt p = true) (ht : fm_isTd t = true) (hc : c < 23) (hm : nm ≤ 10) (h1 : A.1 t 7 = nI nm) (h2 : B.1 78 1 = nI nm) (hk : ∀ m, m < nm → A.1 (p + 4) m = B.1 100 (10 * c + m)) : ∃ v : Nat, v ≤ 10 ∧ F_X7_verdicts p t w A = some (nI v, A) ∧ F_X10_manyOf (nI c) w B = some (nI v, B) := by
  obtain ⟨v, e0, e1, e2⟩ := rl_verdL (w := w) hc hm h1 h2 hk nm 0 fm_fuel fm_fuel 0 (by omega) (by unfold fm_fuel; omega) (by unfold fm_fuel; omega)
  refine ⟨v, by omega, ?_, ?_⟩
  · rw [F_X7_verdicts, fm_gd_t hp, fm_gd_t ht, show G_X7_verdicts_5 fm_fuel p t w 0 0 A = _ from e1, fm_bd_s]
  · rw [F_X10_manyOf, show G_X10_manyOf_5 fm_fuel (nI c) w 0 0 B = _ from e2, fm_bd_s]
theorem rl_heardL {A B : fm_M} {p t c nm : Nat} (hc : c < 23) (hm : nm ≤ 10) (h1 : A.1 t 7 = nI nm) (h2 : B.1 78 1 = nI nm) (hv : rl_v A p nm) (hk : ∀ m, m < nm → A.1 (p + 5) m = B.1 101 (10 * c + m)) : ∀ (m i fa fb : Nat) (acc : Int32), i + m = nm → m < fa → m < fb → ∃ v : Int32, G_X7_heardInSum_4 fa p t acc (nI i) A = some ((v, nI nm), A) ∧ G_X10_heardAll_4 fb (nI c) acc (nI i) B = some ((v, nI nm), B) := by
  intro m
  induction m with
  | zero =>
    intro i fa fb acc hi hfa hfb
    obtain ⟨fa, rfl⟩ : ∃ z, fa = z + 1 := ⟨fa - 1, by omega⟩
    obtain ⟨fb, rfl⟩ : ∃ z, fb = z + 1 := ⟨fb - 1, by omega⟩
    have : i = nm := by omega
    subst this
    refine ⟨acc, ?_, ?_⟩
    · rw [G_X7_heardInSum_4, h1, if_pos (nI_le (by omega) (by omega))]
    · rw [G_X10_heardAll_4, fm_gd_t (by decide), ck_1, h2, if_pos (nI_le (by omega) (by omega))]
  | succ m ih =>
    intro i fa fb acc hi hfa hfb
    obtain ⟨fa, rfl⟩ : ∃ z, fa = z + 1 := ⟨fa - 1, by omega⟩
    obtain ⟨fb, rfl⟩ : ∃ z, fb = z + 1 := ⟨fb - 1, by omega⟩
    have ex : (10 : Int32) * nI c + nI i = nI (10 * c + i) := by rw [show (10 : Int32) = nI 10 from rfl, pk_mul, nI_add]
    rw [G_X7_heardInSum_4, h1, if_neg (nI_ge (by omega) (by omega)), fm_gd_t (nu_inb (by omega) (by omega)), fm_gd_t (nu_inb (by omega) (by omega)), nI_clamp (by omega), G_X10_heardAll_4, fm_gd_t (by decide), ck_1, h2, if_neg (nI_ge (by omega) (by omega)), ex, fm_gd_t (nu_inb (by omega) (by omega)), nI_clamp (by omega), ← hk i (by omega)]
    simp only [fm_lt, nI_1]
    rcases hv i (by omega) with ⟨z1, z2⟩ | ⟨z1, x, z2, z3⟩
    · rw [if_pos z1, z2, show i_max 0 (-1) = 0 from by decide, Int32.add_zero]
      exact ih (i + 1) fa fb acc (by omega) (by omega) (by omega)
    · rw [if_neg (by rcases z1 with z | z <;> rw [z] <;> decide), z3]
      have : i_max 0 (nI x) = nI x := by
        unfold i_max
        by_cases z : (0 : Int32) < nI x
        · rw [if_pos z]
        · rw [if_neg z]
          have : x = 0 := by
            by_cases y : x = 0
            · exact y
            · exact absurd (nI_lt (a := 0) (b := x) (by omega) (by omega)) z
          rw [this]; rfl
      rw [this]
      exact ih (i + 1) fa fb _ (by omega) (by omega) (by omega)
theorem rl_heard {A B : fm_M} {p t c nm : Nat} (hp : fm_isSt p = true) (ht : fm_isTd t = true) (hc : c < 23) (hm : nm ≤ 10) (h1 : A.1 t 7 = nI nm) (h2 : B.1 78 1 = nI nm) (hv : rl_v A p nm) (hk : ∀ m, m < nm → A.1 (p + 5) m = B.1 101 (10 * c + m)) : ∃ v : Int32, F_X7_heardInSum p t A = some (v, A) ∧ F_X10_heardAll (nI c) B = some (v, B) := by
  obtain ⟨v, e1, e2⟩ := rl_heardL hc hm h1 h2 hv hk nm 0 fm_fuel fm_fuel 0 (by omega) (by unfold fm_fuel; omega) (by unfold fm_fuel; omega)
  refine ⟨v, ?_, ?_⟩
  · rw [F_X7_heardInSum, fm_gd_t hp, fm_gd_t ht, show G_X7_heardInSum_4 fm_fuel p t 0 0 A = _ from e1, fm_bd_s]
  · rw [F_X10_heardAll, show G_X10_heardAll_4 fm_fuel (nI c) 0 0 B = _ from e2, fm_bd_s]
/-! bits counted -/
def md_bits : Nat → Int32 → Int32 → Int32 → Int32
  | 0, _, acc, _ => acc
  | m + 1, x, acc, i => md_bits m x (acc + ((x >>> (i &&& 31)) &&& 1)) (i + 1)
theorem md_bitsL (x : Int32) (M : fm_M) : ∀ (m i fb : Nat) (acc : Int32), i + m = 10 → m < fb → G_X10_bitsOf_4 fb x acc (nI i) M = some ((md_bits m x acc (nI i), nI 10), M) := by
  intro m
  induction m with
  | zero =>
    intro i fb acc hi hfb
    obtain ⟨fb, rfl⟩ : ∃ z, fb = z + 1 := ⟨fb - 1, by omega⟩
    have : i = 10 := by omega
    subst this
    rw [G_X10_bitsOf_4, if_pos (by decide)]
    rfl
  | succ m ih =>
    intro i fb acc hi hfb
    obtain ⟨fb, rfl⟩ : ∃ z, fb = z + 1 := ⟨fb - 1, by omega⟩
    rw [G_X10_bitsOf_4, if_neg (show ¬ (10 : Int32) ≤ nI i from nI_ge (b := 10) (by omega) (by omega)), fm_lt, nI_1, ih (i + 1) fb _ (by omega) (by omega), md_bits, nI_1]
theorem md_bitsOf (x : Int32) (M : fm_M) : F_X10_bitsOf x M = some (md_bits 10 x 0 0, M) := by
  rw [F_X10_bitsOf, show G_X10_bitsOf_4 fm_fuel x 0 0 M = _ from md_bitsL x M 10 0 fm_fuel 0 (by omega) (by unfold fm_fuel; omega), fm_bd_s]
  rfl
def cl_bc (x : Int32) : Int32 :=
  (fun x1 : Int32 => (fun x2 : Int32 => (fun x3 : Int32 => (fun x4 : Int32 => (fun x5 : Int32 => x5 &&& 63) (x4 + i_usr x4 16)) (x3 + i_usr x3 8)) ((x2 + i_usr x2 4) &&& 252645135)) ((x1 &&& 858993459) + (i_usr x1 2 &&& 858993459))) (x - (i_usr x 1 &&& 1431655765))
theorem cl_bitCount (x : Int32) (M : fm_M) : F_J6_bitCount_0f7a4 x M = some (cl_bc x, M) := rfl
theorem bc_all : ∀ z : Nat, z < 256 → cl_bc (nI z) = md_bits 10 (nI z) 0 0 := by decide +kernel
theorem pu_count {A B : fm_M} {t nf nm kd km : Nat} (h : iv_all A B t nf nm kd km) (a1 : Int32) : pu t nf nm kd km (F_X9_count a1 A) (F_X10_count a1 B) := by
  have h0 := iv_thr h 0
  rw [F_X9_count, F_X10_count]
  simp only [fm_lt]
  generalize fm_up B 76 0 0 = B1 at *
  obtain ⟨hn, h1, h2⟩ := iv_nf h0
  obtain ⟨gn, g1, g2⟩ := iv_nm h0
  obtain ⟨-, -, -, td, st, so, -, dd, mn, -⟩ := id h0
  obtain ⟨-, ⟨⟨nw, w1, w2, w3, w4⟩, -⟩, ⟨t1, t2, t3, t4, t5, t6⟩, ⟨-, -, -, z, z1, z2⟩, -, -⟩ := td
  obtain ⟨⟨s1, s2, s3, s4⟩, s5, s6⟩ := st
  obtain ⟨-, -, o3, -, -, y, y1, y2⟩ := so
  simp only [iv_t h0, iv_tt h, fm_gd1, show fm_inb 0 20 = true by decide, show fm_inb 1 20 = true by decide, show fm_inb 9 20 = true by decide, show fm_inb 3 20 = true by decide, show fm_inb 8 20 = true by decide, show fm_inb 0 23 = true by decide, ck_0, ck_1, ck_9, ck_3, ck_8]
  by_cases c0 : a1 = 0
  · rw [if_pos c0, if_pos c0]; exact rR_ret h0 (by rw [h1, h2])
  rw [if_neg c0, if_neg c0]
  by_cases c1 : a1 = 1
  · rw [if_pos c1, if_pos c1]; exact rR_ret h0 (by rw [g1, g2])
  rw [if_neg c1, if_neg c1]
  by_cases c2 : a1 = 2
  · rw [if_pos c2, if_pos c2, cl_bitCount, fm_bd_s, md_bitsOf, fm_bd_s, ← t5, z2, bc_all z z1]; exact rR_ret h0 rfl
  rw [if_neg c2, if_neg c2]
  by_cases c3 : a1 = 3
  · rw [if_pos c3, if_pos c3]; exact rR_ret h0 (by rw [w2, w3])
  rw [if_neg c3, if_neg c3]
  by_cases c4 : a1 = 4
  · rw [if_pos c4, if_pos c4]; exact rR_ret h0 t6
  rw [if_neg c4, if_neg c4]
  by_cases c5 : a1 = 5
  · rw [if_pos c5, if_pos c5]; exact rR_ret h0 s1
  rw [if_neg c5, if_neg c5]
  by_cases c6 : a1 = 6
  · rw [if_pos c6, if_pos c6]; exact rR_ret h0 s2
  rw [if_neg c6, if_neg c6]
  by_cases c7 : a1 = 7
  · rw [if_pos c7, if_pos c7]; exact rR_ret h0 s3
  rw [if_neg c7, if_neg c7]
  have vd := fun w => rl_verd (A := A) (B := B1) (p := 38) (c := 0) (nm := nm) w rfl (iv_tt h) (by omega) gn g1 g2 (fun m hm => (s6 m hm).2.1)
  by_cases c8 : a1 = 8
  · obtain ⟨v, -, e1, e2⟩ := vd 1
    rw [if_pos c8, if_pos c8, e1, fm_bd_s, show F_X10_manyOf 0 1 B1 = _ from e2, fm_bd_s]; exact rR_ret h0 rfl
  rw [if_neg c8, if_neg c8]
  by_cases c9 : a1 = 9
  · obtain ⟨v, -, e1, e2⟩ := vd 0
    rw [if_pos c9, if_pos c9, e1, fm_bd_s, show F_X10_manyOf 0 0 B1 = _ from e2, fm_bd_s]; exact rR_ret h0 rfl
  rw [if_neg c9, if_neg c9]
  by_cases c10 : a1 = 10
  · obtain ⟨v, e1, e2⟩ := rl_heard (A := A) (B := B1) (p := 38) (c := 0) (nm := nm) rfl (iv_tt h) (by omega) gn g1 g2 o3 (fun m hm => (s6 m hm).2.2)
    rw [if_pos c10, if_pos c10, e1, fm_bd_s, show F_X10_heardAll 0 B1 = _ from e2, fm_bd_s]; exact rR_ret h0 rfl
  rw [if_neg c10, if_neg c10]
  by_cases c11 : a1 = 11
  · rw [if_pos c11, if_pos c11, cl_bitCount, fm_bd_s, md_bitsOf, fm_bd_s, ← s4, y2, bc_all y y1]; exact rR_ret h0 rfl
  rw [if_neg c11, if_neg c11]
  obtain ⟨-, m1, m2, m3, -⟩ := mn
  by_cases c12 : a1 = 12
  · rw [if_pos c12, if_pos c12]; exact rR_ret h0 (by rw [m1, m2])
  rw [if_neg c12, if_neg c12]
  by_cases c13 : a1 = 13
  · rw [if_pos c13, if_pos c13, F_X4_reach, F_X10_knownMany, m3, m1, m2]
    by_cases z : B1.1 76 56 = -1
    · rw [if_pos z, if_pos z, fm_bd_s, fm_bd_s]; exact rR_ret h0 rfl
    · rw [if_neg z, if_neg z, fm_bd_s, fm_bd_s]; exact rR_ret h0 rfl
  rw [if_neg c13, if_neg c13]
  by_cases c14 : a1 = 14
  · rw [if_pos c14, if_pos c14]; exact rR_ret h0 (by rw [dd.2.1, dd.2.2.1])
  rw [if_neg c14, if_neg c14]
  exact rR_ret h0 rfl
