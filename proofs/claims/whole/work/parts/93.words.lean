/-! tokens: words and names -/
def wN (x : Nat → Nat) : Nat → Nat
  | 0 => 0
  | j + 1 => wN x j * 32 + x j
theorem wN_lt {x : Nat → Nat} : ∀ j, (∀ g, g < j → x g < 32) → wN x j < 32 ^ j := by
  intro j
  induction j with
  | zero => intro _; rw [wN, Nat.pow_zero]; omega
  | succ j ih =>
    intro h
    have a := ih (fun g hg => h g (by omega))
    have b := h j (by omega)
    rw [wN, Nat.pow_succ]; omega
theorem wN_cg {x y : Nat → Nat} : ∀ j, (∀ g, g < j → x g = y g) → wN x j = wN y j := by
  intro j
  induction j with
  | zero => intro _; rfl
  | succ j ih => intro h; rw [wN, wN, ih (fun g hg => h g (by omega)), h j (by omega)]
theorem wN_pad {x : Nat → Nat} {l : Nat} (hx : ∀ g, l ≤ g → x g = 0) : ∀ m, wN x (l + m) = wN x l * 32 ^ m := by
  intro m
  induction m with
  | zero => rw [Nat.add_zero, Nat.pow_zero, Nat.mul_one]
  | succ m ih => rw [← Nat.add_assoc, wN, ih, hx (l + m) (by omega), Nat.add_zero, Nat.pow_succ, Nat.mul_assoc]
theorem wN_inj {x y : Nat → Nat} (hx : ∀ g, g < 6 → x g < 32) (hy : ∀ g, g < 6 → y g < 32) (h : wN x 6 = wN y 6) : ∀ g, g < 6 → x g = y g := by
  simp only [wN] at h
  have x0 := hx 0 (by omega); have x1 := hx 1 (by omega); have x2 := hx 2 (by omega); have x3 := hx 3 (by omega); have x4 := hx 4 (by omega); have x5 := hx 5 (by omega)
  have y0 := hy 0 (by omega); have y1 := hy 1 (by omega); have y2 := hy 2 (by omega); have y3 := hy 3 (by omega); have y4 := hy 4 (by omega); have y5 := hy 5 (by omega)
  intro g hg
  rcases (show g = 0 ∨ g = 1 ∨ g = 2 ∨ g = 3 ∨ g = 4 ∨ g = 5 by omega) with rfl | rfl | rfl | rfl | rfl | rfl <;> omega
def wst (i : Nat) : Nat := [0, 5, 11, 18, 24, 28, 34, 40, 45, 49, 53, 58, 63, 66, 70, 74, 80, 85, 91, 96, 102, 107, 111].getD i 0
def wln (i : Nat) : Nat := [4, 5, 6, 5, 3, 5, 5, 4, 3, 3, 4, 4, 2, 3, 3, 5, 4, 5, 4, 5, 4, 3].getD i 0
def wiv (i : Nat) : Nat := iv_words[i]?.getD 0
def wcd (i j : Nat) : Nat := wiv i / 32 ^ (5 - j) % 32
theorem ww_1 : ∀ i, i < 22 → 0 < wln i ∧ wln i ≤ 6 ∧ wst i + wln i < 111 ∧ wst (i + 1) = wst i + wln i + 1 ∧ wiv i < 2 ^ 30 := by decide +kernel
theorem ww_2 : ∀ i, i < 22 → fm_chr (nI (wst i + wln i)) = 32 ∧ ∀ j, j < wln i → ¬ fm_chr (nI (wst i + j)) = 32 := by decide +kernel
theorem ww_3 : ∀ i, i < 22 → ∀ j, j < 6 → wcd i j < 32 ∧ (j < wln i → fm_chr (nI (wst i + j)) = nI (96 + wcd i j) ∧ 0 < wcd i j) ∧ (wln i ≤ j → wcd i j = 0) := by decide +kernel
theorem ww_4 : ∀ i, i < 22 → wiv i = wN (wcd i) 6 := by decide +kernel
/-- the letters that stand at p, as numbers; none behind the l-th -/
def wx (B : fm_M) (p l j : Nat) : Nat := if j < l then (B.1 77 (p + j)).toNatClampNeg - 96 else 0
def wM (x : Nat → Nat) (l i : Nat) : Prop := l = wln i ∧ ∀ g, g < l → x g = wcd i g
theorem wM_iff {x : Nat → Nat} {l i : Nat} (hi : i < 22) (hl : l ≤ 6) (h1 : ∀ g, g < l → 1 ≤ x g ∧ x g ≤ 26) (h0 : ∀ g, l ≤ g → x g = 0) : wM x l i ↔ wiv i = wN x 6 := by
  obtain ⟨a1, a2, -⟩ := ww_1 i hi
  have hb : ∀ g, g < 6 → x g < 32 := fun g hg => by
    by_cases c : g < l
    · have := h1 g c; omega
    · rw [h0 g (by omega)]; omega
  rw [ww_4 i hi]
  constructor
  · rintro ⟨e1, e2⟩
    refine wN_cg 6 (fun g hg => ?_)
    by_cases c : g < l
    · exact (e2 g c).symm
    · rw [h0 g (by omega), ((ww_3 i hi g hg).2.2 (by omega))]
  · intro e
    have q := wN_inj (fun g hg => (ww_3 i hi g hg).1) hb e
    have el : l = wln i := by
      rcases Nat.lt_trichotomy l (wln i) with z | z | z
      · have b1 := ((ww_3 i hi l (by omega)).2.1 z).2
        have b2 := q l (by omega)
        rw [h0 l (Nat.le_refl _)] at b2; omega
      · exact z
      · have b1 := (ww_3 i hi (wln i) (by omega)).2.2 (Nat.le_refl _)
        have b2 := q (wln i) (by omega)
        have b3 := h1 (wln i) z
        omega
    exact ⟨el, fun g hg => (q g (by omega)).symm⟩
/-- the reference looks a word up -/
def wH (B : fm_M) (p l : Nat) (x : Nat → Nat) : Prop := B.1 76 21 = nI p ∧ B.1 76 20 = nI (p + l) ∧ p + l ≤ 700 ∧ ∀ g, g < l → B.1 77 (p + g) = nI (96 + x g) ∧ 1 ≤ x g ∧ x g ≤ 26
theorem md_w15 {B : fm_M} {p l i : Nat} {x : Nat → Nat} (h : wH B p l x) (hi : i < 22) (l1 : Int32) : ∀ (m j fb : Nat), j + m = wln i → m < fb → j ≤ l → (∀ g, g < j → x g = wcd i g) → ∃ r : Nat, r ≤ wln i ∧ r ≤ l ∧ G_X10_word_15 fb l1 (nI (wst i)) (nI j) B = some (nI r, B) ∧ (∀ g, g < r → x g = wcd i g) ∧ (r = wln i ∨ r = l ∨ ¬ x r = wcd i r) := by
  obtain ⟨h1, h2, h3, h4⟩ := h
  obtain ⟨a1, a2, a3, -⟩ := ww_1 i hi
  obtain ⟨b1, b2⟩ := ww_2 i hi
  intro m
  induction m with
  | zero =>
    intro j fb hj hfb hjl hm
    obtain ⟨fb, rfl⟩ : ∃ z, fb = z + 1 := ⟨fb - 1, by omega⟩
    have : j = wln i := by omega
    subst this
    rw [G_X10_word_15, nI_add, fm_gd_t (nu_inb (by omega) (by omega)), if_pos b1]
    exact ⟨_, by omega, hjl, rfl, hm, Or.inl rfl⟩
  | succ m ih =>
    intro j fb hj hfb hjl hm
    obtain ⟨fb, rfl⟩ : ∃ z, fb = z + 1 := ⟨fb - 1, by omega⟩
    have sb : fm_inb (nI (wst i + j)) 111 = true := nu_inb (by omega) (by omega)
    rw [G_X10_word_15, nI_add, fm_gd_t sb, if_neg (b2 j (by omega)), h1, h2, nI_add]
    by_cases c : p + l ≤ p + j
    · rw [if_pos (nI_le c (by omega))]
      exact ⟨j, by omega, hjl, rfl, hm, Or.inr (Or.inl (by omega))⟩
    · rw [if_neg (nI_ge (by omega) (by omega)), fm_gd_t (nu_inb (by omega) (by omega)), fm_gd_t sb, nI_clamp (by omega), (h4 j (by omega)).1, ((ww_3 i hi j (by omega)).2.1 (by omega)).1, nI_1]
      have w1 := (ww_3 i hi j (by omega)).1
      have w2 := h4 j (by omega)
      by_cases d : x j = wcd i j
      · rw [if_pos (by rw [d])]
        exact ih (j + 1) fb (by omega) (by omega) (by omega) (fun g hg => by
          by_cases y : g = j
          · subst y; exact d
          · exact hm g (by omega))
      · rw [if_neg (fun z => d (by have := (nI_eq (by omega) (by omega)).mp z; omega))]
        exact ⟨j, by omega, hjl, rfl, hm, Or.inr (Or.inr d)⟩
theorem md_w97 {B : fm_M} {i : Nat} (hi : i < 22) (l1 l3 : Int32) : ∀ (m j fb : Nat), j + m = wln i → m < fb → G_X10_word_97 fb l1 l3 (nI (wst i + j)) B = some (nI (wst i + wln i), B) := by
  obtain ⟨a1, a2, a3, -⟩ := ww_1 i hi
  obtain ⟨b1, b2⟩ := ww_2 i hi
  intro m
  induction m with
  | zero =>
    intro j fb hj hfb
    obtain ⟨fb, rfl⟩ : ∃ z, fb = z + 1 := ⟨fb - 1, by omega⟩
    have : j = wln i := by omega
    subst this
    rw [G_X10_word_97, fm_gd_t (nu_inb (by omega) (by omega)), if_pos b1]
  | succ m ih =>
    intro j fb hj hfb
    obtain ⟨fb, rfl⟩ : ∃ z, fb = z + 1 := ⟨fb - 1, by omega⟩
    rw [G_X10_word_97, fm_gd_t (nu_inb (by omega) (by omega)), if_neg (b2 j (by omega)), nI_1, Nat.add_assoc]
    exact ih (j + 1) fb (by omega) (by omega)
theorem md_word {B : fm_M} {p l : Nat} {x : Nat → Nat} (h : wH B p l x) : ∀ (m i fb : Nat), i + m = 22 → m < fb → (∃ r : Nat, i ≤ r ∧ r < 22 ∧ wM x l r ∧ (∀ g, i ≤ g → g < r → ¬ wM x l g) ∧ G_X10_word_4 fb (nI i) (nI (wst i)) B = some (.inr (nI r), B)) ∨ ((∀ g, i ≤ g → g < 22 → ¬ wM x l g) ∧ ∃ y, G_X10_word_4 fb (nI i) (nI (wst i)) B = some (.inl y, B)) := by
  obtain ⟨h1, h2, h3, h4⟩ := id h
  intro m
  induction m with
  | zero =>
    intro i fb hi hfb
    obtain ⟨fb, rfl⟩ : ∃ z, fb = z + 1 := ⟨fb - 1, by omega⟩
    have : i = 22 := by omega
    subst this
    rw [G_X10_word_4, if_pos (by decide)]
    exact Or.inr ⟨fun g a b => by omega, _, rfl⟩
  | succ m ih =>
    intro i fb hi hfb
    obtain ⟨fb, rfl⟩ : ∃ z, fb = z + 1 := ⟨fb - 1, by omega⟩
    have hi22 : i < 22 := by omega
    obtain ⟨a1, a2, a3, a4, -⟩ := ww_1 i hi22
    obtain ⟨b1, b2⟩ := ww_2 i hi22
    obtain ⟨r, r1, r2, r3, r4, r5⟩ := md_w15 h hi22 (nI i) (wln i) 0 fm_fuel (by omega) (by unfold fm_fuel; omega) (by omega) (fun g hg => by omega)
    have w97 : ∀ l3 : Int32, G_X10_word_97 fm_fuel (nI i) l3 (nI (wst i)) B = some (nI (wst i + wln i), B) := fun l3 => md_w97 hi22 (nI i) l3 (wln i) 0 fm_fuel (by omega) (by unfold fm_fuel; omega)
    rw [G_X10_word_4, if_neg (show ¬ (111 : Int32) ≤ nI (wst i) from nI_ge (b := 111) (by omega) (by omega)), show G_X10_word_15 fm_fuel (nI i) (nI (wst i)) 0 B = _ from r3, fm_bd_s, nI_add, fm_gd_t (nu_inb (by omega) (by omega)), h1, h2, nI_add, w97, fm_bd_s, nI_1, nI_1, ← a4]
    have nx := ih (i + 1) fb (by omega) (by omega)
    have go : ¬ wM x l i → (∃ r : Nat, i ≤ r ∧ r < 22 ∧ wM x l r ∧ (∀ g, i ≤ g → g < r → ¬ wM x l g) ∧ G_X10_word_4 fb (nI (i + 1)) (nI (wst (i + 1))) B = some (.inr (nI r), B)) ∨ ((∀ g, i ≤ g → g < 22 → ¬ wM x l g) ∧ ∃ y, G_X10_word_4 fb (nI (i + 1)) (nI (wst (i + 1))) B = some (.inl y, B)) := by
      intro no
      rcases nx with ⟨r, q1, q2, q3, q4, q5⟩ | ⟨q1, q2⟩
      · refine Or.inl ⟨r, by omega, q2, q3, fun g a b => ?_, q5⟩
        by_cases y : g = i
        · rw [y]; exact no
        · exact q4 g (by omega) b
      · refine Or.inr ⟨fun g a b => ?_, q2⟩
        by_cases y : g = i
        · rw [y]; exact no
        · exact q1 g (by omega) b
    by_cases c1 : r = wln i
    · rw [if_pos (by rw [c1]; exact b1)]
      by_cases c2 : r = l
      · rw [if_pos (by rw [c2])]
        exact Or.inl ⟨i, Nat.le_refl _, hi22, ⟨by omega, fun g hg => r4 g (by omega)⟩, fun g a b => by omega, rfl⟩
      · rw [if_neg (fun z => c2 (by have := (nI_eq (by omega) (by omega)).mp z; omega))]
        exact go (fun z => c2 (by rw [z.1]; exact c1))
    · rw [if_neg (b2 r (by omega))]
      refine go (fun z => ?_)
      rcases r5 with q | q | q
      · exact c1 q
      · exact c1 (by rw [q]; exact z.1)
      · exact q (z.2 r (by
          have := z.1
          by_cases y : r = l
          · omega
          · omega))
theorem md_wordF {B : fm_M} {p l : Nat} {x : Nat → Nat} (h : wH B p l x) : (∃ r : Nat, r < 22 ∧ wM x l r ∧ (∀ g, g < r → ¬ wM x l g) ∧ F_X10_word B = some (nI r, B)) ∨ ((∀ g, g < 22 → ¬ wM x l g) ∧ F_X10_word B = some (-1, B)) := by
  rw [F_X10_word]
  rcases md_word h 22 0 fm_fuel (by omega) (by unfold fm_fuel; omega) with ⟨r, -, q2, q3, q4, q5⟩ | ⟨q1, y, q2⟩
  · rw [show G_X10_word_4 fm_fuel 0 0 B = _ from q5]
    exact Or.inl ⟨r, q2, q3, fun g hg => q4 g (by omega) hg, rfl⟩
  · rw [show G_X10_word_4 fm_fuel 0 0 B = _ from q2]
    exact Or.inr ⟨fun g hg => q1 g (by omega) hg, rfl⟩
/-- the class looks a word up -/
theorem cl_wordOf {A : fm_M} {v : Nat} (hw : iv_wd A) (hv : v < 2 ^ 30) : (∃ r : Nat, r < 22 ∧ wiv r = v ∧ (∀ g, g < r → ¬ wiv g = v) ∧ F_X6_wordOf (nI v) A = some (nI (17 + r), A)) ∨ ((∀ g, g < 22 → ¬ wiv g = v) ∧ F_X6_wordOf (nI v) A = some (3, A)) := by
  have lp : ∀ (m i fa : Nat), i + m = 22 → m < fa → (∃ r : Nat, i ≤ r ∧ r < 22 ∧ wiv r = v ∧ (∀ g, i ≤ g → g < r → ¬ wiv g = v) ∧ G_X6_wordOf_2 fa (nI v) (nI i) A = some (.inr (nI (17 + r)), A)) ∨ ((∀ g, i ≤ g → g < 22 → ¬ wiv g = v) ∧ ∃ y, G_X6_wordOf_2 fa (nI v) (nI i) A = some (.inl y, A)) := by
    intro m
    induction m with
    | zero =>
      intro i fa hi hfa
      obtain ⟨fa, rfl⟩ : ∃ z, fa = z + 1 := ⟨fa - 1, by omega⟩
      have : i = 22 := by omega
      subst this
      rw [G_X6_wordOf_2, if_pos (by decide)]
      exact Or.inr ⟨fun g a b => by omega, _, rfl⟩
    | succ m ih =>
      intro i fa hi hfa
      obtain ⟨fa, rfl⟩ : ∃ z, fa = z + 1 := ⟨fa - 1, by omega⟩
      obtain ⟨-, -, -, -, a5⟩ := ww_1 i (by omega)
      rw [G_X6_wordOf_2, if_neg (show ¬ (22 : Int32) ≤ nI i from nI_ge (b := 22) (by omega) (by omega)), fm_gd_t (nu_inb (by omega) (by omega)), nI_clamp (by omega), show A.1 3 i = nI (wiv i) from hw i (by omega), show (17 + nI i : Int32) = nI (17 + i) from nI_add 17 i, nI_1]
      by_cases c : wiv i = v
      · rw [if_pos (by rw [c])]
        exact Or.inl ⟨i, Nat.le_refl _, by omega, c, fun g a b => by omega, rfl⟩
      · rw [if_neg (fun z => c ((nI_eq (by omega) (by omega)).mp z))]
        rcases ih (i + 1) fa (by omega) (by omega) with ⟨r, q1, q2, q3, q4, q5⟩ | ⟨q1, q2⟩
        · refine Or.inl ⟨r, by omega, q2, q3, fun g a b => ?_, q5⟩
          by_cases y : g = i
          · rw [y]; exact c
          · exact q4 g (by omega) b
        · refine Or.inr ⟨fun g a b => ?_, q2⟩
          by_cases y : g = i
          · rw [y]; exact c
          · exact q1 g (by omega) b
  rw [F_X6_wordOf]
  rcases lp 22 0 fm_fuel (by omega) (by unfold fm_fuel; omega) with ⟨r, -, q2, q3, q4, q5⟩ | ⟨q1, y, q2⟩
  · rw [show G_X6_wordOf_2 fm_fuel (nI v) 0 A = _ from q5]
    exact Or.inl ⟨r, q2, q3, fun g hg => q4 g (by omega) hg, rfl⟩
  · rw [show G_X6_wordOf_2 fm_fuel (nI v) 0 A = _ from q2]
    exact Or.inr ⟨fun g hg => q1 g (by omega) hg, rfl⟩
/-- shifts and ors of letters -/
theorem or31 {a b : Nat} (ha : a < 2 ^ 31) (hb : b < 2 ^ 31) : nI a ||| nI b = nI (a ||| b) := by
  have hc : a ||| b < 2 ^ 31 := Nat.or_lt_two_pow ha hb
  apply Int32.toBitVec_inj.mp
  apply BitVec.eq_of_toNat_eq
  rw [Int32.toBitVec_or, BitVec.toNat_or, pk_tn (by omega), pk_tn (by omega), pk_tn (by omega)]
theorem or_add (i a b : Nat) (h : b < 2 ^ i) : 2 ^ i * a ||| b = 2 ^ i * a + b := (Nat.two_pow_add_eq_or_of_lt h a).symm
theorem cl_shl : ∀ j : Nat, j < 6 → ((((5 : Int32) * (5 - nI j)) &&& 31).toBitVec.smod 32).toNat = 5 * (5 - j) := by decide +kernel
theorem cl_let {a y j : Nat} (hj : j < 6) (ha : a < 32 ^ j) (hy : y < 32) : nI (a * 32 ^ (6 - j)) ||| (nI y <<< ((5 * (5 - nI j)) &&& 31)) = nI ((a * 32 + y) * 32 ^ (6 - (j + 1))) := by
  have e32 : ∀ k, (32 : Nat) ^ k = 2 ^ (5 * k) := fun k => by rw [show (32 : Nat) = 2 ^ 5 from rfl, ← Nat.pow_mul]
  have p1 : (32 : Nat) ^ (5 - j) ≤ 32 ^ 5 := Nat.pow_le_pow_right (by omega) (by omega)
  have p2 : (32 : Nat) ^ 5 = 33554432 := rfl
  have p3 : (32 : Nat) ^ (6 - j) = 32 * 32 ^ (5 - j) := by rw [show 6 - j = (5 - j) + 1 by omega, Nat.pow_succ']
  have p4 : y * 32 ^ (5 - j) < 32 * 32 ^ (5 - j) := Nat.mul_lt_mul_of_pos_right hy (Nat.pow_pos (by omega))
  have p5 : a * 32 ^ (6 - j) < 32 ^ 6 := by
    have : a * 32 ^ (6 - j) < 32 ^ j * 32 ^ (6 - j) := Nat.mul_lt_mul_of_pos_right ha (Nat.pow_pos (by omega))
    rw [← Nat.pow_add, show j + (6 - j) = 6 by omega] at this
    exact this
  have p6 : (32 : Nat) ^ 6 = 1073741824 := rfl
  rw [pk_shlN _ (5 * (5 - j)) (cl_shl j hj) (by rw [← e32]; omega), ← e32, or31 (by omega) (by omega), Nat.mul_comm a, e32 (6 - j), or_add _ _ _ (by rw [← e32]; omega), ← e32, show 6 - (j + 1) = 5 - j by omega, p3, Nat.add_mul]
  congr 1
  rw [Nat.mul_comm (32 * 32 ^ (5 - j)) a, Nat.mul_assoc a 32]
