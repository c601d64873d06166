/-! WHAT HOLDS BETWEEN TWO CALLS: the class's places of A beside the reference's of B -/
def iv_td (A B : fm_M) (t nf nm : Nat) : Prop :=
  (fm_isTd t = true ∧ nf ≤ 8 ∧ nm ≤ 10 ∧ A.1 t 0 = nI nf ∧ B.1 78 0 = nI nf ∧ A.1 t 7 = nI nm ∧ B.1 78 1 = nI nm) ∧
  (rl_w A B t ∧ ∀ r, r < 3 → ev_law A B (t + 10) r) ∧
  (A.1 t 13 = B.1 78 2 ∧ A.1 t 14 = B.1 78 4 ∧ A.1 t 15 = B.1 78 5 ∧ A.1 t 16 = B.1 78 6 ∧ A.1 t 6 = B.1 78 9 ∧ A.1 (t + 10) 5 = B.1 78 8) ∧
  ((∃ z : Nat, z ≤ 99 ∧ A.1 t 13 = nI z) ∧ (∃ z : Nat, z ≤ 99 ∧ A.1 t 15 = nI z) ∧ (∃ z : Nat, z ≤ 9 ∧ A.1 t 16 = nI z) ∧ (∃ z : Nat, z < 256 ∧ A.1 t 6 = nI z)) ∧
  (∀ f, f < nf → A.1 (t + 1) f = B.1 79 f ∧ A.1 (t + 2) f = B.1 80 f ∧ A.1 (t + 3) f = B.1 81 f ∧ A.1 (t + 4) f = B.1 82 f ∧ A.1 (t + 5) f = B.1 83 f ∧ (0 ≤ B.1 82 f ∧ B.1 82 f ≤ 9) ∧ ∃ x : Nat, 100 ≤ x ∧ x ≤ 999 ∧ A.1 (t + 2) f = nI x) ∧
  (∀ m, m < nm → A.1 (t + 6) m = B.1 84 m ∧ A.1 (t + 7) m = B.1 85 m ∧ A.1 (t + 8) m = B.1 86 m ∧ ∃ x : Nat, x ≤ 99 ∧ A.1 (t + 8) m = nI x)
def iv_st (A B : fm_M) (p c nf nm : Nat) : Prop :=
  (A.1 p 0 = B.1 94 c ∧ A.1 p 2 = B.1 95 c ∧ A.1 p 3 = B.1 96 c ∧ A.1 p 4 = B.1 97 c) ∧
  (∀ f, f < nf → A.1 (p + 1) f = B.1 98 (8 * c + f)) ∧
  (∀ m, m < nm → A.1 (p + 3) m = B.1 99 (10 * c + m) ∧ A.1 (p + 4) m = B.1 100 (10 * c + m) ∧ A.1 (p + 5) m = B.1 101 (10 * c + m))
def iv_so (A B : fm_M) (t p nf nm : Nat) : Prop :=
  (A.1 p 5 = A.1 t 6 ∧ A.1 p 6 = -1 ∧ A.1 p 7 = 1) ∧ (∀ f, f < nf → A.1 (p + 2) f = A.1 (t + 3) f) ∧ rl_v A p nm ∧ (∀ f, f < nf → ∃ x : Nat, 100 ≤ x ∧ x ≤ 999 ∧ A.1 (p + 1) f = nI x) ∧
  (∃ dd : Nat, dd ≤ 9900 ∧ A.1 p 0 = nI dd ∧ A.1 p 1 = md_wet B (nI dd)) ∧ (∃ z : Nat, z < 256 ∧ A.1 p 4 = nI z)
def iv_md (B : fm_M) : Prop := B.1 76 43 = 0 ∧ B.1 76 44 = -1 ∧ B.1 76 45 = -1 ∧ B.1 76 46 = -1
def iv_dl (A B : fm_M) (t nf nm j c1 c2 : Nat) : Prop :=
  B.1 94 c1 = B.1 94 c2 ∧ (∃ z : Nat, z < 256 ∧ B.1 97 c1 = nI z) ∧ (∀ f, f < nf → ∃ x : Nat, 100 ≤ x ∧ x ≤ 999 ∧ B.1 98 (8 * c1 + f) = nI x) ∧
  (∀ m, m < nm → B.1 100 (10 * c1 + m) = B.1 100 (10 * c2 + m) ∧ B.1 101 (10 * c1 + m) = B.1 101 (10 * c2 + m)) ∧
  ((A.1 60 j = 0 ∧ B.1 95 c1 = B.1 95 c2 ∧ B.1 96 c1 = B.1 96 c2 ∧ B.1 97 c1 = B.1 97 c2 ^^^ ((1 : Int32) <<< (A.1 61 j &&& 31)) ∧ (∀ f, f < nf → B.1 98 (8 * c1 + f) = B.1 98 (8 * c2 + f)) ∧ (∀ m, m < nm → B.1 99 (10 * c1 + m) = B.1 99 (10 * c2 + m))) ∨
   (A.1 60 j = 1 ∧ B.1 95 c1 = B.1 95 c2 - (-(A.1 t 15)) * i_abs (A.1 62 j) ∧ B.1 96 c1 = B.1 96 c2 + (-(A.1 t 15)) * i_abs (A.1 62 j) ∧ B.1 97 c1 = B.1 97 c2 ∧ (∃ g, g < nf ∧ A.1 61 j = nI g ∧ B.1 98 (8 * c1 + g) = B.1 98 (8 * c2 + g) + (-(A.1 62 j)) ∧ ∀ f, f < nf → f ≠ g → B.1 98 (8 * c1 + f) = B.1 98 (8 * c2 + f)) ∧ (∀ m, m < nm → B.1 99 (10 * c1 + m) = B.1 99 (10 * c2 + m))) ∨
   (A.1 60 j = 2 ∧ B.1 95 c1 = B.1 95 c2 ∧ B.1 96 c1 = B.1 96 c2 ∧ B.1 97 c1 = B.1 97 c2 ∧ (∀ f, f < nf → B.1 98 (8 * c1 + f) = B.1 98 (8 * c2 + f)) ∧ (∃ g, g < nm ∧ A.1 61 j = nI g ∧ B.1 99 (10 * c1 + g) = A.1 62 j ∧ ∀ m, m < nm → m ≠ g → B.1 99 (10 * c1 + m) = B.1 99 (10 * c2 + m))) ∨
   (A.1 60 j = 3 ∧ B.1 95 c1 = B.1 95 c2 - A.1 62 j ∧ B.1 96 c1 = B.1 96 c2 ∧ B.1 97 c1 = B.1 97 c2 ∧ (∀ f, f < nf → B.1 98 (8 * c1 + f) = B.1 98 (8 * c2 + f)) ∧ (∀ m, m < nm → B.1 99 (10 * c1 + m) = B.1 99 (10 * c2 + m))))
def iv_dd (A B : fm_M) (t nf nm k : Nat) : Prop := k ≤ 20 ∧ A.1 59 3 = nI k ∧ B.1 76 42 = nI k ∧ ∀ j, j < k → iv_dl A B t nf nm j (3 + j) (if j + 1 = k then 0 else 3 + (j + 1))
def iv_mn (A B : fm_M) (nm k : Nat) : Prop := k ≤ 24 ∧ A.1 63 2 = nI k ∧ B.1 76 55 = nI k ∧ A.1 63 3 = B.1 76 56 ∧ (A.1 63 3 = -1 ∨ ∃ n : Nat, n ≤ k ∧ A.1 63 3 = nI n) ∧
  ∀ i, i < k → (B.1 108 i = -1 ∧ (∃ m : Nat, m < nm ∧ A.1 65 i = nI m ∧ B.1 106 i = nI m) ∧ (A.1 64 i = 0 ∨ A.1 64 i = 1) ∧ B.1 107 i = A.1 64 i) ∨ (A.1 64 i = 2 ∧ ∃ j : Nat, j < i ∧ A.1 65 i = nI j ∧ B.1 108 i = nI j)
def iv_tp (A B : fm_M) : Prop := ∃ k : Nat, k ≤ 700 ∧ A.1 1 2 = nI k ∧ B.1 76 2 = nI k ∧ ∀ i, i < k → ∃ z : Nat, z < 256 ∧ B.1 77 i = nI z ∧ A.1 2 i = (nI z).toInt8.toInt32
def iv_im (A B : fm_M) (t nf nm : Nat) : Prop := (A.1 0 5 = 0 ∨ A.1 0 5 = 1) ∧ A.1 0 5 = B.1 76 41 ∧ (A.1 0 5 = 1 → iv_st A B 52 2 nf nm ∧ iv_so A B t 52 nf nm)
def iv_words : List Nat := [217656320, 119573856, 452601326, 672215200, 777650176, 559500448, 626643744, 642945024, 404455424, 290881536, 626642944, 538561536, 522190848, 48365568, 486146048, 546966784, 486151168, 781340928, 419074048, 72405600, 135708672, 136085504]
def iv_wd (A : fm_M) : Prop := ∀ i, i < 22 → A.1 3 i = nI (iv_words[i]?.getD 0)
def iv_all (A B : fm_M) (t nf nm kd km : Nat) : Prop :=
  (A.1 0 1 = nI t ∧ A.1 1 5 = nI (25 - t) ∧ iv_wd A) ∧ iv_tp A B ∧ (A.1 1 3 = B.1 76 26 ∧ A.1 1 4 = B.1 76 27) ∧ iv_td A B t nf nm ∧ iv_st A B 38 0 nf nm ∧ iv_so A B t 38 nf nm ∧ iv_im A B t nf nm ∧ iv_dd A B t nf nm kd ∧ iv_mn A B nm km ∧ iv_md B
def Inv (A B : fm_M) : Prop := ∃ t nf nm kd km, iv_all A B t nf nm kd km
theorem iv_td_cg {A B A2 B2 : fm_M} {t nf nm : Nat} (h : iv_td A B t nf nm) (hA : ∀ q k, t ≤ q → q ≤ t + 14 → A2.1 q k = A.1 q k) (hB : ∀ q k, 78 ≤ q → q ≤ 91 → B2.1 q k = B.1 q k) : iv_td A2 B2 t nf nm := by
  obtain ⟨h1, ⟨h2, h3⟩, h4, h5, h6, h7⟩ := h
  refine ⟨?_, ⟨rl_w_cg h2 (fun q k z => hA q k (by omega) (by omega)) (fun q k z => hB q k (by omega) (by omega)), fun r hr => ev_law_cg (h3 r hr) (fun q k a b => hA q k (by omega) (by omega)) (fun q k a b => hB q k (by omega) (by omega))⟩, ?_, ?_, fun f hf => ?_, fun m hm => ?_⟩
  · simp (disch := omega) only [hA, hB]; exact h1
  · simp (disch := omega) only [hA, hB]; exact h4
  · simp (disch := omega) only [hA, hB]; exact h5
  · simp (disch := omega) only [hA, hB]; exact h6 f hf
  · simp (disch := omega) only [hA, hB]; exact h7 m hm
theorem iv_st_cg {A B A2 B2 : fm_M} {p c nf nm : Nat} (h : iv_st A B p c nf nm) (hnf : nf ≤ 8) (hnm : nm ≤ 10) (hA : ∀ q k, p ≤ q → q ≤ p + 5 → A2.1 q k = A.1 q k) (hB : ∀ q k, md_cc c q k → B2.1 q k = B.1 q k) : iv_st A2 B2 p c nf nm := by
  obtain ⟨h1, h2, h3⟩ := h
  refine ⟨?_, fun f hf => ?_, fun m hm => ?_⟩
  · rw [hB 94 c (by unfold md_cc; omega), hB 95 c (by unfold md_cc; omega), hB 96 c (by unfold md_cc; omega), hB 97 c (by unfold md_cc; omega)]
    simp (disch := omega) only [hA]; exact h1
  · rw [hB 98 _ (by unfold md_cc; omega)]
    simp (disch := omega) only [hA]; exact h2 f hf
  · rw [hB 99 _ (by unfold md_cc; omega), hB 100 _ (by unfold md_cc; omega), hB 101 _ (by unfold md_cc; omega)]
    simp (disch := omega) only [hA]; exact h3 m hm
theorem iv_so_cg {A B A2 B2 : fm_M} {t p nf nm : Nat} (h : iv_so A B t p nf nm) (hA : ∀ q k, (p ≤ q ∧ q ≤ p + 5) ∨ q = t ∨ q = t + 3 → A2.1 q k = A.1 q k) (hB : ∀ q k, q = 78 ∨ q = 87 → B2.1 q k = B.1 q k) : iv_so A2 B2 t p nf nm := by
  obtain ⟨h1, h2, h3, h4, h5, h6⟩ := h
  refine ⟨?_, fun f hf => ?_, fun m hm => ?_, fun f hf => ?_, ?_, ?_⟩
  · simp (disch := omega) only [hA]; exact h1
  · simp (disch := omega) only [hA]; exact h2 f hf
  · simp (disch := omega) only [hA]; exact h3 m hm
  · simp (disch := omega) only [hA]; exact h4 f hf
  · simp (disch := omega) only [hA]
    obtain ⟨dd, x1, x2, x3⟩ := h5
    exact ⟨dd, x1, x2, by rw [x3, md_wet_cg hB]⟩
  · simp (disch := omega) only [hA]; exact h6
def iv_ec (B B2 : fm_M) (c d : Nat) : Prop := (B2.1 94 d = B.1 94 c ∧ B2.1 95 d = B.1 95 c ∧ B2.1 96 d = B.1 96 c ∧ B2.1 97 d = B.1 97 c) ∧ (∀ f, f < 8 → B2.1 98 (8 * d + f) = B.1 98 (8 * c + f)) ∧ (∀ m, m < 10 → B2.1 99 (10 * d + m) = B.1 99 (10 * c + m) ∧ B2.1 100 (10 * d + m) = B.1 100 (10 * c + m) ∧ B2.1 101 (10 * d + m) = B.1 101 (10 * c + m))
theorem iv_ec_cg {B B2 : fm_M} {c : Nat} (hB : ∀ q k, md_cc c q k → B2.1 q k = B.1 q k) : iv_ec B B2 c c := by
  refine ⟨⟨?_, ?_, ?_, ?_⟩, fun f hf => ?_, fun m hm => ⟨?_, ?_, ?_⟩⟩ <;> exact hB _ _ (by unfold md_cc; omega)
theorem iv_ec_tr {B B2 B3 : fm_M} {c d e : Nat} (h : iv_ec B B2 c d) (g : iv_ec B2 B3 d e) : iv_ec B B3 c e := by
  obtain ⟨⟨a1, a2, a3, a4⟩, a5, a6⟩ := h
  obtain ⟨⟨b1, b2, b3, b4⟩, b5, b6⟩ := g
  refine ⟨⟨by rw [b1, a1], by rw [b2, a2], by rw [b3, a3], by rw [b4, a4]⟩, fun f hf => by rw [b5 f hf, a5 f hf], fun m hm => ⟨by rw [(b6 m hm).1, (a6 m hm).1], by rw [(b6 m hm).2.1, (a6 m hm).2.1], by rw [(b6 m hm).2.2, (a6 m hm).2.2]⟩⟩
theorem iv_dl_cg {A B A2 B2 : fm_M} {t nf nm j c1 c2 j2 d1 d2 : Nat} (h : iv_dl A B t nf nm j c1 c2) (hnf : nf ≤ 8) (hnm : nm ≤ 10) (h60 : A2.1 60 j2 = A.1 60 j) (h61 : A2.1 61 j2 = A.1 61 j) (h62 : A2.1 62 j2 = A.1 62 j) (ht : A2.1 t 15 = A.1 t 15) (e1 : iv_ec B B2 c1 d1) (e2 : iv_ec B B2 c2 d2) : iv_dl A2 B2 t nf nm j2 d1 d2 := by
  obtain ⟨⟨a1, a2, a3, a4⟩, a5, a6⟩ := e1
  obtain ⟨⟨b1, b2, b3, b4⟩, b5, b6⟩ := e2
  have a5' : ∀ f, f < nf → B2.1 98 (8 * d1 + f) = B.1 98 (8 * c1 + f) := fun f hf => a5 f (by omega)
  have b5' : ∀ f, f < nf → B2.1 98 (8 * d2 + f) = B.1 98 (8 * c2 + f) := fun f hf => b5 f (by omega)
  have a9 : ∀ f, f < nm → B2.1 99 (10 * d1 + f) = B.1 99 (10 * c1 + f) := fun f hf => (a6 f (by omega)).1
  have b9 : ∀ f, f < nm → B2.1 99 (10 * d2 + f) = B.1 99 (10 * c2 + f) := fun f hf => (b6 f (by omega)).1
  obtain ⟨h1, h2, h3, h4, h5⟩ := h
  refine ⟨by rw [a1, b1]; exact h1, by rw [a4]; exact h2, fun f hf => by rw [a5' f hf]; exact h3 f hf, fun m hm => by rw [(a6 m (by omega)).2.1, (a6 m (by omega)).2.2, (b6 m (by omega)).2.1, (b6 m (by omega)).2.2]; exact h4 m hm, ?_⟩
  rw [h60, h61, h62, ht, a2, b2, a3, b3, a4, b4]
  rcases h5 with ⟨y0, y1, y2, y3, y4, y5⟩ | ⟨y0, y1, y2, y3, ⟨g, g1, g2, g3, g4⟩, y5⟩ | ⟨y0, y1, y2, y3, y4, ⟨g, g1, g2, g3, g4⟩⟩ | ⟨y0, y1, y2, y3, y4, y5⟩
  · exact Or.inl ⟨y0, y1, y2, y3, fun f hf => by rw [a5' f hf, b5' f hf]; exact y4 f hf, fun m hm => by rw [a9 m hm, b9 m hm]; exact y5 m hm⟩
  · exact Or.inr (Or.inl ⟨y0, y1, y2, y3, ⟨g, g1, g2, by rw [a5' g g1, b5' g g1]; exact g3, fun f hf hn => by rw [a5' f hf, b5' f hf]; exact g4 f hf hn⟩, fun m hm => by rw [a9 m hm, b9 m hm]; exact y5 m hm⟩)
  · exact Or.inr (Or.inr (Or.inl ⟨y0, y1, y2, y3, fun f hf => by rw [a5' f hf, b5' f hf]; exact y4 f hf, ⟨g, g1, g2, by rw [a9 g g1]; exact g3, fun f hf hn => by rw [a9 f hf, b9 f hf]; exact g4 f hf hn⟩⟩))
  · exact Or.inr (Or.inr (Or.inr ⟨y0, y1, y2, y3, fun f hf => by rw [a5' f hf, b5' f hf]; exact y4 f hf, fun m hm => by rw [a9 m hm, b9 m hm]; exact y5 m hm⟩))
/-- the cells that Inv speaks of -/
def iv_pA (q k : Nat) : Prop := q = 0 ∨ (q = 1 ∧ 2 ≤ k ∧ k ≤ 5) ∨ q = 2 ∨ q = 3 ∨ (4 ≤ q ∧ q ≤ 18) ∨ (21 ≤ q ∧ q ≤ 35) ∨ (38 ≤ q ∧ q ≤ 43) ∨ (52 ≤ q ∧ q ≤ 57) ∨ (59 ≤ q ∧ q ≤ 62) ∨ (q = 63 ∧ k ≤ 3) ∨ q = 64 ∨ q = 65
def iv_pB (q k : Nat) : Prop := (q = 76 ∧ (k = 2 ∨ k = 26 ∨ k = 27 ∨ (41 ≤ k ∧ k ≤ 46) ∨ k = 55 ∨ k = 56)) ∨ q = 77 ∨ (78 ≤ q ∧ q ≤ 91) ∨ (94 ≤ q ∧ q ≤ 97 ∧ k ≠ 1) ∨ (q = 98 ∧ ¬ (8 ≤ k ∧ k < 16)) ∨ (99 ≤ q ∧ q ≤ 101 ∧ ¬ (10 ≤ k ∧ k < 20)) ∨ (106 ≤ q ∧ q ≤ 108)
theorem iv_mn_cg {A B A2 B2 : fm_M} {nm k : Nat} (h : iv_mn A B nm k) (hA : ∀ q k, (q = 63 ∧ k ≤ 3) ∨ q = 64 ∨ q = 65 → A2.1 q k = A.1 q k) (hB : ∀ q k, (q = 76 ∧ (k = 55 ∨ k = 56)) ∨ (106 ≤ q ∧ q ≤ 108) → B2.1 q k = B.1 q k) : iv_mn A2 B2 nm k := by
  unfold iv_mn at h ⊢
  simp (disch := omega) only [hA, hB]
  exact h
theorem iv_im_cg {A B A2 B2 : fm_M} {t nf nm : Nat} (h : iv_im A B t nf nm) (hnf : nf ≤ 8) (hnm : nm ≤ 10) (hA : ∀ q k, q = 0 ∨ (52 ≤ q ∧ q ≤ 57) ∨ q = t ∨ q = t + 3 → A2.1 q k = A.1 q k) (hB : ∀ q k, (q = 76 ∧ k = 41) ∨ q = 78 ∨ q = 87 ∨ md_cc 2 q k → B2.1 q k = B.1 q k) : iv_im A2 B2 t nf nm := by
  obtain ⟨h1, h2, h3⟩ := h
  refine ⟨by rw [hA 0 5 (by omega)]; exact h1, by rw [hA 0 5 (by omega), hB 76 41 (by omega)]; exact h2, fun z => ?_⟩
  rw [hA 0 5 (by omega)] at z
  obtain ⟨h4, h5⟩ := h3 z
  exact ⟨iv_st_cg h4 hnf hnm (fun q k a b => hA q k (by omega)) (fun q k a => hB q k (Or.inr (Or.inr (Or.inr a)))), iv_so_cg h5 (fun q k a => hA q k (by omega)) (fun q k a => hB q k (by omega))⟩
theorem iv_tp_cg {A B A2 B2 : fm_M} (h : iv_tp A B) (hA : ∀ q k, (q = 1 ∧ k = 2) ∨ q = 2 → A2.1 q k = A.1 q k) (hB : ∀ q k, (q = 76 ∧ k = 2) ∨ q = 77 → B2.1 q k = B.1 q k) : iv_tp A2 B2 := by
  obtain ⟨k, h1, h2, h3, h4⟩ := h
  refine ⟨k, h1, by rw [hA _ _ (by omega)]; exact h2, by rw [hB _ _ (by omega)]; exact h3, fun i hi => ?_⟩
  rw [hA _ _ (by omega), hB _ _ (by omega)]
  exact h4 i hi
theorem iv_dd_cg {A B A2 B2 : fm_M} {t nf nm k : Nat} (h : iv_dd A B t nf nm k) (hnf : nf ≤ 8) (hnm : nm ≤ 10) (hA : ∀ q k, (59 ≤ q ∧ q ≤ 62) ∨ q = t → A2.1 q k = A.1 q k) (hB : ∀ q k, (q = 76 ∧ k = 42) ∨ ((94 ≤ q ∧ q ≤ 97 ∧ k ≠ 1 ∧ k ≠ 2) ∨ (q = 98 ∧ ¬ (8 ≤ k ∧ k < 24)) ∨ (99 ≤ q ∧ q ≤ 101 ∧ ¬ (10 ≤ k ∧ k < 30))) → B2.1 q k = B.1 q k) : iv_dd A2 B2 t nf nm k := by
  obtain ⟨h1, h2, h3, h4⟩ := h
  have ec : ∀ c, c ≠ 1 → c ≠ 2 → iv_ec B B2 c c := fun c a b => iv_ec_cg (fun q k z => hB q k (by unfold md_cc at z; omega))
  refine ⟨h1, by rw [hA _ _ (by omega)]; exact h2, by rw [hB _ _ (by omega)]; exact h3, fun j hj => ?_⟩
  refine iv_dl_cg (h4 j hj) hnf hnm (hA _ _ (by omega)) (hA _ _ (by omega)) (hA _ _ (by omega)) (hA _ _ (by omega)) (ec _ (by omega) (by omega)) ?_
  by_cases z : j + 1 = k
  · rw [if_pos z]; exact ec 0 (by omega) (by omega)
  · rw [if_neg z]; exact ec _ (by omega) (by omega)
theorem iv_cg {A B A2 B2 : fm_M} {t nf nm kd km : Nat} (h : iv_all A B t nf nm kd km) (hA : ∀ q k, iv_pA q k → A2.1 q k = A.1 q k) (hB : ∀ q k, iv_pB q k → B2.1 q k = B.1 q k) : iv_all A2 B2 t nf nm kd km := by
  obtain ⟨⟨h1, h2, h3⟩, h4, h5, h6, h7, h8, h9, h10, h11, h12⟩ := h
  have ht := fm_td h6.1.1
  have hnf := h6.1.2.1
  have hnm := h6.1.2.2.1
  refine ⟨⟨by rw [hA 0 1 (by unfold iv_pA; omega)]; exact h1, by rw [hA 1 5 (by unfold iv_pA; omega)]; exact h2, fun i hi => by rw [hA 3 i (by unfold iv_pA; omega)]; exact h3 i hi⟩, iv_tp_cg h4 (fun q k z => hA q k (by unfold iv_pA; omega)) (fun q k z => hB q k (by unfold iv_pB; omega)), ?_, iv_td_cg h6 (fun q k a b => hA q k (by unfold iv_pA; omega)) (fun q k a b => hB q k (by unfold iv_pB; omega)), iv_st_cg h7 hnf hnm (fun q k a b => hA q k (by unfold iv_pA; omega)) (fun q k a => hB q k (by unfold md_cc at a; unfold iv_pB; omega)), iv_so_cg h8 (fun q k a => hA q k (by unfold iv_pA; omega)) (fun q k a => hB q k (by unfold iv_pB; omega)), iv_im_cg h9 hnf hnm (fun q k a => hA q k (by unfold iv_pA; omega)) (fun q k a => hB q k (by unfold md_cc at a; unfold iv_pB; omega)), iv_dd_cg h10 hnf hnm (fun q k a => hA q k (by unfold iv_pA; omega)) (fun q k a => hB q k (by unfold iv_pB; omega)), iv_mn_cg h11 (fun q k a => hA q k (by unfold iv_pA; omega)) (fun q k a => hB q k (by unfold iv_pB; omega)), ?_⟩
  · rw [hA 1 3 (by unfold iv_pA; omega), hA 1 4 (by unfold iv_pA; omega), hB 76 26 (by unfold iv_pB; omega), hB 76 27 (by unfold iv_pB; omega)]; exact h5
  · unfold iv_md
    rw [hB 76 43 (by unfold iv_pB; omega), hB 76 44 (by unfold iv_pB; omega), hB 76 45 (by unfold iv_pB; omega), hB 76 46 (by unfold iv_pB; omega)]
    exact h12
/-- from what holds between calls to what a day asks -/
theorem iv_d {A B : fm_M} {t nf nm p c : Nat} (h1 : iv_td A B t nf nm) (h2 : iv_st A B p c nf nm) (h3 : iv_so A B t p nf nm) (h4 : iv_md B) (hp : fm_isSt p = true) (hc : c < 23) : rl_d A B p t c nf nm ∧ A.1 p 1 = md_damp B c := by
  obtain ⟨⟨a1, a2, a3, a4, a5, a6, a7⟩, ⟨b1, b2⟩, ⟨c1, c2, c3, c4, c5, c6⟩, -, d1, d2⟩ := h1
  obtain ⟨⟨s1, s2, s3, s4⟩, s5, s6⟩ := h2
  obtain ⟨⟨o1, o2, o3⟩, o4, o5, o6, ⟨dd, o7, o8, o9⟩, o10⟩ := h3
  obtain ⟨m1, m2, m3, m4⟩ := h4
  obtain ⟨nw, w1, w2, w3, w4⟩ := id b1
  have n2 : ¬ B.1 76 43 = 2 := by rw [m1]; decide
  have n3 : ¬ B.1 76 43 = 3 := by rw [m1]; decide
  have n4 : B.1 76 43 ≠ 4 := by rw [m1]; decide
  have n5 : B.1 76 43 ≠ 5 := by rw [m1]; decide
  have n1 : ¬ B.1 76 43 = 1 := by rw [m1]; decide
  have hdd : B.1 94 c = nI dd := by rw [← s1]; exact o8
  refine ⟨⟨⟨hp, a1, ⟨hc, ⟨nw, w1, w3⟩, dd, by omega, hdd⟩, a2, b2, s1⟩, fun f hf => ?_, ⟨a4, a5, a6, a7, a3, c1, c4, ⟨fun z => absurd z (by rw [o3]; decide), fun z => absurd z n3⟩⟩, fun m hm => ⟨(d2 m hm).2.1, s6 m hm⟩⟩, by rw [o9, md_damp_w n1 m3 hdd]⟩
  obtain ⟨x1, x2, x3, x4, x5, x6, x7⟩ := d1 f hf
  have hw : md_width B f = B.1 81 f := by
    unfold md_width
    rw [m4, if_neg (fun z => absurd (z ▸ nI_pos (show f < 2 ^ 31 by omega)) (by decide))]
  refine ⟨s5 f hf, by rw [o4 f hf, hw]; exact x3, x4, x6, ⟨fun z => ?_, fun z => absurd z.1 n2⟩, by rw [s4]; exact ⟨fun z => ⟨n5, z⟩, fun z => z.2⟩, by rw [o1, c5]; exact ⟨fun z => ⟨n4, z⟩, fun z => z.2⟩⟩
  rw [o2] at z
  exact absurd (z ▸ nI_pos (show f < 2 ^ 31 by omega)) (by decide)
