/-! a day: motions are struck; class and reference -/
def rl_d (A B : fm_M) (p t c nf nm : Nat) : Prop :=
  (fm_isSt p = true ∧ fm_isTd t = true ∧ md_ok B c ∧ nf ≤ 8 ∧ (∀ r, r < 3 → ev_law A B (t + 10) r) ∧ A.1 p 0 = B.1 94 c) ∧
  (∀ f, f < nf → A.1 (p + 1) f = B.1 98 (8 * c + f) ∧ A.1 (p + 2) f = md_width B f ∧ A.1 (t + 4) f = B.1 82 f ∧ (0 ≤ B.1 82 f ∧ B.1 82 f ≤ 9) ∧ (nI f = A.1 p 6 ↔ (B.1 76 43 = 2 ∧ nI f = B.1 76 44)) ∧ (rl_bit (A.1 p 4) f = 1 ↔ (B.1 76 43 ≠ 5 ∧ rl_bit (B.1 97 c) f = 1)) ∧ (rl_bit (A.1 p 5) f = 1 ↔ (B.1 76 43 ≠ 4 ∧ rl_bit (B.1 78 9) f = 1))) ∧
  (A.1 t 0 = nI nf ∧ B.1 78 0 = nI nf ∧ A.1 t 7 = nI nm ∧ B.1 78 1 = nI nm ∧ nm ≤ 10 ∧ A.1 t 13 = B.1 78 2 ∧ A.1 t 16 = B.1 78 6 ∧ (A.1 p 7 = 0 ↔ B.1 76 43 = 3)) ∧
  ∀ m, m < nm → A.1 (t + 7) m = B.1 85 m ∧ A.1 (p + 3) m = B.1 99 (10 * c + m) ∧ A.1 (p + 4) m = B.1 100 (10 * c + m) ∧ A.1 (p + 5) m = B.1 101 (10 * c + m)
theorem rl_d.h {A B : fm_M} {p t c nf nm : Nat} (h : rl_d A B p t c nf nm) (hd : A.1 p 1 = md_damp B c) : rl_h A B p t c nf := by
  obtain ⟨⟨a1, a2, a3, a4, a5, a6⟩, b, -, -⟩ := h
  exact ⟨a1, a2, a3, a4, a5, a6, hd, b⟩
/-- what a struck motion may change -/
theorem rl_d_mk {A B A2 B2 : fm_M} {p t c nf nm : Nat} (h : rl_d A B p t c nf nm) (hA : ∀ q k, q ≠ p + 4 → q ≠ p + 5 → q ≠ t + 15 → A2.1 q k = A.1 q k) (hB : ∀ q k, q ≠ 100 → q ≠ 101 → (q ≠ 76 ∨ k ≠ 32) → B2.1 q k = B.1 q k) (hm : ∀ m, m < nm → A2.1 (p + 4) m = B2.1 100 (10 * c + m) ∧ A2.1 (p + 5) m = B2.1 101 (10 * c + m)) : rl_d A2 B2 p t c nf nm ∧ A2.1 p 1 = A.1 p 1 ∧ md_damp B2 c = md_damp B c := by
  obtain ⟨⟨hp, ht, ⟨o1, ⟨nw, o2, o3⟩, dd, o4, o5⟩, hnf, hlw, hday⟩, hfk, ⟨c1, c2, c3, c4, c5, c6, c7, c8⟩, hmo⟩ := h
  have pn := rl_pne hp ht
  have aT : ∀ j k, j ≤ 14 → A2.1 (t + j) k = A.1 (t + j) k := fun j k hj => hA _ _ (fun z => pn 4 j (by omega) (by omega) z.symm) (fun z => pn 5 j (by omega) (by omega) z.symm) (by omega)
  have aP : ∀ j k, j ≤ 3 → A2.1 (p + j) k = A.1 (p + j) k := fun j k hj => hA _ _ (by omega) (by omega) (pn j 15 (by omega) (by omega))
  have aT0 : ∀ k, A2.1 t k = A.1 t k := fun k => aT 0 k (by omega)
  have aP0 : ∀ k, A2.1 p k = A.1 p k := fun k => aP 0 k (by omega)
  have bb : ∀ q k, q < 100 → q ≠ 76 → B2.1 q k = B.1 q k := fun q k h1 h2 => hB q k (by omega) (by omega) (Or.inl h2)
  have b76 : ∀ k, k ≠ 32 → B2.1 76 k = B.1 76 k := fun k h1 => hB 76 k (by omega) (by omega) (Or.inr h1)
  have hdm : md_damp B2 c = md_damp B c := by
    unfold md_damp md_wet
    rw [b76 43 (by omega), b76 45 (by omega), bb 78 3 (by omega) (by omega), bb 94 c (by omega) (by omega), bb 87 _ (by omega) (by omega)]
  refine ⟨⟨⟨hp, ht, ⟨o1, ⟨nw, o2, by rw [bb 78 3 (by omega) (by omega)]; exact o3⟩, dd, o4, by rw [bb 94 c (by omega) (by omega)]; exact o5⟩, hnf, fun r hr => ev_law_cg (hlw r hr) (fun q k h1 h2 => ?_) (fun q k _ _ => bb q k (by omega) (by omega)), ?_⟩, fun f hf => ?_, ?_, fun m hmm => ?_⟩, aP0 1, hdm⟩
  · obtain ⟨j, rfl⟩ : ∃ j, q = t + j := ⟨q - t, by omega⟩
    exact aT j k (by omega)
  · rw [aP0 0, bb 94 c (by omega) (by omega)]; exact hday
  · have hw : md_width B2 f = md_width B f := by
      unfold md_width
      rw [b76 46 (by omega), b76 47 (by omega), bb 81 f (by omega) (by omega)]
    rw [aP 1 f (by omega), bb 98 _ (by omega) (by omega), aP 2 f (by omega), hw, aT 4 f (by omega), bb 82 f (by omega) (by omega), aP0 6, b76 43 (by omega), b76 44 (by omega), aP0 4, bb 97 c (by omega) (by omega), aP0 5, bb 78 9 (by omega) (by omega)]
    exact hfk f hf
  · rw [aT0 0, bb 78 0 (by omega) (by omega), aT0 7, bb 78 1 (by omega) (by omega), aT0 13, bb 78 2 (by omega) (by omega), aT0 16, bb 78 6 (by omega) (by omega), aP0 7, b76 43 (by omega)]
    exact ⟨c1, c2, c3, c4, c5, c6, c7, c8⟩
  · rw [aT 7 m (by omega), bb 85 m (by omega) (by omega), aP 3 m (by omega), bb 99 _ (by omega) (by omega)]
    exact ⟨(hmo m hmm).1, (hmo m hmm).2.1, (hm m hmm).1, (hm m hmm).2⟩
/-- the reference's council c alone is changed by a strike -/
def md_k1 (c q k : Nat) : Prop := (q = 76 ∧ k = 32) ∨ ((q = 100 ∨ q = 101) ∧ 10 * c ≤ k ∧ k < 10 * c + 10)
theorem rl_strikes {A B : fm_M} {p t c nf nm i : Nat} (h : rl_d A B p t c nf nm) (hd : A.1 p 1 = md_damp B c) (hi : i < nm) :
    ∃ (v : Nat) (g : Int32) (A1 A2 B2 : fm_M), F_X7_humOfAll p t (A.1 (t + 7) i) A = some (nI v, A1) ∧ F_X7_passes p t (A.1 (t + 7) i) (nI v) (fm_up A1 (p + 5) i (nI v)) = some (g, A2) ∧ (g = 0 ∨ g = 1) ∧ F_X10_strikes (nI c) (nI i) B = some ((), B2) ∧
      A1.1 (t + 7) i = A.1 (t + 7) i ∧ rl_d (fm_up A2 (p + 4) i g) B2 p t c nf nm ∧ (fm_up A2 (p + 4) i g).1 p 1 = md_damp B2 c ∧ (∀ q k, ¬ md_k1 c q k → B2.1 q k = B.1 q k) ∧ v ≤ 792 ∧ (∀ q k, q ≠ t + 15 → A2.1 q k = (fm_up A (p + 5) i (nI v)).1 q k) := by
  obtain ⟨⟨hp, ht, hok, hnf, hlw, hday⟩, hfk, ⟨c1, c2, c3, c4, c5, c6, c7, c8⟩, hmo⟩ := id h
  have pn := rl_pne hp ht
  have hc := hok.1
  obtain ⟨m1, m2, m3, m4⟩ := hmo i hi
  obtain ⟨v, A1, B1, e1, e2, e3⟩ := rl_humAll (h.h hd) c1 c2 (A.1 (t + 7) i)
  have fA := rl_frA (fr_X7_humOfAll p t (A.1 (t + 7) i) A) e1
  have fB := rl_frB (fr_X10_humAll (nI c) (A.1 (t + 7) i) B) e2
  -- behind the first store
  have hx : (10 : Int32) * nI c + nI i = nI (10 * c + i) := by rw [show (10 : Int32) = nI 10 from rfl, pk_mul, nI_add]
  obtain ⟨d1, d1a, d1b⟩ := rl_d_mk (A2 := fm_up A1 (p + 5) i (nI v)) (B2 := fm_up B1 101 (10 * c + i) (nI v)) h (fun q k h1 h2 h3 => by rw [fm_up_ne (Or.inl h2)]; exact fA q k h3) (fun q k h1 h2 h3 => by rw [fm_up_ne (Or.inl h2)]; exact fB q k h3) (fun m hm => by
    refine ⟨?_, ?_⟩
    · rw [fm_up_ne (Or.inl (by omega)), fm_up_ne (Or.inl (by omega)), fA _ _ (pn 4 15 (by omega) (by omega)), fB _ _ (Or.inl (by omega))]
      exact (hmo m hm).2.2.1
    · by_cases e : m = i
      · subst e; rw [fm_up_get, fm_up_get]
      · rw [fm_up_ne (Or.inr e), fm_up_ne (Or.inr (by omega)), fA _ _ (pn 5 15 (by omega) (by omega)), fB _ _ (Or.inl (by omega))]
        exact (hmo m hm).2.2.2)
  obtain ⟨g, A2, B2, g1, g2, g3⟩ := rl_passes (d1.h (by rw [d1a, d1b]; exact hd)) (by rw [d1.2.2.1.2.2.2.2.2.1]) (A.1 (t + 7) i) (nI v)
  have gA := rl_frA (fr_X7_passes p t (A.1 (t + 7) i) (nI v) (fm_up A1 (p + 5) i (nI v))) g1
  have gB := rl_frB (fr_X10_passes (nI c) (A.1 (t + 7) i) (nI v) (fm_up B1 101 (10 * c + i) (nI v))) g2
  obtain ⟨d2, d2a, d2b⟩ := rl_d_mk (A2 := fm_up A2 (p + 4) i g) (B2 := fm_up B2 100 (10 * c + i) g) d1 (fun q k h1 h2 h3 => by rw [fm_up_ne (Or.inl h1)]; exact gA q k h3) (fun q k h1 h2 h3 => by rw [fm_up_ne (Or.inl h1)]; exact gB q k h3) (fun m hm => by
    obtain ⟨-, -, x3, x4⟩ := d1.2.2.2 m hm
    refine ⟨?_, ?_⟩
    · by_cases e : m = i
      · subst e; rw [fm_up_get, fm_up_get]
      · rw [fm_up_ne (Or.inr e), fm_up_ne (Or.inr (by omega)), gA _ _ (pn 4 15 (by omega) (by omega)), gB _ _ (Or.inl (by omega))]
        exact x3
    · rw [fm_up_ne (Or.inl (by omega)), fm_up_ne (Or.inl (by omega)), gA _ _ (pn 5 15 (by omega) (by omega)), gB _ _ (Or.inl (by omega))]
      exact x4)
  refine ⟨v, g, A1, A2, fm_up B2 100 (10 * c + i) g, e1, g1, g3, ?_, fA _ _ (by omega), d2, by rw [d2a, d2b, d1a, d1b]; exact hd, fun q k hq => ?_, e3, fun q k hq => ?_⟩
  · rw [F_X10_strikes, fm_lt, hx, fm_gd_t (nu_inb (by omega) (by omega)), nI_clamp (by omega), ← m1, e2, fm_bd_s, fm_gd_t (nu_inb (by omega) (by omega)), fm_lt, nI_clamp (by omega), fm_gd_t (nu_inb (by omega) (by omega)), fm_gd_t (nu_inb (by omega) (by omega)), fm_up_get, fm_up_ne (Or.inl (by omega)), fB 85 i (Or.inl (by omega)), ← m1, g2, fm_bd_s, fm_gd_t (nu_inb (by omega) (by omega))]
    rcases g3 with rfl | rfl
    · rw [if_pos rfl]; rfl
    · rw [if_neg (show ¬ (1 : Int32) = 0 by decide), fm_gd_t (nu_inb (by omega) (by omega))]; rfl
  · unfold md_k1 at hq
    rw [fm_up_ne (by omega), gB q k (by omega), fm_up_ne (by omega), fB q k (by omega)]
  · rw [gA q k hq]
    by_cases e : q = p + 5 ∧ k = i
    · rw [e.1, e.2, fm_up_get, fm_up_get]
    · rw [fm_up_ne (by omega), fm_up_ne (by omega)]
      exact fA q k hq
/-- verdicts and what was heard go together -/
def rl_v (A : fm_M) (p nm : Nat) : Prop := ∀ m, m < nm → (A.1 (p + 4) m = -1 ∧ A.1 (p + 5) m = -1) ∨ ((A.1 (p + 4) m = 0 ∨ A.1 (p + 4) m = 1) ∧ ∃ v : Nat, v ≤ 792 ∧ A.1 (p + 5) m = nI v)
theorem rl_strikeLoop {p t c nf nm : Nat} : ∀ (m i fa fb : Nat) (A B : fm_M), rl_d A B p t c nf nm → A.1 p 1 = md_damp B c → i + m = nm → m < fa → m < fb → ∃ (A2 B2 : fm_M), G_X7_passDay_2 fa p t (nI i) A = some (nI nm, A2) ∧ G_X10_dayGoes_2 fb (nI c) (nI i) B = some (nI nm, B2) ∧ rl_d A2 B2 p t c nf nm ∧ A2.1 p 1 = md_damp B2 c ∧ (∀ q k, ¬ md_k1 c q k → B2.1 q k = B.1 q k) ∧ (rl_v A p nm → rl_v A2 p nm) ∧ (∀ q k, q ≠ p + 4 → q ≠ p + 5 → q ≠ t + 15 → A2.1 q k = A.1 q k) := by
  intro m
  induction m with
  | zero =>
    intro i fa fb A B h hd hi hfa hfb
    have : i = nm := by omega
    subst this
    obtain ⟨fa, rfl⟩ : ∃ z, fa = z + 1 := ⟨fa - 1, by omega⟩
    obtain ⟨fb, rfl⟩ : ∃ z, fb = z + 1 := ⟨fb - 1, by omega⟩
    obtain ⟨-, -, ⟨c1, c2, c3, c4, c5, -⟩, -⟩ := id h
    refine ⟨A, B, ?_, ?_, h, hd, fun _ _ _ => rfl, id, fun _ _ _ _ _ => rfl⟩
    · rw [G_X7_passDay_2, c3, if_pos (nI_le (Nat.le_refl _) (by omega))]
    · rw [G_X10_dayGoes_2, fm_gd_t (by decide), ck_1, c4, if_pos (nI_le (Nat.le_refl _) (by omega))]
  | succ m ih =>
    intro i fa fb A B h hd hi hfa hfb
    obtain ⟨fa, rfl⟩ : ∃ z, fa = z + 1 := ⟨fa - 1, by omega⟩
    obtain ⟨fb, rfl⟩ : ∃ z, fb = z + 1 := ⟨fb - 1, by omega⟩
    obtain ⟨⟨hp, ht, hok, hnf, hlw, hday⟩, -, ⟨c1, c2, c3, c4, c5, -⟩, hmo⟩ := id h
    obtain ⟨m1, m2, m3, m4⟩ := hmo i (by omega)
    have hc := hok.1
    have hx : (10 : Int32) * nI c + nI i = nI (10 * c + i) := by rw [show (10 : Int32) = nI 10 from rfl, pk_mul, nI_add]
    have ib : fm_inb (nI i) 10 = true := nu_inb (by omega) (by omega)
    have xb : fm_inb (nI (10 * c + i)) 230 = true := nu_inb (by omega) (by omega)
    have ic : Int32.toNatClampNeg (nI i) = i := nI_clamp (by omega)
    have xc : Int32.toNatClampNeg (nI (10 * c + i)) = 10 * c + i := nI_clamp (by omega)
    rw [G_X7_passDay_2, c3, if_neg (nI_ge (by omega) (by omega)), fm_gd_t ib, fm_gd_t ib, fm_gd_t ib, ic, G_X10_dayGoes_2, fm_gd_t (by decide), ck_1, c4, if_neg (nI_ge (by omega) (by omega)), fm_lt, hx, fm_gd_t xb, fm_gd_t xb, fm_gd_t (nu_inb hc (by omega)), xc, nI_clamp (show c < 2 ^ 31 by omega), nI_1, m2, m3, hday]
    by_cases hs : B.1 99 (10 * c + i) = B.1 94 c
    · rw [if_pos hs]
      by_cases ho : B.1 100 (10 * c + i) = -1
      · rw [if_pos ho, if_pos ho, if_pos hs]
        obtain ⟨v, g, A1, A2, B2, e1, e2, e3, e4, e5, e6, e7, e8, e9, e10⟩ := rl_strikes h hd (show i < nm by omega)
        obtain ⟨A3, B3, y1, y2, y3, y4, y5, y6, y7⟩ := ih (i + 1) fa fb (fm_up A2 (p + 4) i g) B2 e6 e7 (by omega) (by omega) (by omega)
        have hv : rl_v A p nm → rl_v (fm_up A2 (p + 4) i g) p nm := by
          intro z j hj
          have n4 := rl_pne hp ht 4 15 (by omega) (by omega)
          have n5 := rl_pne hp ht 5 15 (by omega) (by omega)
          by_cases e : j = i
          · subst e
            refine Or.inr ⟨?_, v, e9, ?_⟩
            · rw [fm_up_get]; exact e3
            · rw [fm_up_ne (Or.inl (by omega)), e10 _ _ n5, fm_up_get]
          · rw [fm_up_ne (Or.inr e), e10 _ _ n4, fm_up_ne (Or.inl (by omega)), fm_up_ne (Or.inl (by omega)), e10 _ _ n5, fm_up_ne (Or.inr e)]
            exact z j hj
        refine ⟨A3, B3, ?_, ?_, y3, y4, fun q k hq => by rw [y5 q k hq, e8 q k hq], fun z => y6 (hv z), fun q k h1 h2 h3 => by rw [y7 q k h1 h2 h3, fm_up_ne (Or.inl h1), e10 q k h3, fm_up_ne (Or.inl h2)]⟩
        · rw [e1, fm_bd_s, fm_gd_t ib, fm_lt, fm_gd_t ib, fm_gd_t ib, fm_up_get, fm_up_ne (Or.inl (by have := rl_pne hp ht 5 7 (by omega) (by omega); omega)), e5, e2, fm_bd_s, fm_gd_t ib, fm_gd_t ib, fm_lt, fm_lt]
          rcases e3 with rfl | rfl
          · rw [if_pos rfl]; exact y1
          · rw [if_neg (show ¬ (1 : Int32) = 0 by decide)]; exact y1
        · rw [e4, fm_bd_s]; exact y2
      · rw [if_neg ho, if_neg ho]
        exact ih (i + 1) fa fb A B h hd (by omega) (by omega) (by omega)
    · rw [if_neg hs]
      obtain ⟨A3, B3, y1, y2, y3⟩ := ih (i + 1) fa fb A B h hd (by omega) (by omega) (by omega)
      refine ⟨A3, B3, y1, ?_, y3⟩
      by_cases ho : B.1 100 (10 * c + i) = -1
      · rw [if_pos ho, if_neg hs]; exact y2
      · rw [if_neg ho]; exact y2
