/-! a day: forks rust; class and reference -/
def rl_pb (A : fm_M) (p t nf : Nat) : Prop := (∀ f, f < nf → ∃ x : Nat, 100 ≤ x ∧ x ≤ 999 ∧ A.1 (p + 1) f = nI x) ∧ ∃ r : Nat, r ≤ 9 ∧ A.1 t 16 = nI r
theorem rl_clamp9 {v : Int64} : ∃ k : Nat, k ≤ 9 ∧ Int64.toInt32 (l_max (Int32.toInt64 0) (l_min (Int32.toInt64 9) v)) = nI k := by
  have c0 : Int32.toInt64 0 = 0 := rfl
  have c9 : Int32.toInt64 9 = 9 := rfl
  have i9 : (9 : Int64).toInt = 9 := by decide
  rw [c0, c9]
  have key : ∃ k : Nat, k ≤ 9 ∧ l_max 0 (l_min 9 v) = Int64.ofNat k := by
    unfold l_max l_min
    by_cases a : v < 9
    · rw [if_pos a]
      by_cases b : v < 0
      · rw [if_pos b]; exact ⟨0, by omega, rfl⟩
      · rw [if_neg b]
        have a1 := Int64.lt_iff_toInt_lt.mp a
        have b1 : ¬ v.toInt < 0 := fun z => b (Int64.lt_iff_toInt_lt.mpr (by rw [ev_l01.1]; exact z))
        rw [i9] at a1
        refine ⟨v.toInt.toNat, by omega, Int64.toInt_inj.mp ?_⟩
        rw [show Int64.ofNat v.toInt.toNat = lN v.toInt.toNat from rfl, lN_toInt (by omega)]
        omega
    · rw [if_neg a, if_neg (by decide)]; exact ⟨9, by omega, rfl⟩
  obtain ⟨k, hk, e⟩ := key
  exact ⟨k, hk, by rw [e, show Int64.ofNat k = lN k from rfl, lN_i]⟩
/-- how much a fork rusts -/
theorem rl_rust {A B : fm_M} {p t c nf f : Nat} (h : rl_h A B p t c nf) (hf : f < nf) (h16 : A.1 t 16 = B.1 78 6) (hr : ∃ r : Nat, r ≤ 9 ∧ A.1 t 16 = nI r) :
    ∃ (v : Nat) (A2 B1 B2 : fm_M), v ≤ 9 ∧ F_X7_rustOf p t (nI f) A = some (nI v, A2) ∧ F_X10_callsRust (nI c) (nI f) B = some ((), B1) ∧ B1.1 = B.1 ∧ F_X10_within 1 9 (B1.1 78 6) B1 = some (nI v, B2) := by
  obtain ⟨hp, ht, hok, hnf, hlw, hday, hdamp, hfk⟩ := id h
  obtain ⟨f1, f2, f3, f4, f5, f6, f7⟩ := hfk f hf
  have hf8 : f < 8 := by omega
  have hc := hok.1
  have hw := rl_lw ht
  obtain ⟨r, hr9, hr⟩ := hr
  generalize hs : i_max 1 (B.1 98 (8 * c + f) - md_damp B c) = sd
  have hci : (8 : Int32) * nI c + nI f = nI (8 * c + f) := by rw [show (8 : Int32) = nI 8 from rfl, pk_mul, nI_add]
  have ecr : F_X10_callsRust (nI c) (nI f) B = some ((), md_nm B c sd 0 (md_width B f) (B.1 82 f) 0) := by
    rw [F_X10_callsRust, hci, fm_gd_t (nu_inb (by omega) (by omega)), nI_clamp (by omega), md_wp_ok hok, fm_bd_s, md_width_ok hf8, fm_bd_s, fm_gd_t (nu_inb (by omega) (by omega)), nI_clamp (by omega), hs, md_calls_ok hok, fm_bd_s]
  rw [F_X7_rustOf, fm_gd_t hp, fm_gd_t ht]
  have hb16 : B.1 78 6 = nI r := by rw [← h16]; exact hr
  rcases rl_lawv h (r := 1) (by omega) sd 0 (md_width B f) (B.1 82 f) 0 with ⟨e1, e2⟩ | ⟨e1, e2, v, A2, g, B2, y1, y2, y3⟩
  · refine ⟨r, A, _, md_nm B c sd 0 (md_width B f) (B.1 82 f) 0, hr9, ?_, ecr, rfl, ?_⟩
    · rw [F_X7_rustLaw, fm_gd_t hp, fm_gd_t ht, show F_X3_has (t + 10) 1 A = some (0, A) from e1, fm_bd_s, if_pos rfl, fm_bd_s, if_pos ((nu_cmp0 _ _).mpr rfl), hr]
    · rw [F_X10_within, show F_X10_hasLaw 1 (md_nm B c sd 0 (md_width B f) (B.1 82 f) 0) = some (0, _) from e2, fm_bd_s, if_pos rfl, md_nm_1, hb16]
  · have erl : F_X7_rustLaw p t (nI f) A = some (v, A2) := by
      rw [F_X7_rustLaw, fm_gd_t hp, fm_gd_t ht, show F_X3_has (t + 10) 1 A = some (1, A) from e1, fm_bd_s, if_neg (show ¬ (1 : Int32) = 0 by decide), F_X7_soundOf, fm_gd_t hp, fm_gd_t (nu_inb hf8 (by omega)), fm_bd_s, fm_gd_t (nu_inb hf8 (by omega)), fm_gd_t (nu_inb hf8 (by omega)), nI_clamp (by omega), f1, f2, f3, hdamp, hs, ← hdamp, cl_name_ok hw, fm_bd_s, show F_X3_valueOf (t + 10) 1 (cl_nm A (t + 10) sd 0 (md_width B f) (B.1 82 f) 0 (A.1 p 1) (A.1 p 0)) = some (v, A2) from y1, fm_bd_s]
    have fA := rl_frA (fr_X7_rustLaw p t (nI f) A) erl
    rw [erl, fm_bd_s]
    rcases y3 with ⟨q1, q2⟩ | ⟨q1, q2, q3⟩
    · refine ⟨r, A2, _, B2, hr9, ?_, ecr, rfl, ?_⟩
      · rw [q1, if_pos ((nu_cmp0 _ _).mpr rfl), fA t 16 (by omega), hr]
      · rw [F_X10_within, show F_X10_hasLaw 1 (md_nm B c sd 0 (md_width B f) (B.1 82 f) 0) = some (1, _) from e2, fm_bd_s, if_neg (show ¬ (1 : Int32) = 0 by decide), show F_X10_goes 1 (md_nm B c sd 0 (md_width B f) (B.1 82 f) 0) = some (g, B2) from y2, fm_bd_s, q2, if_pos rfl, md_nm_1, hb16]
    · obtain ⟨k, hk, ek⟩ := rl_clamp9 (v := v)
      refine ⟨k, A2, _, B2, hk, ?_, ecr, rfl, ?_⟩
      · rw [if_neg (fun z => rl_notmin q3 ((nu_cmp0 _ _).mp z)), F_X9_within, fm_bd_s, ek]
      · rw [F_X10_within, show F_X10_hasLaw 1 (md_nm B c sd 0 (md_width B f) (B.1 82 f) 0) = some (1, _) from e2, fm_bd_s, if_neg (show ¬ (1 : Int32) = 0 by decide), show F_X10_goes 1 (md_nm B c sd 0 (md_width B f) (B.1 82 f) 0) = some (g, B2) from y2, fm_bd_s, q1, if_neg (show ¬ (1 : Int32) = 0 by decide), fm_gd_t (by decide), ck_0, ← q2]
        exact congrArg some (Prod.ext ek rfl)
/-- what rusting may change -/
theorem rl_d_mr {A B A2 B2 : fm_M} {p t c nf nm : Nat} (h : rl_d A B p t c nf nm) (hA : ∀ q k, q ≠ p + 1 → q ≠ t + 15 → A2.1 q k = A.1 q k) (hB : ∀ q k, q ≠ 98 → (q ≠ 76 ∨ k ≠ 32) → B2.1 q k = B.1 q k) (hm : ∀ f, f < nf → A2.1 (p + 1) f = B2.1 98 (8 * c + f)) : rl_d A2 B2 p t c nf nm ∧ A2.1 p 1 = A.1 p 1 ∧ md_damp B2 c = md_damp B c := by
  obtain ⟨⟨hp, ht, ⟨o1, ⟨nw, o2, o3⟩, dd, o4, o5⟩, hnf, hlw, hday⟩, hfk, ⟨c1, c2, c3, c4, c5, c6, c7, c8⟩, hmo⟩ := h
  have pn := rl_pne hp ht
  have aT : ∀ j k, j ≤ 14 → A2.1 (t + j) k = A.1 (t + j) k := fun j k hj => hA _ _ (fun z => pn 1 j (by omega) (by omega) z.symm) (by omega)
  have aP : ∀ j k, j ≤ 6 → j ≠ 1 → A2.1 (p + j) k = A.1 (p + j) k := fun j k hj h1 => hA _ _ (by omega) (pn j 15 (by omega) (by omega))
  have aT0 : ∀ k, A2.1 t k = A.1 t k := fun k => aT 0 k (by omega)
  have aP0 : ∀ k, A2.1 p k = A.1 p k := fun k => aP 0 k (by omega) (by omega)
  have bb : ∀ q k, q ≠ 98 → q ≠ 76 → B2.1 q k = B.1 q k := fun q k h1 h2 => hB q k h1 (Or.inl h2)
  have b76 : ∀ k, k ≠ 32 → B2.1 76 k = B.1 76 k := fun k h1 => hB 76 k (by omega) (Or.inr h1)
  have hdm : md_damp B2 c = md_damp B c := by
    unfold md_damp md_wet
    rw [b76 43 (by omega), b76 45 (by omega), bb 78 3 (by omega) (by omega), bb 94 c (by omega) (by omega), bb 87 _ (by omega) (by omega)]
  refine ⟨⟨⟨hp, ht, ⟨o1, ⟨nw, o2, by rw [bb 78 3 (by omega) (by omega)]; exact o3⟩, dd, o4, by rw [bb 94 c (by omega) (by omega)]; exact o5⟩, hnf, fun r hr => ev_law_cg (hlw r hr) (fun q k h1 h2 => ?_) (fun q k _ _ => bb q k (by omega) (by omega)), ?_⟩, fun f hf => ?_, ?_, fun m hmm => ?_⟩, aP0 1, hdm⟩
  · obtain ⟨j, rfl⟩ : ∃ j, q = t + j := ⟨q - t, by omega⟩
    exact aT j k (by omega)
  · rw [aP0 0, bb 94 c (by omega) (by omega)]; exact hday
  · have hw : md_width B2 f = md_width B f := by
      unfold md_width
      rw [b76 46 (by omega), b76 47 (by omega), bb 81 f (by omega) (by omega)]
    obtain ⟨-, y⟩ := hfk f hf
    refine ⟨hm f hf, ?_⟩
    rw [aP 2 f (by omega) (by omega), hw, aT 4 f (by omega), bb 82 f (by omega) (by omega), aP0 6, b76 43 (by omega), b76 44 (by omega), aP0 4, bb 97 c (by omega) (by omega), aP0 5, bb 78 9 (by omega) (by omega)]
    exact y
  · rw [aT0 0, bb 78 0 (by omega) (by omega), aT0 7, bb 78 1 (by omega) (by omega), aT0 13, bb 78 2 (by omega) (by omega), aT0 16, bb 78 6 (by omega) (by omega), aP0 7, b76 43 (by omega)]
    exact ⟨c1, c2, c3, c4, c5, c6, c7, c8⟩
  · rw [aT 7 m (by omega), bb 85 m (by omega) (by omega), aP 3 m (by omega) (by omega), bb 99 _ (by omega) (by omega), aP 4 m (by omega) (by omega), bb 100 _ (by omega) (by omega), aP 5 m (by omega) (by omega), bb 101 _ (by omega) (by omega)]
    exact hmo m hmm
def md_k2 (c q k : Nat) : Prop := (q = 76 ∧ k = 32) ∨ (q = 98 ∧ 8 * c ≤ k ∧ k < 8 * c + 8)
theorem rl_rustLoop {p t c nf nm : Nat} : ∀ (m i fa fb : Nat) (A B : fm_M), rl_d A B p t c nf nm → rl_pb A p t nf → A.1 p 1 = md_damp B c → i + m = nf → m < fa → m < fb → ∃ (x : Int32) (A2 B2 : fm_M), G_X7_passDay_89 fa p t (nI i) A = some (x, A2) ∧ G_X10_dayGoes_58 fb (nI c) (nI i) B = some (x, B2) ∧ rl_d A2 B2 p t c nf nm ∧ rl_pb A2 p t nf ∧ (∀ q k, ¬ md_k2 c q k → B2.1 q k = B.1 q k) ∧ (∀ q k, q ≠ p + 1 → q ≠ t + 15 → A2.1 q k = A.1 q k) := by
  intro m
  induction m with
  | zero =>
    intro i fa fb A B h hb hd hi hfa hfb
    have : i = nf := by omega
    subst this
    obtain ⟨fa, rfl⟩ : ∃ z, fa = z + 1 := ⟨fa - 1, by omega⟩
    obtain ⟨fb, rfl⟩ : ∃ z, fb = z + 1 := ⟨fb - 1, by omega⟩
    obtain ⟨⟨-, -, -, hnf, -⟩, -, ⟨c1, c2, -⟩, -⟩ := id h
    refine ⟨nI i, A, B, ?_, ?_, h, hb, fun _ _ _ => rfl, fun _ _ _ _ => rfl⟩
    · rw [G_X7_passDay_89, c1, if_pos (nI_le (Nat.le_refl _) (by omega))]
    · rw [G_X10_dayGoes_58, fm_gd_t (by decide), ck_0, c2, if_pos (nI_le (Nat.le_refl _) (by omega))]
  | succ m ih =>
    intro i fa fb A B h hb hd hi hfa hfb
    obtain ⟨fa, rfl⟩ : ∃ z, fa = z + 1 := ⟨fa - 1, by omega⟩
    obtain ⟨fb, rfl⟩ : ∃ z, fb = z + 1 := ⟨fb - 1, by omega⟩
    obtain ⟨⟨hp, ht, hok, hnf, hlw, hday⟩, hfk, ⟨c1, c2, c3, c4, c5, c6, c7, c8⟩, hmo⟩ := id h
    have hc := hok.1
    have pn := rl_pne hp ht
    rw [G_X7_passDay_89, c1, if_neg (nI_ge (by omega) (by omega)), G_X10_dayGoes_58, fm_gd_t (show fm_inb 0 20 = true by decide), ck_0, c2, if_neg (nI_ge (by omega) (by omega))]
    by_cases h7 : A.1 p 7 = 0
    · rw [if_pos h7, if_pos (c8.mp h7)]
      exact ⟨_, A, B, rfl, rfl, h, hb, fun _ _ _ => rfl, fun _ _ _ _ => rfl⟩
    · have hx : (8 : Int32) * nI c + nI i = nI (8 * c + i) := by rw [show (8 : Int32) = nI 8 from rfl, pk_mul, nI_add]
      have ib : fm_inb (nI i) 8 = true := nu_inb (by omega) (by omega)
      have xb : fm_inb (nI (8 * c + i)) 184 = true := nu_inb (by omega) (by omega)
      have ic : Int32.toNatClampNeg (nI i) = i := nI_clamp (by omega)
      have xc : Int32.toNatClampNeg (nI (8 * c + i)) = 8 * c + i := nI_clamp (by omega)
      obtain ⟨v, A2, B1, B2, hv, e1, e2, e3, e4⟩ := rl_rust (h.h hd) (show i < nf by omega) c7 hb.2
      have fA := rl_frA (fr_X7_rustOf p t (nI i) A) e1
      have fB := rl_frB (fr_X10_within 1 9 (B1.1 78 6) B1) e4
      rw [if_neg h7, if_neg (fun z => h7 (c8.mpr z)), fm_gd_t ib, ic, e1, fm_bd_s, fm_gd_t ib, fm_lt, e2, fm_bd_s, fm_lt, hx, fm_gd_t xb, fm_gd_t (show fm_inb 6 20 = true by decide), ck_6, e4, fm_bd_s, fm_gd_t xb, fm_lt, xc, e3, nI_1, (hfk i (by omega)).1]
      obtain ⟨px, hx1, hx2, hx3⟩ := hb.1 i (by omega)
      have hpx : B.1 98 (8 * c + i) = nI px := by rw [← (hfk i (by omega)).1]; exact hx3
      have hnew : ∃ y : Nat, 100 ≤ y ∧ y ≤ 999 ∧ i_max 100 (B.1 98 (8 * c + i) - nI v) = nI y := by
        rw [hpx, pk_sub (by omega)]
        unfold i_max
        by_cases hlt : (100 : Int32) < nI (px - v)
        · rw [if_pos hlt]
          refine ⟨px - v, ?_, by omega, rfl⟩
          have := Int32.lt_iff_toInt_lt.mp hlt
          rw [nI_toInt (by omega), show (100 : Int32).toInt = 100 from rfl] at this
          omega
        · rw [if_neg hlt]
          exact ⟨100, by omega, by omega, rfl⟩
      generalize hny : i_max 100 (B.1 98 (8 * c + i) - nI v) = ny
      rw [hny] at hnew
      obtain ⟨d2, d2a, d2b⟩ := rl_d_mr (A2 := fm_up A2 (p + 1) i ny) (B2 := fm_up B2 98 (8 * c + i) ny) h (fun q k h1 h2 => by rw [fm_up_ne (Or.inl h1)]; exact fA q k h2) (fun q k h1 h2 => by rw [fm_up_ne (Or.inl h1), fB q k h2, e3]) (fun f hf => by
        by_cases e : f = i
        · subst e; rw [fm_up_get, fm_up_get]
        · rw [fm_up_ne (Or.inr e), fm_up_ne (Or.inr (by omega)), fA _ _ (pn 1 15 (by omega) (by omega)), fB _ _ (Or.inl (by omega)), e3]
          exact (hfk f hf).1)
      have hb2 : rl_pb (fm_up A2 (p + 1) i ny) p t nf := by
        refine ⟨fun f hf => ?_, ?_⟩
        · by_cases e : f = i
          · subst e; rw [fm_up_get]; exact hnew
          · rw [fm_up_ne (Or.inr e), fA _ _ (pn 1 15 (by omega) (by omega))]; exact hb.1 f hf
        · rw [fm_up_ne (Or.inl (show t ≠ p + 1 from fun z => pn 1 0 (by omega) (by omega) z.symm)), fA t 16 (by omega)]; exact hb.2
      obtain ⟨x, A3, B3, y1, y2, y3, y4, y5, y6⟩ := ih (i + 1) fa fb (fm_up A2 (p + 1) i ny) (fm_up B2 98 (8 * c + i) ny) d2 hb2 (by rw [d2a, d2b]; exact hd) (by omega) (by omega) (by omega)
      refine ⟨x, A3, B3, y1, y2, y3, y4, fun q k hq => ?_, fun q k h1 h2 => by rw [y6 q k h1 h2, fm_up_ne (Or.inl h1), fA q k h2]⟩
      rw [y5 q k hq]
      unfold md_k2 at hq
      rw [fm_up_ne (by omega), fB q k (by omega), e3]
