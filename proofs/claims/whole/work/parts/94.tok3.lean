/-! tokens: both go on to the next -/
def tkr (t v s w : Int32) : Prop := (t = 0 ∧ s = 4) ∨ (t = 1 ∧ s = 5) ∨ (t = 2 ∧ s = 2 ∧ v = w ∧ ∃ n : Nat, n ≤ 999999 ∧ v = nI n) ∨ (t = 3 ∧ s = 1 ∧ v = w) ∨ (s = 3 ∧ sgt t w) ∨ (∃ j : Nat, j < 22 ∧ t = nI (17 + j) ∧ s = 0 ∧ w = nI j)
/-- letters -/
theorem tk_lets {n p : Nat} (l1 : Int32) {x : Nat → Nat} : ∀ (m j fa fb : Nat) (a : Int32) (A B : fm_M), (j ≤ 6 → a = nI (wN x j * 32 ^ (6 - j))) → tb A B n → A.1 1 7 = nI (p + j) → A.1 1 9 = nI p → B.1 76 20 = nI (p + j) → p + j + m = n → m < fa → m < fb → (∀ g, p + g < n → x g = (B.1 77 (p + g)).toNatClampNeg - 96) → (∀ g, g < j → 1 ≤ x g ∧ x g ≤ 26) → ∃ (l : Nat) (v : Int32) (A2 B2 : fm_M), j ≤ l ∧ p + l ≤ n ∧ G_X6_readWord_2 fa a A = some (v, A2) ∧ (l ≤ 6 → v = nI (wN x l * 32 ^ (6 - l))) ∧ G_X10_token_64 fb l1 B = some ((), B2) ∧ A2.1 1 7 = nI (p + l) ∧ B2.1 76 20 = nI (p + l) ∧ (∀ g, g < l → 1 ≤ x g ∧ x g ≤ 26) ∧ (∀ q k, (q ≠ 1 ∨ k ≠ 7) → A2.1 q k = A.1 q k) ∧ (∀ q k, (q ≠ 76 ∨ k ≠ 20) → B2.1 q k = B.1 q k) ∧ (p + j < n → (∃ z : Nat, 97 ≤ z ∧ z ≤ 122 ∧ A.1 2 (p + j) = nI z) → j < l) := by
  intro m
  induction m with
  | zero =>
    intro j fa fb a A B ha h hA hP hB hj hfa hfb hx hy
    obtain ⟨fa, rfl⟩ : ∃ z, fa = z + 1 := ⟨fa - 1, by omega⟩
    obtain ⟨fb, rfl⟩ : ∃ z, fb = z + 1 := ⟨fb - 1, by omega⟩
    have hn := h.1
    rcases md_here h hB (by omega) with ⟨c, e⟩ | ⟨c, e⟩
    · rw [G_X6_readWord_2, h.2.1, hA, if_pos (nI_le (by omega) (by omega)), G_X10_token_64, e, fm_bd_s, F_X10_isSmall, if_pos (by decide), fm_bd_s, if_pos rfl]
      refine ⟨j, _, A, B, Nat.le_refl _, by omega, rfl, ha, rfl, hA, hB, hy, fun _ _ _ => rfl, fun _ _ _ => rfl, fun z => by omega⟩
    · omega
  | succ m ih =>
    intro j fa fb a A B ha h hA hP hB hj hfa hfb hx hy
    obtain ⟨fa, rfl⟩ : ∃ z, fa = z + 1 := ⟨fa - 1, by omega⟩
    obtain ⟨fb, rfl⟩ : ∃ z, fb = z + 1 := ⟨fb - 1, by omega⟩
    have hn := h.1
    have hc := h.2.2.2.1 (p + j) (by omega)
    have kb : fm_inb (nI (p + j)) 700 = true := nu_inb (by omega) (by omega)
    have kc : Int32.toNatClampNeg (nI (p + j)) = p + j := nI_clamp (by omega)
    rcases md_here h hB (by omega) with ⟨c, e⟩ | ⟨c, e⟩
    · omega
    rw [G_X6_readWord_2, h.2.1, hA, if_neg (nI_ge (by omega) (by omega)), fm_gd_t kb, kc, G_X10_token_64, e, fm_bd_s]
    rcases ch_let hc with d | ⟨z, z1, z2, z3, z4, d⟩
    · rw [(d A B).1, (d A B).2, fm_bd_s, fm_bd_s, if_pos rfl, if_pos rfl]
      refine ⟨j, _, A, B, Nat.le_refl _, by omega, rfl, ha, rfl, hA, hB, hy, fun _ _ _ => rfl, fun _ _ _ => rfl, fun _ w => ?_⟩
      exfalso
      obtain ⟨z, w1, w2, w⟩ := w
      have := (d A B).1
      rw [w, F_X6_isLetter, if_neg (show ¬ nI z < 97 from nI_nlt (b := 97) (by omega) (by omega)), if_neg (show ¬ (122 : Int32) < nI z from nI_nlt (a := 122) (by omega) (by omega))] at this
      exact absurd (congrArg Prod.fst (Option.some.inj this)) n10
    · rw [(d A B).1, (d A B).2, fm_bd_s, fm_bd_s, if_neg n10, if_neg n10, hA, hP, pk_sub (by omega), show p + j - p = j by omega, fm_gd_t kb, kc, z3]
      simp only [fm_lt]
      rw [nI_1, hB, nI_1]
      have xz : x j = z - 96 := by rw [hx j (by omega), z4, nI_clamp (by omega)]
      have hy2 : ∀ g, g < j + 1 → 1 ≤ x g ∧ x g ≤ 26 := fun g hg => by
        by_cases y : g = j
        · subst y; omega
        · exact hy g (by omega)
      have nx : ∀ a2 : Int32, (j + 1 ≤ 6 → a2 = nI (wN x (j + 1) * 32 ^ (6 - (j + 1)))) → ∃ (l : Nat) (v : Int32) (A2 B2 : fm_M), j ≤ l ∧ p + l ≤ n ∧ G_X6_readWord_2 fa a2 (fm_up A 1 7 (nI (p + j + 1))) = some (v, A2) ∧ (l ≤ 6 → v = nI (wN x l * 32 ^ (6 - l))) ∧ G_X10_token_64 fb l1 (fm_up B 76 20 (nI (p + j + 1))) = some ((), B2) ∧ A2.1 1 7 = nI (p + l) ∧ B2.1 76 20 = nI (p + l) ∧ (∀ g, g < l → 1 ≤ x g ∧ x g ≤ 26) ∧ (∀ q k, (q ≠ 1 ∨ k ≠ 7) → A2.1 q k = A.1 q k) ∧ (∀ q k, (q ≠ 76 ∨ k ≠ 20) → B2.1 q k = B.1 q k) ∧ (p + j < n → (∃ z : Nat, 97 ≤ z ∧ z ≤ 122 ∧ nI z = nI z) → j < l) := by
        intro a2 ha2
        obtain ⟨l, v, A2, B2, y1, y2, y3, y4, y5, y6, y7, y8, y9, y10, -⟩ := ih (j + 1) fa fb a2 (fm_up A 1 7 (nI (p + j + 1))) (fm_up B 76 20 (nI (p + j + 1))) ha2 (tb_cg h (fun q k z => fm_up_ne (by omega)) (fun q k z => fm_up_ne (by omega))) (by rw [fm_up_get, Nat.add_assoc]) (by rw [fm_up_ne (by omega)]; exact hP) (by rw [fm_up_get, Nat.add_assoc]) (by omega) (by omega) (by omega) (fun g hg => by rw [fm_up_ne (by omega)]; exact hx g hg) hy2
        exact ⟨l, v, A2, B2, by omega, y2, y3, y4, y5, y6, y7, y8, fun q k z => by rw [y9 q k z, fm_up_ne z], fun q k z => by rw [y10 q k z, fm_up_ne z], fun _ _ => by omega⟩
      by_cases c6 : j < 6
      · have el := cl_let (a := wN x j) (y := x j) c6 (wN_lt j (fun g hg => by have := hy g hg; omega)) (by omega)
        have ez : (nI z - 97 + 1 : Int32) = nI (x j) := by rw [show (97 : Int32) = nI 97 from rfl, pk_sub (by omega), nI_1, xz]; congr 1; omega
        rw [if_neg (show ¬ (6 : Int32) ≤ nI j from nI_ge (b := 6) c6 (by omega)), ez, ha (by omega), el]
        obtain ⟨l, v, A2, B2, y1, y2, y3, y4, y5, y6, y7, y8, y9, y10, y11⟩ := nx _ (fun _ => rfl)
        exact ⟨l, v, A2, B2, y1, y2, y3, y4, y5, y6, y7, y8, y9, y10, fun w _ => y11 w ⟨97, by omega, by omega, rfl⟩⟩
      · rw [if_pos (show (6 : Int32) ≤ nI j from nI_le (a := 6) (by omega) (by omega))]
        obtain ⟨l, v, A2, B2, y1, y2, y3, y4, y5, y6, y7, y8, y9, y10, y11⟩ := nx a (fun w => by omega)
        exact ⟨l, v, A2, B2, y1, y2, y3, y4, y5, y6, y7, y8, y9, y10, fun w _ => y11 w ⟨97, by omega, by omega, rfl⟩⟩
/-- the reference's name -/
theorem md_name {B : fm_M} {p l : Nat} {x : Nat → Nat} (h : wH B p l x) (h0 : ∀ g, l ≤ g → x g = 0) (hl : l ≤ 6) : ∃ B2 : fm_M, F_X10_name B = some ((), B2) ∧ B2.1 76 23 = nI (wN x 6) ∧ (∀ q k, (q ≠ 76 ∨ k ≠ 23) → B2.1 q k = B.1 q k) := by
  obtain ⟨h1, h2, h3, h4⟩ := h
  have hb : ∀ g, x g < 32 := fun g => by
    by_cases c : g < l
    · have := h4 g c; omega
    · rw [h0 g (by omega)]; omega
  have lp : ∀ (m j fb : Nat) (B1 : fm_M), j + m = 6 → m < fb → B1.1 76 23 = nI (wN x j) → (∀ q k, (q ≠ 76 ∨ k ≠ 23) → B1.1 q k = B.1 q k) → ∃ (y : Int32) (B2 : fm_M), G_X10_name_7 fb (nI j) B1 = some (y, B2) ∧ B2.1 76 23 = nI (wN x 6) ∧ (∀ q k, (q ≠ 76 ∨ k ≠ 23) → B2.1 q k = B.1 q k) := by
    intro m
    induction m with
    | zero =>
      intro j fb B1 hj hfb g1 f1
      obtain ⟨fb, rfl⟩ : ∃ z, fb = z + 1 := ⟨fb - 1, by omega⟩
      have : j = 6 := by omega
      subst this
      rw [G_X10_name_7, if_pos (by decide)]
      exact ⟨_, B1, rfl, g1, f1⟩
    | succ m ih =>
      intro j fb B1 hj hfb g1 f1
      obtain ⟨fb, rfl⟩ : ∃ z, fb = z + 1 := ⟨fb - 1, by omega⟩
      have wl := wN_lt (x := x) j (fun g _ => hb g)
      have wl2 : (32 : Nat) ^ j ≤ 32 ^ 5 := Nat.pow_le_pow_right (by omega) (by omega)
      have w5 : (32 : Nat) ^ 5 = 33554432 := rfl
      have sh : ∀ y : Nat, y < 32 → (nI (wN x j) <<< ((5 : Int32) &&& 31)) ||| nI y = nI (wN x j * 32 + y) := fun y hy => by
        rw [pk_shlN (5 &&& 31) 5 (by decide) (by omega), or31 (by omega) (by omega), Nat.mul_comm, or_add 5 _ _ (by omega), Nat.mul_comm]
      rw [G_X10_name_7, if_neg (show ¬ (6 : Int32) ≤ nI j from nI_ge (b := 6) (by omega) (by omega)), f1 76 20 (by omega), f1 76 21 (by omega), h1, h2, nI_add, nI_1, g1]
      simp only [fm_lt]
      by_cases c : l ≤ j
      · rw [if_pos (nI_le (by omega) (by omega)), show (0 : Int32) = nI 0 from rfl, sh 0 (by omega)]
        refine ih (j + 1) fb _ (by omega) (by omega) (by rw [fm_up_get, wN, h0 j c]) (fun q k z => by rw [fm_up_ne z, f1 q k z])
      · have ex : (nI (96 + x j) - 97 + 1 : Int32) = nI (x j) := by
          have := (h4 j (by omega)).2
          rw [show (97 : Int32) = nI 97 from rfl, pk_sub (by omega), nI_1]; congr 1; omega
        rw [if_neg (nI_ge (by omega) (by omega)), fm_gd_t (nu_inb (by omega) (by omega)), nI_clamp (by omega), f1 77 _ (by omega), (h4 j (by omega)).1, ex, sh (x j) (hb j)]
        refine ih (j + 1) fb _ (by omega) (by omega) (by rw [fm_up_get, wN]) (fun q k z => by rw [fm_up_ne z, f1 q k z])
  obtain ⟨y, B2, e1, e2, e3⟩ := lp 6 0 fm_fuel (fm_up B 76 23 0) (by omega) (by unfold fm_fuel; omega) fm_up_get (fun q k z => fm_up_ne z)
  exact ⟨B2, by rw [F_X10_name, fm_lt, show G_X10_name_7 fm_fuel 0 (fm_up B 76 23 0) = _ from e1, fm_bd_s], e2, e3⟩
/-- the next token -/
theorem tk_adv {A B : fm_M} {n k : Nat} (h : tb A B n) (hA : A.1 1 7 = nI k) (hB : B.1 76 20 = nI k) (hk : k ≤ n) : ∃ (p k2 : Nat) (A2 B2 : fm_M), k ≤ p ∧ p ≤ k2 ∧ k2 ≤ n ∧ F_X6_advance A = some ((), A2) ∧ F_X10_token B = some ((), B2) ∧ A2.1 1 7 = nI k2 ∧ B2.1 76 20 = nI k2 ∧ A2.1 1 9 = nI p ∧ B2.1 76 21 = nI p ∧ tkr (A2.1 1 8) (A2.1 1 10) (B2.1 76 22) (B2.1 76 23) ∧ (¬ A2.1 1 8 = 0 → p < k2) ∧ (∀ q j, (q ≠ 1 ∨ j < 7 ∨ 10 < j) → A2.1 q j = A.1 q j) ∧ (∀ q j, (q ≠ 76 ∨ j < 20 ∨ 23 < j) → B2.1 q j = B.1 q j) := by
  have hn := h.1
  obtain ⟨p, A1, B1, x1, x2, x3, x4, x5, x6, x7, x8⟩ := tk_skip (n - k) k fm_fuel fm_fuel A B h hA hB (by omega) (by unfold fm_fuel; omega) (by unfold fm_fuel; omega)
  have h1 : tb A1 B1 n := tb_cg h (fun q j z => x7 q j (by omega)) (fun q j z => x8 q j (by omega))
  generalize hA2 : fm_up (fm_up A1 1 9 (nI p)) 1 10 0 = A2
  have fA2 : ∀ q j, (q ≠ 1 ∨ (j ≠ 9 ∧ j ≠ 10)) → A2.1 q j = A1.1 q j := fun q j z => by rw [← hA2, fm_up_ne (by omega), fm_up_ne (by omega)]
  have a9 : A2.1 1 9 = nI p := by rw [← hA2, fm_up_ne (by omega), fm_up_get]
  have a10 : A2.1 1 10 = 0 := by rw [← hA2, fm_up_get]
  have a7 : A2.1 1 7 = nI p := by rw [fA2 _ _ (by omega)]; exact x5
  generalize hB2 : fm_up B1 76 21 (nI p) = B2
  have fB2 : ∀ q j, (q ≠ 76 ∨ j ≠ 21) → B2.1 q j = B1.1 q j := fun q j z => by rw [← hB2, fm_up_ne z]
  have b21 : B2.1 76 21 = nI p := by rw [← hB2, fm_up_get]
  have b20 : B2.1 76 20 = nI p := by rw [fB2 _ _ (by omega)]; exact x6
  have h2 : tb A2 B2 n := tb_cg h1 (fun q j z => fA2 q j (by omega)) (fun q j z => fB2 q j (by omega))
  have fA : ∀ q j, (q ≠ 1 ∨ (j ≠ 7 ∧ j ≠ 9 ∧ j ≠ 10)) → A2.1 q j = A.1 q j := fun q j z => by rw [fA2 q j (by omega), x7 q j (by omega)]
  have fB : ∀ q j, (q ≠ 76 ∨ (j ≠ 20 ∧ j ≠ 21)) → B2.1 q j = B.1 q j := fun q j z => by rw [fB2 q j (by omega), x8 q j (by omega)]
  have kb : fm_inb (nI p) 700 = true ∨ ¬ p < n := by
    by_cases c : p < n
    · exact Or.inl (nu_inb (by omega) (by omega))
    · exact Or.inr c
  rw [F_X6_advance, x3, fm_bd_s, x5]
  simp only [fm_lt]
  rw [hA2, a7, h2.2.1, F_X10_token, x4, fm_bd_s, x6]
  simp only [fm_lt]
  rw [hB2]
  rcases md_here h2 b20 x2 with ⟨c, e⟩ | ⟨c, e⟩
  · rw [if_neg (nI_nlt (by omega) (by omega)), e, fm_bd_s, if_pos rfl]
    refine ⟨p, p, _, _, x1, Nat.le_refl _, x2, rfl, rfl, by rw [fm_up_ne (by omega)]; exact a7, by rw [fm_up_ne (by omega)]; exact b20, by rw [fm_up_ne (by omega)]; exact a9, by rw [fm_up_ne (by omega)]; exact b21, Or.inl ⟨fm_up_get, fm_up_get⟩, fun z => absurd fm_up_get z, fun q j z => by rw [fm_up_ne (by omega), fA q j (by omega)], fun q j z => by rw [fm_up_ne (by omega), fB q j (by omega)]⟩
  · have hc := h2.2.2.2.1 p c
    have kb : fm_inb (nI p) 700 = true := nu_inb (by omega) (by omega)
    have kc : Int32.toNatClampNeg (nI p) = p := nI_clamp (by omega)
    rw [if_pos (nI_lt c (by omega)), fm_gd_t kb, kc, e, fm_bd_s, if_neg (ch_nm1 hc)]
    rcases ch_let hc with d | ⟨z, z1, z2, z3, z4, d⟩
    · rw [(d A2 B2).1, (d A2 B2).2, fm_bd_s, fm_bd_s, if_pos rfl, if_pos rfl, a7, fm_gd_t kb, kc]
      rcases ch_dig hc with d | ⟨z, z1, z2, z3, z4, d⟩
      · rw [(d A2 B2).1, (d A2 B2).2, fm_bd_s, fm_bd_s, if_pos rfl, if_pos rfl]
        obtain ⟨k2, t, s, w, A3, B3, y1, y2, y3, y4, y5, y6, y7, y8, y9, y10, y11, y12⟩ := tk_sign h2 a7 b20 c
        rw [y3, y4, fm_bd_s, fm_bd_s]
        refine ⟨p, k2, A3, B3, x1, by omega, y2, rfl, rfl, y5, y6, by rw [y11 _ _ (by omega)]; exact a9, by rw [y12 _ _ (by omega)]; exact b21, ?_, fun _ => y1, fun q j z => by rw [y11 q j (by omega), fA q j (by omega)], fun q j z => by rw [y12 q j (by omega), fB q j (by omega)]⟩
        rw [y7, y8, y9]
        rcases y10 with q | q
        · exact Or.inr (Or.inl q)
        · exact Or.inr (Or.inr (Or.inr (Or.inr (Or.inl q))))
      · rw [(d A2 B2).1, (d A2 B2).2, fm_bd_s, fm_bd_s, if_neg n10, if_neg n10]
        obtain ⟨k2, v, A3, B3, y1, y2, y3, y4, y5, y6, y7, y8, y9, y10, y11, y12⟩ := tk_num (B2.1 77 p) (n - p) p fm_fuel fm_fuel 0 (fm_up A2 1 8 2) (fm_up (fm_up B2 76 22 2) 76 23 0) (tb_cg h2 (fun q j z => fm_up_ne (by omega)) (fun q j z => by rw [fm_up_ne (by omega), fm_up_ne (by omega)])) (by rw [fm_up_ne (by omega)]; exact a7) (by rw [fm_up_ne (by omega), fm_up_ne (by omega)]; exact b20) (by rw [fm_up_ne (by omega)]; exact a10) fm_up_get (by omega) (by omega) (by unfold fm_fuel; omega) (by unfold fm_fuel; omega)
        rw [F_X6_readNumber, fm_lt, y4, fm_bd_s, fm_bd_s, y5, fm_bd_s]
        refine ⟨p, k2, A3, B3, x1, by omega, y2, rfl, rfl, y6, y7, by rw [y10 _ _ (by omega), fm_up_ne (by omega)]; exact a9, by rw [y11 _ _ (by omega), fm_up_ne (by omega), fm_up_ne (by omega)]; exact b21, ?_, fun _ => y12 z z1 z2 c (by rw [fm_up_ne (by omega)]; exact z3), fun q j w => by rw [y10 q j (by omega), fm_up_ne (by omega), fA q j (by omega)], fun q j w => by rw [y11 q j (by omega), fm_up_ne (by omega), fm_up_ne (by omega), fB q j (by omega)]⟩
        rw [y8, y9, y10 1 8 (by omega), fm_up_get, y11 76 22 (by omega), fm_up_ne (by omega), fm_up_get]
        exact Or.inr (Or.inr (Or.inl ⟨rfl, rfl, rfl, v, y3, rfl⟩))
    · rw [(d A2 B2).1, (d A2 B2).2, fm_bd_s, fm_bd_s, if_neg n10, if_neg n10]
      obtain ⟨l, v, A3, B3, y1, y2, y3, y4, y5, y6, y7, y8, y9, y10, y11⟩ := tk_lets (n := n) (p := p) (B2.1 77 p) (x := fun g => (B2.1 77 (p + g)).toNatClampNeg - 96) (n - p) 0 fm_fuel fm_fuel 0 A2 B2 (fun _ => by rw [wN]; rfl) h2 a7 a9 b20 (by omega) (by unfold fm_fuel; omega) (by unfold fm_fuel; omega) (fun g _ => rfl) (fun g hg => by omega)
      have l0 : 0 < l := y11 c ⟨z, z1, z2, z3⟩
      -- the letters, none behind the last
      generalize hx : (fun g => if g < l then (B2.1 77 (p + g)).toNatClampNeg - 96 else 0) = x
      have xl : ∀ g, g < l → x g = (B2.1 77 (p + g)).toNatClampNeg - 96 := fun g hg => by rw [← hx]; exact if_pos hg
      have x0 : ∀ g, l ≤ g → x g = 0 := fun g hg => by rw [← hx]; exact if_neg (by omega)
      have xb : ∀ g, g < l → 1 ≤ x g ∧ x g ≤ 26 := fun g hg => by rw [xl g hg]; exact y8 g hg
      have wh : ∀ B4 : fm_M, (∀ q j, (q ≠ 76 ∨ (j ≠ 22 ∧ j ≠ 23)) → B4.1 q j = B3.1 q j) → wH B4 p l x := fun B4 hB4 => by
        refine ⟨by rw [hB4 _ _ (by omega), y10 _ _ (by omega)]; exact b21, by rw [hB4 _ _ (by omega)]; exact y7, by omega, fun g hg => ⟨?_, xb g hg⟩⟩
        rw [hB4 _ _ (by omega), y10 _ _ (by omega), xl g hg]
        rcases h2.2.2.2.1 (p + g) (by omega) with ⟨w, w1, -, w3⟩ | ⟨w, w1, w2, w3, -⟩
        · have := y8 g hg
          rw [w3, nI_clamp (by omega)] at this ⊢
          congr 1; omega
        · have := y8 g hg
          rw [w3, nI_clamp (by omega)] at this ⊢
          congr 1; omega
      have b322 : B3.1 76 22 = B2.1 76 22 := y10 _ _ (by omega)
      have ev : l ≤ 6 → v = nI (wN x 6) := fun hl => by
        have e := wN_pad x0 (6 - l)
        rw [show l + (6 - l) = 6 by omega] at e
        rw [y4 hl, e, wN_cg l (fun g hg => (xl g hg).symm)]
      rw [F_X6_readWord, show G_X6_readWord_2 fm_fuel 0 A2 = _ from y3, fm_bd_s, fm_lt, fm_up_ne (show (1 : Nat) ≠ 1 ∨ (7 : Nat) ≠ 10 by omega), y6, fm_up_ne (show (1 : Nat) ≠ 1 ∨ (9 : Nat) ≠ 10 by omega), y9 1 9 (by omega), a9, pk_sub (by omega), show p + l - p = l by omega, y5, fm_bd_s]
      have frA : ∀ (A4 : fm_M), (∀ q j, (q ≠ 1 ∨ (j ≠ 8 ∧ j ≠ 10)) → A4.1 q j = A3.1 q j) → (A4.1 1 7 = nI (p + l) ∧ A4.1 1 9 = nI p ∧ ∀ q j, (q ≠ 1 ∨ j < 7 ∨ 10 < j) → A4.1 q j = A.1 q j) := fun A4 hA4 => ⟨by rw [hA4 _ _ (by omega)]; exact y6, by rw [hA4 _ _ (by omega), y9 _ _ (by omega)]; exact a9, fun q j w => by rw [hA4 q j (by omega), y9 q j (by omega), fA q j (by omega)]⟩
      have frB : ∀ (B4 : fm_M), (∀ q j, (q ≠ 76 ∨ (j ≠ 22 ∧ j ≠ 23)) → B4.1 q j = B3.1 q j) → (B4.1 76 20 = nI (p + l) ∧ B4.1 76 21 = nI p ∧ ∀ q j, (q ≠ 76 ∨ j < 20 ∨ 23 < j) → B4.1 q j = B.1 q j) := fun B4 hB4 => ⟨by rw [hB4 _ _ (by omega)]; exact y7, by rw [hB4 _ _ (by omega), y10 _ _ (by omega)]; exact b21, fun q j w => by rw [hB4 q j (by omega), y10 q j (by omega), fB q j (by omega)]⟩
      have fin : ∀ (A4 B4 : fm_M), (∀ q j, (q ≠ 1 ∨ (j ≠ 8 ∧ j ≠ 10)) → A4.1 q j = A3.1 q j) → (∀ q j, (q ≠ 76 ∨ (j ≠ 22 ∧ j ≠ 23)) → B4.1 q j = B3.1 q j) → tkr (A4.1 1 8) (A4.1 1 10) (B4.1 76 22) (B4.1 76 23) → ∃ (p k2 : Nat) (A2 B2 : fm_M), k ≤ p ∧ p ≤ k2 ∧ k2 ≤ n ∧ some ((), A4) = some ((), A2) ∧ some ((), B4) = some ((), B2) ∧ A2.1 1 7 = nI k2 ∧ B2.1 76 20 = nI k2 ∧ A2.1 1 9 = nI p ∧ B2.1 76 21 = nI p ∧ tkr (A2.1 1 8) (A2.1 1 10) (B2.1 76 22) (B2.1 76 23) ∧ (¬ A2.1 1 8 = 0 → p < k2) ∧ (∀ q j, (q ≠ 1 ∨ j < 7 ∨ 10 < j) → A2.1 q j = A.1 q j) ∧ (∀ q j, (q ≠ 76 ∨ j < 20 ∨ 23 < j) → B2.1 q j = B.1 q j) := fun A4 B4 u1 u2 u3 => ⟨p, p + l, A4, B4, x1, by omega, y2, rfl, rfl, (frA A4 u1).1, (frB B4 u2).1, (frA A4 u1).2.1, (frB B4 u2).2.1, u3, fun _ => by omega, (frA A4 u1).2.2, (frB B4 u2).2.2⟩
      by_cases hl : l ≤ 6
      · have w30 : wN x 6 < 2 ^ 30 := by
          have := wN_lt (x := x) 6 (fun g _ => by
            by_cases c : g < l
            · have := xb g c; omega
            · rw [x0 g (by omega)]; omega)
          have e : (32 : Nat) ^ 6 = 2 ^ 30 := rfl
          omega
        have tbw : iv_wd (fm_up A3 1 10 v) := fun i hi => by rw [fm_up_ne (by omega), y9 _ _ (by omega)]; exact h2.2.2.2.2 i hi
        rw [if_pos (show nI l ≤ 6 from nI_le (b := 6) hl (by omega)), ev hl]
        have mi : ∀ g, g < 22 → (wM x l g ↔ wiv g = wN x 6) := fun g hg => wM_iff hg hl xb x0
        have tw := cl_wordOf (v := wN x 6) (A := fm_up A3 1 10 (nI (wN x 6))) (by rw [← ev hl]; exact tbw) w30
        rcases md_wordF (wh B3 (fun _ _ _ => rfl)) with ⟨r, q1, q2, q3, q4⟩ | ⟨q1, q2⟩
        · rcases tw with ⟨r', s1, s2, s3, s4⟩ | ⟨s1, -⟩
          · have er : r' = r := by
              rcases Nat.lt_trichotomy r' r with w | w | w
              · exact absurd ((mi r' s1).mpr s2) (q3 r' w)
              · exact w
              · exact absurd ((mi r q1).mp q2) (s3 r w)
            subst er
            rw [s4, fm_bd_s, fm_lt, fm_bd_s, q4, fm_bd_s, fm_up_get, if_neg (nI_nm1 (by omega)), J_X10_token_127, fm_lt, fm_up_get, if_neg (by decide)]
            refine fin _ _ (fun q j w => by rw [fm_up_ne (by omega), fm_up_ne (by omega)]) (fun q j w => by rw [fm_up_ne (by omega), fm_up_ne (by omega)]) ?_
            rw [fm_up_get, fm_up_get, fm_up_ne (show (76 : Nat) ≠ 76 ∨ (23 : Nat) ≠ 22 by omega), fm_up_get]
            exact Or.inr (Or.inr (Or.inr (Or.inr (Or.inr ⟨r', s1, rfl, rfl, rfl⟩))))
          · exact absurd ((mi r q1).mp q2) (s1 r q1)
        · rcases tw with ⟨r', s1, s2, -, -⟩ | ⟨-, s4⟩
          · exact absurd ((mi r' s1).mpr s2) (q1 r' s1)
          · rw [s4, fm_bd_s, fm_lt, fm_bd_s, q2, fm_bd_s, fm_up_get, if_pos rfl, fm_up_ne (show (76 : Nat) ≠ 76 ∨ (20 : Nat) ≠ 23 by omega), y7, fm_up_ne (show (76 : Nat) ≠ 76 ∨ (21 : Nat) ≠ 23 by omega), y10 76 21 (by omega), b21, pk_sub (by omega), show p + l - p = l by omega, if_pos (show nI l ≤ 6 from nI_le (b := 6) hl (by omega)), J_X10_token_127, fm_lt, fm_up_get, if_pos rfl]
            obtain ⟨B5, n1, n2, n3⟩ := md_name (wh (fm_up (fm_up B3 76 23 (-1)) 76 22 1) (fun q j w => by rw [fm_up_ne (by omega), fm_up_ne (by omega)])) x0 hl
            rw [n1, fm_bd_s]
            refine fin _ B5 (fun q j w => by rw [fm_up_ne (by omega), fm_up_ne (by omega)]) (fun q j w => by rw [n3 q j (by omega), fm_up_ne (by omega), fm_up_ne (by omega)]) ?_
            rw [fm_up_get, fm_up_ne (show (1 : Nat) ≠ 1 ∨ (10 : Nat) ≠ 8 by omega), fm_up_get, n2, n3 76 22 (by omega), fm_up_get]
            exact Or.inr (Or.inr (Or.inr (Or.inl ⟨rfl, rfl, rfl⟩)))
      · rw [if_neg (show ¬ nI l ≤ 6 from nI_ge (a := 6) (by omega) (by omega)), fm_lt]
        rcases md_wordF (wh B3 (fun _ _ _ => rfl)) with ⟨r, q1, q2, -, -⟩ | ⟨-, q2⟩
        · have := (ww_1 r q1).2.1
          have := q2.1
          omega
        · rw [fm_bd_s, q2, fm_bd_s, fm_up_get, if_pos rfl, fm_up_ne (show (76 : Nat) ≠ 76 ∨ (20 : Nat) ≠ 23 by omega), y7, fm_up_ne (show (76 : Nat) ≠ 76 ∨ (21 : Nat) ≠ 23 by omega), y10 76 21 (by omega), b21, pk_sub (by omega), show p + l - p = l by omega, if_neg (show ¬ nI l ≤ 6 from nI_ge (a := 6) (by omega) (by omega)), J_X10_token_127, fm_lt, fm_up_get, if_neg (by decide)]
          refine fin _ _ (fun q j w => by rw [fm_up_ne (by omega), fm_up_ne (by omega)]) (fun q j w => by rw [fm_up_ne (by omega), fm_up_ne (by omega)]) ?_
          rw [fm_up_get, fm_up_get]
          exact Or.inr (Or.inl ⟨rfl, rfl⟩)
