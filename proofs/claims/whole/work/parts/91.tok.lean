/-! tokens: signs and numbers, class and reference -/
def ch (a b : Int32) : Prop := (∃ z : Nat, z < 128 ∧ a = nI z ∧ b = nI z) ∨ (∃ z : Nat, 128 ≤ z ∧ z < 256 ∧ b = nI z ∧ a < 0)
theorem ch_of : ∀ z : Nat, z < 256 → (z < 128 → (nI z).toInt8.toInt32 = nI z) ∧ (128 ≤ z → (nI z).toInt8.toInt32 < 0) := by decide +kernel
theorem ch_mk {z : Nat} (h : z < 256) : ch (nI z).toInt8.toInt32 (nI z) := by
  by_cases c : z < 128
  · exact Or.inl ⟨z, c, (ch_of z h).1 c, rfl⟩
  · exact Or.inr ⟨z, by omega, h, rfl, (ch_of z h).2 (by omega)⟩
theorem ch_lt {a : Int32} {c : Nat} (h : a < 0) (hc : c < 2 ^ 31) : a < nI c := Int32.lt_iff_toInt_lt.mpr (by
  have := Int32.lt_iff_toInt_lt.mp h
  rw [show (0 : Int32).toInt = 0 from rfl] at this
  rw [nI_toInt hc]; omega)
theorem ch_eq {a b : Int32} (h : ch a b) {c : Nat} (hc : c < 128) : a = nI c ↔ b = nI c := by
  rcases h with ⟨z, h1, rfl, rfl⟩ | ⟨z, h1, h2, rfl, h3⟩
  · exact Iff.rfl
  · refine ⟨fun e => absurd (e ▸ h3) (nI_pos (by omega)), fun e => ?_⟩
    have := (nI_eq (by omega) (by omega)).mp e
    omega
/-- letters and digits -/
theorem ch_let {a b : Int32} (h : ch a b) : (∀ M N, F_X6_isLetter a M = some (0, M) ∧ F_X10_isSmall b N = some (0, N)) ∨ ∃ z : Nat, 97 ≤ z ∧ z ≤ 122 ∧ a = nI z ∧ b = nI z ∧ ∀ M N, F_X6_isLetter a M = some (1, M) ∧ F_X10_isSmall b N = some (1, N) := by
  rcases h with ⟨z, h1, rfl, rfl⟩ | ⟨z, h1, h2, rfl, h3⟩
  · by_cases c : z < 97
    · refine Or.inl fun M N => ?_
      rw [F_X6_isLetter, F_X10_isSmall, if_pos (show nI z < 97 from nI_lt (b := 97) c (by omega))]; exact ⟨rfl, if_pos (show nI z < 97 from nI_lt (b := 97) c (by omega))⟩
    · by_cases d : 122 < z
      · refine Or.inl fun M N => ?_
        rw [F_X6_isLetter, F_X10_isSmall, if_neg (show ¬ nI z < 97 from nI_nlt (b := 97) (by omega) (by omega)), if_neg (show ¬ nI z < 97 from nI_nlt (b := 97) (by omega) (by omega)), if_pos (show (122 : Int32) < nI z from nI_lt (a := 122) d (by omega)), if_pos (show (122 : Int32) < nI z from nI_lt (a := 122) d (by omega))]; exact ⟨rfl, rfl⟩
      · refine Or.inr ⟨z, by omega, by omega, rfl, rfl, fun M N => ?_⟩
        rw [F_X6_isLetter, F_X10_isSmall, if_neg (show ¬ nI z < 97 from nI_nlt (b := 97) (by omega) (by omega)), if_neg (show ¬ nI z < 97 from nI_nlt (b := 97) (by omega) (by omega)), if_neg (show ¬ (122 : Int32) < nI z from nI_nlt (a := 122) (by omega) (by omega)), if_neg (show ¬ (122 : Int32) < nI z from nI_nlt (a := 122) (by omega) (by omega))]; exact ⟨rfl, rfl⟩
  · refine Or.inl fun M N => ?_
    rw [F_X6_isLetter, F_X10_isSmall, if_pos (show a < 97 from ch_lt (c := 97) h3 (by omega)), if_neg (show ¬ nI z < 97 from nI_nlt (b := 97) (by omega) (by omega)), if_pos (show (122 : Int32) < nI z from nI_lt (a := 122) (by omega) (by omega))]; exact ⟨rfl, rfl⟩
theorem ch_dig {a b : Int32} (h : ch a b) : (∀ M N, F_X6_isDigit a M = some (0, M) ∧ F_X10_isDigit b N = some (0, N)) ∨ ∃ z : Nat, 48 ≤ z ∧ z ≤ 57 ∧ a = nI z ∧ b = nI z ∧ ∀ M N, F_X6_isDigit a M = some (1, M) ∧ F_X10_isDigit b N = some (1, N) := by
  rcases h with ⟨z, h1, rfl, rfl⟩ | ⟨z, h1, h2, rfl, h3⟩
  · by_cases c : z < 48
    · refine Or.inl fun M N => ?_
      rw [F_X6_isDigit, F_X10_isDigit, if_pos (show nI z < 48 from nI_lt (b := 48) c (by omega))]; exact ⟨rfl, if_pos (show nI z < 48 from nI_lt (b := 48) c (by omega))⟩
    · by_cases d : 57 < z
      · refine Or.inl fun M N => ?_
        rw [F_X6_isDigit, F_X10_isDigit, if_neg (show ¬ nI z < 48 from nI_nlt (b := 48) (by omega) (by omega)), if_neg (show ¬ nI z < 48 from nI_nlt (b := 48) (by omega) (by omega)), if_pos (show (57 : Int32) < nI z from nI_lt (a := 57) d (by omega)), if_pos (show (57 : Int32) < nI z from nI_lt (a := 57) d (by omega))]; exact ⟨rfl, rfl⟩
      · refine Or.inr ⟨z, by omega, by omega, rfl, rfl, fun M N => ?_⟩
        rw [F_X6_isDigit, F_X10_isDigit, if_neg (show ¬ nI z < 48 from nI_nlt (b := 48) (by omega) (by omega)), if_neg (show ¬ nI z < 48 from nI_nlt (b := 48) (by omega) (by omega)), if_neg (show ¬ (57 : Int32) < nI z from nI_nlt (a := 57) (by omega) (by omega)), if_neg (show ¬ (57 : Int32) < nI z from nI_nlt (a := 57) (by omega) (by omega))]; exact ⟨rfl, rfl⟩
  · refine Or.inl fun M N => ?_
    rw [F_X6_isDigit, F_X10_isDigit, if_pos (show a < 48 from ch_lt (c := 48) h3 (by omega)), if_neg (show ¬ nI z < 48 from nI_nlt (b := 48) (by omega) (by omega)), if_pos (show (57 : Int32) < nI z from nI_lt (a := 57) (by omega) (by omega))]; exact ⟨rfl, rfl⟩
/-- what is read, and how far -/
def tb (A B : fm_M) (n : Nat) : Prop := n ≤ 700 ∧ A.1 1 6 = nI n ∧ B.1 76 19 = nI n ∧ (∀ i, i < n → ch (A.1 2 i) (B.1 77 i)) ∧ iv_wd A
theorem tb_cg {A B A2 B2 : fm_M} {n : Nat} (h : tb A B n) (hA : ∀ q k, (q = 1 ∧ k = 6) ∨ q = 2 ∨ q = 3 → A2.1 q k = A.1 q k) (hB : ∀ q k, (q = 76 ∧ k = 19) ∨ q = 77 → B2.1 q k = B.1 q k) : tb A2 B2 n := by
  obtain ⟨h1, h2, h3, h4, h5⟩ := h
  exact ⟨h1, by rw [hA _ _ (by omega)]; exact h2, by rw [hB _ _ (by omega)]; exact h3, fun i hi => by rw [hA _ _ (by omega), hB _ _ (by omega)]; exact h4 i hi, fun i hi => by rw [hA _ _ (by omega)]; exact h5 i hi⟩
theorem md_here {A B : fm_M} {n k : Nat} (h : tb A B n) (hk : B.1 76 20 = nI k) (hkn : k ≤ n) : (n ≤ k ∧ F_X10_here B = some (-1, B)) ∨ (k < n ∧ F_X10_here B = some (B.1 77 k, B)) := by
  obtain ⟨h1, h2, h3, -⟩ := h
  rw [F_X10_here, h3, hk]
  by_cases c : n ≤ k
  · exact Or.inl ⟨c, if_pos (nI_le c (by omega))⟩
  · refine Or.inr ⟨by omega, ?_⟩
    rw [if_neg (nI_ge (by omega) (by omega)), fm_gd_t (nu_inb (by omega) (by omega)), nI_clamp (by omega)]
theorem ch_nm1 {a b : Int32} (h : ch a b) : ¬ b = -1 := by
  rcases h with ⟨z, h1, rfl, rfl⟩ | ⟨z, h1, h2, rfl, h3⟩
  · exact nI_nm1 (by omega)
  · exact nI_nm1 (by omega)
theorem tk_skip {n : Nat} : ∀ (m k fa fb : Nat) (A B : fm_M), tb A B n → A.1 1 7 = nI k → B.1 76 20 = nI k → k + m = n → m < fa → m < fb → ∃ (k2 : Nat) (A2 B2 : fm_M), k ≤ k2 ∧ k2 ≤ n ∧ G_X6_advance_0 fa A = some ((), A2) ∧ G_X10_token_0 fb B = some ((), B2) ∧ A2.1 1 7 = nI k2 ∧ B2.1 76 20 = nI k2 ∧ (∀ q j, (q ≠ 1 ∨ j ≠ 7) → A2.1 q j = A.1 q j) ∧ (∀ q j, (q ≠ 76 ∨ j ≠ 20) → B2.1 q j = B.1 q j) := by
  intro m
  induction m with
  | zero =>
    intro k fa fb A B h hA hB hk hfa hfb
    obtain ⟨fa, rfl⟩ : ∃ z, fa = z + 1 := ⟨fa - 1, by omega⟩
    obtain ⟨fb, rfl⟩ : ∃ z, fb = z + 1 := ⟨fb - 1, by omega⟩
    rcases md_here h hB (by omega) with ⟨c, e⟩ | ⟨c, e⟩
    · rw [G_X6_advance_0, h.2.1, hA, if_pos (nI_le (by omega) (by have := h.1; omega)), G_X10_token_0, e, fm_bd_s, if_neg (show ¬ (-1 : Int32) = 10 by decide), e, fm_bd_s, if_neg (show ¬ (-1 : Int32) = 32 by decide)]
      exact ⟨k, A, B, by omega, by omega, rfl, rfl, hA, hB, fun _ _ _ => rfl, fun _ _ _ => rfl⟩
    · omega
  | succ m ih =>
    intro k fa fb A B h hA hB hk hfa hfb
    obtain ⟨fa, rfl⟩ : ∃ z, fa = z + 1 := ⟨fa - 1, by omega⟩
    obtain ⟨fb, rfl⟩ : ∃ z, fb = z + 1 := ⟨fb - 1, by omega⟩
    have hn := h.1
    have hc := h.2.2.2.1 k (by omega)
    have kb : fm_inb (nI k) 700 = true := nu_inb (by omega) (by omega)
    have kc : Int32.toNatClampNeg (nI k) = k := nI_clamp (by omega)
    rcases md_here h hB (by omega) with ⟨c, e⟩ | ⟨c, e⟩
    · omega
    have nx : ∃ (k2 : Nat) (A2 B2 : fm_M), k ≤ k2 ∧ k2 ≤ n ∧ G_X6_advance_0 fa (fm_up A 1 7 (nI (k + 1))) = some ((), A2) ∧ G_X10_token_0 fb (fm_up B 76 20 (nI (k + 1))) = some ((), B2) ∧ A2.1 1 7 = nI k2 ∧ B2.1 76 20 = nI k2 ∧ (∀ q j, (q ≠ 1 ∨ j ≠ 7) → A2.1 q j = A.1 q j) ∧ (∀ q j, (q ≠ 76 ∨ j ≠ 20) → B2.1 q j = B.1 q j) := by
      obtain ⟨k2, A2, B2, x1, x2, x3, x4, x5, x6, x7, x8⟩ := ih (k + 1) fa fb (fm_up A 1 7 (nI (k + 1))) (fm_up B 76 20 (nI (k + 1))) (tb_cg h (fun q j z => fm_up_ne (by omega)) (fun q j z => fm_up_ne (by omega))) fm_up_get fm_up_get (by omega) (by omega) (by omega)
      exact ⟨k2, A2, B2, by omega, x2, x3, x4, x5, x6, fun q j z => by rw [x7 q j z, fm_up_ne z], fun q j z => by rw [x8 q j z, fm_up_ne z]⟩
    rw [G_X6_advance_0, h.2.1, hA, if_neg (nI_ge (by omega) (by omega)), fm_gd_t kb, kc, fm_gd_t kb, G_X10_token_0, e, fm_bd_s, e, fm_bd_s]
    simp only [fm_lt]
    rw [hB, nI_1]
    have e32 : (A.1 2 k = 32) ↔ (B.1 77 k = 32) := ch_eq hc (c := 32) (by omega)
    have e10 : (A.1 2 k = 10) ↔ (B.1 77 k = 10) := ch_eq hc (c := 10) (by omega)
    by_cases c1 : B.1 77 k = 32
    · rw [if_pos (e32.mpr c1), if_neg (show ¬ B.1 77 k = 10 by rw [c1]; decide), if_pos c1]; exact nx
    · rw [if_neg (fun z => c1 (e32.mp z)), if_neg c1]
      by_cases c2 : B.1 77 k = 10
      · rw [if_pos (e10.mpr c2), if_pos c2]; exact nx
      · rw [if_neg (fun z => c2 (e10.mp z)), if_neg c2]
        exact ⟨k, A, B, by omega, by omega, rfl, rfl, hA, hB, fun _ _ _ => rfl, fun _ _ _ => rfl⟩
/-- numbers -/
theorem tk_num {n : Nat} (l1 : Int32) : ∀ (m k fa fb v : Nat) (A B : fm_M), tb A B n → A.1 1 7 = nI k → B.1 76 20 = nI k → A.1 1 10 = nI v → B.1 76 23 = nI v → v ≤ 999999 → k + m = n → m < fa → m < fb → ∃ (k2 v2 : Nat) (A2 B2 : fm_M), k ≤ k2 ∧ k2 ≤ n ∧ v2 ≤ 999999 ∧ G_X6_readNumber_5 fa A = some ((), A2) ∧ G_X10_token_162 fb l1 B = some ((), B2) ∧ A2.1 1 7 = nI k2 ∧ B2.1 76 20 = nI k2 ∧ A2.1 1 10 = nI v2 ∧ B2.1 76 23 = nI v2 ∧ (∀ q j, (q ≠ 1 ∨ (j ≠ 7 ∧ j ≠ 10)) → A2.1 q j = A.1 q j) ∧ (∀ q j, (q ≠ 76 ∨ (j ≠ 20 ∧ j ≠ 23)) → B2.1 q j = B.1 q j) ∧ (∀ z, 48 ≤ z → z ≤ 57 → k < n → A.1 2 k = nI z → k < k2) := by
  intro m
  induction m with
  | zero =>
    intro k fa fb v A B h hA hB hvA hvB hv hk hfa hfb
    obtain ⟨fa, rfl⟩ : ∃ z, fa = z + 1 := ⟨fa - 1, by omega⟩
    obtain ⟨fb, rfl⟩ : ∃ z, fb = z + 1 := ⟨fb - 1, by omega⟩
    rcases md_here h hB (by omega) with ⟨c, e⟩ | ⟨c, e⟩
    · rw [G_X6_readNumber_5, h.2.1, hA, if_pos (nI_le (by omega) (by have := h.1; omega)), G_X10_token_162, e, fm_bd_s, F_X10_isDigit, if_pos (by decide), fm_bd_s, if_pos rfl]
      exact ⟨k, v, A, B, by omega, by omega, hv, rfl, rfl, hA, hB, hvA, hvB, fun _ _ _ => rfl, fun _ _ _ => rfl, fun z _ _ w => by omega⟩
    · omega
  | succ m ih =>
    intro k fa fb v A B h hA hB hvA hvB hv hk hfa hfb
    obtain ⟨fa, rfl⟩ : ∃ z, fa = z + 1 := ⟨fa - 1, by omega⟩
    obtain ⟨fb, rfl⟩ : ∃ z, fb = z + 1 := ⟨fb - 1, by omega⟩
    have hn := h.1
    have hc := h.2.2.2.1 k (by omega)
    have kb : fm_inb (nI k) 700 = true := nu_inb (by omega) (by omega)
    have kc : Int32.toNatClampNeg (nI k) = k := nI_clamp (by omega)
    rcases md_here h hB (by omega) with ⟨c, e⟩ | ⟨c, e⟩
    · omega
    rw [G_X6_readNumber_5, h.2.1, hA, if_neg (nI_ge (by omega) (by omega)), fm_gd_t kb, kc, G_X10_token_162, e, fm_bd_s]
    rcases ch_dig hc with d | ⟨z, z1, z2, z3, z4, d⟩
    · rw [(d A B).1, (d A B).2, fm_bd_s, fm_bd_s, if_pos rfl, if_pos rfl]
      refine ⟨k, v, A, B, by omega, by omega, hv, rfl, rfl, hA, hB, hvA, hvB, fun _ _ _ => rfl, fun _ _ _ => rfl, fun z a b _ w => ?_⟩
      exfalso
      have := (d A B).1
      rw [w, F_X6_isDigit, if_neg (show ¬ nI z < 48 from nI_nlt (b := 48) (by omega) (by omega)), if_neg (show ¬ (57 : Int32) < nI z from nI_nlt (a := 57) (by omega) (by omega))] at this
      exact absurd (congrArg Prod.fst (Option.some.inj this)) n10
    · rw [(d A B).1, (d A B).2, fm_bd_s, fm_bd_s, if_neg n10, if_neg n10, hvA, hvB]
      have nx : ∀ w : Nat, w ≤ 999999 → ∃ (k2 v2 : Nat) (A2 B2 : fm_M), k ≤ k2 ∧ k2 ≤ n ∧ v2 ≤ 999999 ∧ J_X6_readNumber_68 (G_X6_readNumber_5 fa) (nI w) A = some ((), A2) ∧ J_X10_token_204 (G_X10_token_162 fb l1) l1 (nI w) B = some ((), B2) ∧ A2.1 1 7 = nI k2 ∧ B2.1 76 20 = nI k2 ∧ A2.1 1 10 = nI v2 ∧ B2.1 76 23 = nI v2 ∧ (∀ q j, (q ≠ 1 ∨ (j ≠ 7 ∧ j ≠ 10)) → A2.1 q j = A.1 q j) ∧ (∀ q j, (q ≠ 76 ∨ (j ≠ 20 ∧ j ≠ 23)) → B2.1 q j = B.1 q j) ∧ (∀ z, 48 ≤ z → z ≤ 57 → k < n → A.1 2 k = nI z → k < k2) := by
        intro w hw
        rw [J_X6_readNumber_68, J_X10_token_204]
        simp only [fm_lt]
        rw [fm_up_ne (show (1 : Nat) ≠ 1 ∨ (7 : Nat) ≠ 10 by omega), hA, nI_1, fm_up_ne (show (76 : Nat) ≠ 76 ∨ (20 : Nat) ≠ 23 by omega), hB, nI_1]
        obtain ⟨k2, v2, A2, B2, x1, x2, x3, x4, x5, x6, x7, x8, x9, x10, x11, -⟩ := ih (k + 1) fa fb w (fm_up (fm_up A 1 10 (nI w)) 1 7 (nI (k + 1))) (fm_up (fm_up B 76 23 (nI w)) 76 20 (nI (k + 1))) (tb_cg h (fun q j z => by rw [fm_up_ne (by omega), fm_up_ne (by omega)]) (fun q j z => by rw [fm_up_ne (by omega), fm_up_ne (by omega)])) fm_up_get fm_up_get (by rw [fm_up_ne (by omega), fm_up_get]) (by rw [fm_up_ne (by omega), fm_up_get]) hw (by omega) (by omega) (by omega)
        exact ⟨k2, v2, A2, B2, by omega, x2, x3, x4, x5, x6, x7, x8, x9, fun q j z => by rw [x10 q j z, fm_up_ne (by omega), fm_up_ne (by omega)], fun q j z => by rw [x11 q j z, fm_up_ne (by omega), fm_up_ne (by omega)], fun _ _ _ _ _ => by omega⟩
      by_cases cv : v ≤ 99999
      · have e1 : (nI v * 10 + A.1 2 k - 48 : Int32) = nI (v * 10 + z - 48) := by rw [z3, show (10 : Int32) = nI 10 from rfl, pk_mul, nI_add, show (48 : Int32) = nI 48 from rfl, pk_sub (by omega)]
        have e2 : (10 * nI v + B.1 77 k - 48 : Int32) = nI (v * 10 + z - 48) := by rw [z4, show (10 : Int32) = nI 10 from rfl, pk_mul, nI_add, show (48 : Int32) = nI 48 from rfl, pk_sub (by omega), Nat.mul_comm]
        rw [if_pos (show nI v ≤ 99999 from nI_le (b := 99999) cv (by omega)), if_pos (show nI v ≤ 99999 from nI_le (b := 99999) cv (by omega)), hA, fm_gd_t kb, kc, e, fm_bd_s, e1, e2]
        exact nx (v * 10 + z - 48) (by omega)
      · rw [if_neg (show ¬ nI v ≤ 99999 from nI_ge (a := 99999) (by omega) (by omega)), if_neg (show ¬ nI v ≤ 99999 from nI_ge (a := 99999) (by omega) (by omega))]
        exact nx v hv
/-- the signs' codes: the class's token, the reference's value -/
def sgt (t w : Int32) : Prop := (t = 4 ∧ w = 59) ∨ (t = 5 ∧ w = 40) ∨ (t = 6 ∧ w = 41) ∨ (t = 7 ∧ w = 60) ∨ (t = 8 ∧ w = 256) ∨ (t = 9 ∧ w = 61) ∨ (t = 10 ∧ w = 257) ∨ (t = 11 ∧ w = 258) ∨ (t = 12 ∧ w = 62) ∨ (t = 13 ∧ w = 43) ∨ (t = 14 ∧ w = 45) ∨ (t = 15 ∧ w = 42) ∨ (t = 16 ∧ w = 47)
theorem sg_else {l1 s0 : Int32} {M : fm_M} (h40 : ¬ l1 = 40) (h41 : ¬ l1 = 41) (h42 : ¬ l1 = 42) (h43 : ¬ l1 = 43) (h45 : ¬ l1 = 45) (h47 : ¬ l1 = 47) (h59 : ¬ l1 = 59) (h60 : ¬ l1 = 60) (h61 : ¬ l1 = 61) (h62 : ¬ l1 = 62) : J_X6_readSign_44 l1 s0 M = J_X6_readSign_278 l1 s0 (fm_up M 1 8 1) := by
  simp only [J_X6_readSign_44, if_neg h40, if_neg h41, if_neg h42, if_neg h43, if_neg h45, if_neg h47, if_neg h59, if_neg h60, if_neg h61, if_neg h62, fm_lt, ite_self]
theorem sg_278 {l1 s0 t : Int32} {M : fm_M} (h8 : ¬ t = 8) (h10 : ¬ t = 10) (h11 : ¬ t = 11) : J_X6_readSign_278 l1 s0 (fm_up M 1 8 t) = some ((), fm_up M 1 8 t) := by
  rw [J_X6_readSign_278, fm_up_get, if_neg h8, if_neg h10, if_neg h11]
theorem sg_278y {l1 s0 t : Int32} {M : fm_M} (h : t = 8 ∨ t = 10 ∨ t = 11) : J_X6_readSign_278 l1 s0 (fm_up M 1 8 t) = some ((), fm_up (fm_up M 1 8 t) 1 7 (M.1 1 7 + 1)) := by
  rw [J_X6_readSign_278, fm_up_get, fm_up_ne (show (1 : Nat) ≠ 1 ∨ (7 : Nat) ≠ 8 by omega)]
  rcases h with rfl | rfl | rfl
  · rw [if_pos rfl]; rfl
  · rw [if_neg (by decide), if_pos rfl]; rfl
  · rw [if_neg (by decide), if_neg (by decide), if_pos rfl]; rfl
theorem sg_150 {l1 w : Int32} {M : fm_M} (h : M.1 76 23 = w) (hw : w < 256) : J_X10_sign_150 l1 M = some ((), M) := by
  rw [J_X10_sign_150, h, if_pos hw]
theorem sg_150y {l1 w : Int32} {M : fm_M} (h : M.1 76 23 = w) (hw : ¬ w < 256) : J_X10_sign_150 l1 M = some ((), fm_up M 76 20 (M.1 76 20 + 1)) := by
  rw [J_X10_sign_150, h, if_neg hw]; rfl
