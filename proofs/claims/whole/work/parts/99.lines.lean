/-! lines: steps that all of them share -/
def DF (A B : fm_M) : Prop := ∃ f : Nat, 1 ≤ f ∧ f ≤ 4 ∧ A.1 1 3 = nI f ∧ B.1 76 24 = nI f ∧ A.1 1 4 = B.1 76 25
theorem XF.d {A B : fm_M} {u : Nat} (h : XF A B u) : DF A B := by
  obtain ⟨f, h1, h2, h3, h4, h5, -⟩ := h
  exact ⟨f, h1, h2, h3, h4, h5⟩
theorem DF.a {A B : fm_M} (h : DF A B) : ¬ A.1 1 3 = 0 := by obtain ⟨f, h1, h2, h3, -⟩ := h; rw [h3]; exact nI_ne0 (by omega) (by omega)
theorem DF.b {A B : fm_M} (h : DF A B) : ¬ B.1 76 24 = 0 := by obtain ⟨f, h1, h2, -, h3, -⟩ := h; rw [h3]; exact nI_ne0 (by omega) (by omega)
/-- what a token step writes -/
def sA (q k : Nat) : Prop := q = 1 ∧ (k = 3 ∨ k = 4 ∨ (7 ≤ k ∧ k ≤ 10))
def sB (q k : Nat) : Prop := q = 76 ∧ 20 ≤ k ∧ k ≤ 25
def sfA (A A2 : fm_M) : Prop := ∀ q k, ¬ sA q k → A2.1 q k = A.1 q k
def sfB (B B2 : fm_M) : Prop := ∀ q k, ¬ sB q k → B2.1 q k = B.1 q k
theorem sfA_rf {A : fm_M} : sfA A A := fun _ _ _ => rfl
theorem sfB_rf {A : fm_M} : sfB A A := fun _ _ _ => rfl
theorem DF_cg {A B A2 B2 : fm_M} (h : DF A B) (hA : ∀ k, k < 7 → A2.1 1 k = A.1 1 k) (hB : ∀ k, 20 ≤ k → k ≤ 25 → B2.1 76 k = B.1 76 k) : DF A2 B2 := by
  obtain ⟨f, h1, h2, h3, h4, h5⟩ := h
  exact ⟨f, h1, h2, by rw [hA 3 (by omega)]; exact h3, by rw [hB 24 (by omega) (by omega)]; exact h4, by rw [hA 4 (by omega), hB 25 (by omega) (by omega)]; exact h5⟩
/-- what XR, DF and xb look at -/
def cA (u q k : Nat) : Prop := (q = 1 ∧ k ≠ 11) ∨ q = 2 ∨ q = 3 ∨ (q = u + 10 ∧ (k = 4 ∨ k = 5)) ∨ q = u + 13 ∨ q = u + 14
def cB (q k : Nat) : Prop := (q = 76 ∧ ((19 ≤ k ∧ k ≤ 25) ∨ k = 28 ∨ k = 29)) ∨ q = 77 ∨ (q = 78 ∧ k = 18) ∨ ((q = 90 ∨ q = 91) ∧ 64 ≤ k)
theorem XR_cg {A B A2 B2 : fm_M} {u n lo d L K : Nat} (h : XR A B u n lo d L K) (hA : ∀ q k, cA u q k → A2.1 q k = A.1 q k) (hB : ∀ q k, cB q k → B2.1 q k = B.1 q k) : XR A2 B2 u n lo d L K := by
  unfold cA at hA
  unfold cB at hB
  obtain ⟨⟨h1, h2, h3⟩, ⟨p, k, t1, t2, t3, t4, t5, t6, t7, t8, t9⟩, ⟨l1, l2, l3, l4, l5, l6⟩, h4, h5⟩ := h
  refine ⟨⟨by rw [hA _ _ (by omega)]; exact h1, by rw [hB _ _ (by omega)]; exact h2, by rw [hA _ _ (by omega), hB _ _ (by omega)]; exact h3⟩, ⟨p, k, t1, t2, t3, by rw [hA _ _ (by omega)]; exact t4, by rw [hB _ _ (by omega)]; exact t5, by rw [hA _ _ (by omega)]; exact t6, by rw [hB _ _ (by omega)]; exact t7, ?_, by rw [hA _ _ (by omega)]; exact t9⟩, ⟨by rw [hA _ _ (by omega)]; exact l1, by rw [hB _ _ (by omega)]; exact l2, by rw [hA _ _ (by omega)]; exact l3, by rw [hB _ _ (by omega)]; exact l4, l5, l6⟩, ⟨by rw [hB _ _ (by omega)]; exact h4.1, h4.2⟩, fun i hi => xtk_cg (h5 i hi) ⟨hA _ _ (by omega), hA _ _ (by omega), hB _ _ (by omega), hB _ _ (by omega)⟩⟩
  rw [hA 1 8 (by omega), hA 1 10 (by omega), hB 76 22 (by omega), hB 76 23 (by omega)]; exact t8
theorem xb_cg {A B A2 B2 : fm_M} {u n : Nat} (h : xb A B u n) (hA : ∀ q k, cA u q k → sA q k ∨ A2.1 q k = A.1 q k) (hB : ∀ q k, cB q k → sB q k ∨ B2.1 q k = B.1 q k) : xb A2 B2 u n := by
  unfold cA sA at hA
  unfold cB sB at hB
  have a : ∀ q k, (q = 1 ∧ (k = 5 ∨ k = 6)) ∨ q = 2 ∨ q = 3 → A2.1 q k = A.1 q k := fun q k z => (hA q k (by omega)).resolve_left (by omega)
  have b : ∀ q k, (q = 76 ∧ k = 19) ∨ q = 77 → B2.1 q k = B.1 q k := fun q k z => (hB q k (by omega)).resolve_left (by omega)
  obtain ⟨h1, ⟨g1, g2, g3, g4, g5⟩, h3⟩ := h
  exact ⟨h1, ⟨g1, by rw [a _ _ (by omega)]; exact g2, by rw [b _ _ (by omega)]; exact g3, fun i hi => by rw [a _ _ (by omega), b _ _ (by omega)]; exact g4 i hi, fun i hi => by rw [a _ _ (by omega)]; exact g5 i hi⟩, by rw [a _ _ (by omega)]; exact h3⟩
theorem xb_s {A B A2 B2 : fm_M} {u n : Nat} (h : xb A B u n) (hA : sfA A A2) (hB : sfB B B2) : xb A2 B2 u n :=
  xb_cg h (fun q k _ => by by_cases c : sA q k; exact Or.inl c; exact Or.inr (hA q k c)) (fun q k _ => by by_cases c : sB q k; exact Or.inl c; exact Or.inr (hB q k c))
theorem XR_lo {A B : fm_M} {u n lo lo2 d L K : Nat} (h : XR A B u n lo2 d L K) (hl : lo ≤ lo2) : XR A B u n lo d L K := by
  obtain ⟨h1, ⟨p, k, t1, t2⟩, h3⟩ := h
  exact ⟨h1, ⟨p, k, by omega, t2⟩, h3⟩
/-- on: at a token that is none of the end -/
theorem l_adv {A B : fm_M} {u n lo d L K : Nat} (hb : xb A B u n) (h : XR A B u n lo d L K) : ∃ A2 B2 : fm_M, F_X6_advance A = some ((), A2) ∧ F_X10_token B = some ((), B2) ∧ (¬ A.1 1 8 = 0 → XR A2 B2 u n (lo + 1) d L K) ∧ XR A2 B2 u n lo d L K ∧ (∀ q j, (q ≠ 1 ∨ j < 7 ∨ 10 < j) → A2.1 q j = A.1 q j) ∧ (∀ q j, (q ≠ 76 ∨ j < 20 ∨ 23 < j) → B2.1 q j = B.1 q j) := by
  obtain ⟨-, ⟨p, k, t1, t2, t3, t4, t5, t6, t7, t8, t9⟩, h3, h4, h5⟩ := id h
  have hn := hb.2.1.1
  obtain ⟨A2, B2, x1, x2, x3, x4, x5, x6⟩ := x_adv hb h (fun _ _ _ => rfl) (fun _ _ => rfl) h3 h4 h5
  refine ⟨A2, B2, x1, x2, fun z => ?_, x3, x4, x5⟩
  obtain ⟨p2, k2, g1, g2⟩ := x6 p t6 (by omega) z
  exact ⟨x3.1, ⟨p2, k2, by omega, g2⟩, x3.2.2⟩
theorem l_wr {A B : fm_M} {u n lo d L K f : Nat} (h : XR A B u n lo d L K) (hf : 1 ≤ f) (hf4 : f ≤ 4) : ∃ A2 B2 : fm_M, F_X6_refuse (nI f) A = some ((), A2) ∧ F_X10_wrong (nI f) B = some ((), B2) ∧ sfA A A2 ∧ sfB B B2 ∧ DF A2 B2 := by
  obtain ⟨⟨h1, h2, h3⟩, ⟨p, k, t1, t2, t3, t4, t5, t6, t7, t8, t9⟩, -⟩ := h
  rw [F_X6_refuse, if_pos h1, F_X10_wrong, if_pos h2]
  simp only [fm_lt]
  rw [fm_up_ne (by omega), t6, fm_up_ne (by omega), t7]
  exact ⟨_, _, rfl, rfl, fun q k z => by rw [fm_up_ne (by unfold sA at z; omega), fm_up_ne (by unfold sA at z; omega)], fun q k z => by rw [fm_up_ne (by unfold sB at z; omega), fm_up_ne (by unfold sB at z; omega)], f, hf, hf4, by rw [fm_up_ne (by omega), fm_up_get], by rw [fm_up_ne (by omega), fm_up_get], by rw [fm_up_get, fm_up_get]⟩
/-- a number that the text must have here -/
theorem l_num {A B : fm_M} {u n lo L K : Nat} {P : Prop} (hb : xb A B u n) (h : DF A B ∨ (XR A B u n lo 0 L K ∧ P)) (a b : Nat) (ha : a < 2 ^ 31) (hbb : b < 2 ^ 31) : ∃ (x y : Int32) (A2 B2 : fm_M), F_X6_number (nI a) (nI b) A = some (x, A2) ∧ F_X10_numeral (nI a) (nI b) B = some (y, B2) ∧ sfA A A2 ∧ sfB B B2 ∧ (DF A2 B2 ∨ (XR A2 B2 u n lo 0 L K ∧ P ∧ ∃ z : Nat, a ≤ z ∧ z ≤ b ∧ x = nI z ∧ y = nI z)) := by
  rcases h with h | ⟨h, hP⟩
  · rw [F_X6_number, if_neg h.a, F_X10_numeral, if_neg h.b]
    exact ⟨_, _, A, B, rfl, rfl, sfA_rf, sfB_rf, Or.inl h⟩
  · obtain ⟨⟨h1, h2, h3⟩, ⟨p, k, t1, t2, t3, t4, t5, t6, t7, t8, t9⟩, -⟩ := id h
    rw [F_X6_number, if_pos h1, fm_lt, F_X10_numeral, if_pos h2]
    have dead : ∀ f : Nat, 1 ≤ f → f ≤ 4 → ∀ x0 : Int32, ∃ (y : Int32) (A2 B2 : fm_M), fm_bd (F_X6_refuse (nI f) A) (fun _ M3 => some (x0, M3)) = some (x0, A2) ∧ fm_bd (F_X10_wrong (nI f) B) (fun _ M2 => J_X10_numeral_46 (nI a) (nI b) M2) = some (y, B2) ∧ sfA A A2 ∧ sfB B B2 ∧ DF A2 B2 := by
      intro f f1 f2 x0
      obtain ⟨A2, B2, x1, x2, x3, x4, x5⟩ := l_wr h f1 f2
      refine ⟨nI a, A2, B2, by rw [x1, fm_bd_s], ?_, x3, x4, x5⟩
      rw [x2, fm_bd_s, J_X10_numeral_46, if_neg x5.b]
    by_cases c : A.1 1 8 = 2
    · have t8 : B.1 76 22 = 2 ∧ A.1 1 10 = B.1 76 23 ∧ ∃ m : Nat, m ≤ 999999 ∧ A.1 1 10 = nI m := by
        rw [c] at t8
        rcases t8 with ⟨z, -⟩ | ⟨z, -⟩ | ⟨-, z2, z3, z4⟩ | ⟨z, -⟩ | ⟨-, z⟩ | ⟨j, j1, z, -⟩
        · exact absurd z (by decide)
        · exact absurd z (by decide)
        · exact ⟨z2, z3, z4⟩
        · exact absurd z (by decide)
        · obtain ⟨c, c1, c2, c3⟩ := sgt_c z
          have := (nI_eq (a := 2) (by omega) (by omega)).mp c3; omega
        · have := (nI_eq (a := 2) (by omega) (by omega)).mp z; omega
      obtain ⟨s1, s2, m, s3, s4⟩ := t8
      rw [if_pos c, if_pos s1, ← s2, s4, J_X10_numeral_41]
      by_cases c1 : m < a
      · rw [if_pos (nI_lt c1 ha), if_pos (nI_lt c1 ha)]
        obtain ⟨y, A2, B2, w⟩ := dead 2 (by omega) (by omega) (nI m)
        exact ⟨_, y, A2, B2, w.1, w.2.1, w.2.2.1, w.2.2.2.1, Or.inl w.2.2.2.2⟩
      · rw [if_neg (nI_nlt (by omega) (by omega)), if_neg (nI_nlt (by omega) (by omega))]
        by_cases c2 : m ≤ b
        · rw [if_pos (nI_le c2 hbb), if_pos (nI_le c2 hbb), J_X10_numeral_46, if_pos h2, fm_lt, ← s2, s4]
          obtain ⟨A2, B2, x1, x2, -, x3, x4, x5⟩ := l_adv hb h
          rw [x1, fm_bd_s, x2, fm_bd_s]
          exact ⟨_, _, A2, B2, rfl, rfl, fun q k z => x4 q k (by unfold sA at z; omega), fun q k z => x5 q k (by unfold sB at z; omega), Or.inr ⟨x3, hP, m, by omega, c2, rfl, rfl⟩⟩
        · rw [if_neg (nI_ge (by omega) (by omega)), if_neg (nI_ge (by omega) (by omega))]
          obtain ⟨y, A2, B2, w⟩ := dead 2 (by omega) (by omega) (nI m)
          exact ⟨_, y, A2, B2, w.1, w.2.1, w.2.2.1, w.2.2.2.1, Or.inl w.2.2.2.2⟩
    · have s1 : ¬ B.1 76 22 = 2 := by
        intro z
        rw [z] at t8
        rcases t8 with ⟨-, y⟩ | ⟨-, y⟩ | ⟨y, -⟩ | ⟨-, y, -⟩ | ⟨y, -⟩ | ⟨j, -, -, y, -⟩
        · exact absurd y (by decide)
        · exact absurd y (by decide)
        · exact c y
        · exact absurd y (by decide)
        · exact absurd y (by decide)
        · exact absurd y (by decide)
      rw [if_neg c, if_neg s1]
      obtain ⟨y, A2, B2, w⟩ := dead 1 (by omega) (by omega) (A.1 1 10)
      exact ⟨_, y, A2, B2, w.1, w.2.1, w.2.2.1, w.2.2.2.1, Or.inl w.2.2.2.2⟩
/-- the end of a line -/
theorem l_end {A B : fm_M} {u n lo L K : Nat} {P : Prop} (hb : xb A B u n) (h : DF A B ∨ (XR A B u n lo 0 L K ∧ P)) (l : Int32) : ∃ A2 B2 : fm_M, F_X6_pass 4 A = some ((), A2) ∧ J_X10_line_432_1 l B = some ((), B2) ∧ sfA A A2 ∧ (∀ q k, ¬ sB q k → (q ≠ 76 ∨ k ≠ 18) → B2.1 q k = B.1 q k) ∧ (DF A2 B2 ∨ (XR A2 B2 u n lo 0 L K ∧ P ∧ B2.1 76 18 = B.1 76 18 + 1)) := by
  rcases h with h | ⟨h, hP⟩
  · rw [F_X6_pass, if_neg h.a, J_X10_line_432_1, if_neg h.b]
    exact ⟨A, B, rfl, rfl, sfA_rf, fun _ _ _ _ => rfl, Or.inl h⟩
  · rw [F_X6_pass, if_pos h.1.1, J_X10_line_432_1, if_pos h.1.2.1]
    rcases md_isSign h (a := 4) (b := 59) (by unfold sgt; decide) with ⟨e1, e2, e3⟩ | ⟨e1, e2⟩
    · rw [if_pos e1, e2, fm_bd_s, if_neg n10]
      obtain ⟨A2, B2, x1, x2, -, x3, x4, x5⟩ := l_adv hb h
      rw [x1, fm_bd_s, x2, fm_bd_s, fm_lt, x5 76 18 (by omega)]
      exact ⟨A2, _, rfl, rfl, fun q k z => x4 q k (by unfold sA at z; omega), fun q k z z2 => by rw [fm_up_ne (by omega), x5 q k (by unfold sB at z; omega)], Or.inr ⟨XR_cg x3 (fun _ _ _ => rfl) (fun q k z => fm_up_ne (by unfold cB at z; omega)), hP, fm_up_get⟩⟩
    · rw [if_neg e1, e2, fm_bd_s, if_pos rfl]
      obtain ⟨A2, B2, x1, x2, x3, x4, x5⟩ := l_wr (f := 1) h (by omega) (by omega)
      rw [show F_X6_refuse 1 A = _ from x1, fm_bd_s, show F_X10_wrong 1 B = _ from x2, fm_bd_s, fm_lt]
      exact ⟨A2, _, rfl, rfl, x3, fun q k z z2 => by rw [fm_up_ne (by omega), x4 q k z], Or.inl (DF_cg x5 (fun _ _ => rfl) (fun k z1 z2 => fm_up_ne (by omega)))⟩
theorem md_e0 (a b : Int32) (M : fm_M) : J_X10_line_432 a b M = J_X10_line_432_1 a M := rfl
theorem md_e2 (a b : Int32) (M : fm_M) : J_X10_line_432_2 a b M = J_X10_line_432_1 a M := rfl
/-- a name that is new -/
theorem l_fresh {A B : fm_M} {u n lo L K x y cnt n1 n0 b0 : Nat} (hb : xb A B u n) (h : XR A B u n lo 0 L K) (hx : fm_arI x = some n1) (hy : fm_arI y = some n0) (hn : cnt ≤ n1) (hn1 : n1 < 2 ^ 31) (hbn : b0 + cnt ≤ n0) (hn0 : n0 < 2 ^ 31) (hk : ∀ k, k < cnt → A.1 x k = B.1 y (b0 + k)) (hf : cnt < 9000) : ∃ (r v w : Int32) (A2 B2 : fm_M), F_X8_placeOf (A.1 1 10) x (nI cnt) A = some (r, A) ∧ F_X6_newName r A = some (v, A2) ∧ F_X10_fresh y (nI b0) (nI cnt) B = some (w, B2) ∧ sfA A A2 ∧ sfB B B2 ∧ (DF A2 B2 ∨ (XR A2 B2 u n lo 0 L K ∧ v = w)) := by
  obtain ⟨⟨h1, h2, h3⟩, ⟨p, k, t1, t2, t3, t4, t5, t6, t7, t8, t9⟩, -⟩ := id h
  obtain ⟨r, e1, e2, e3⟩ := rl_placeF (A := A) (B := B) (l := A.1 1 10) hx hy hn hn1 hbn hn0 hk hf
  refine Exists.intro r ?_
  rw [e1, F_X10_fresh, hy]
  simp only [F_X6_newName, fm_lt]
  show ∃ (v w : Int32) (A2 B2 : fm_M), True ∧ (if A.1 1 8 = 3 then (if r = (-1) then (fm_bd (F_X6_advance A) (fun _ M3 => some (A.1 1 10, M3))) else (fm_bd (F_X6_refuse 3 A) (fun _ M5 => some (A.1 1 10, M5)))) else (fm_bd (F_X6_refuse 1 A) (fun _ M7 => some (A.1 1 10, M7)))) = some (v, A2) ∧ (if (B.1 76 24) = 0 then (if (B.1 76 22) = 1 then (fm_bd (F_X10_found y (nI b0) (nI cnt) (B.1 76 23) B) (fun v1 M2 => if v1 = (-1) then (J_X10_fresh_44 y n0 (nI b0) (nI cnt) M2) else (fm_bd (F_X10_wrong 3 M2) (fun _ M7 => J_X10_fresh_44 y n0 (nI b0) (nI cnt) M7)))) else (fm_bd (F_X10_wrong 1 B) (fun _ M9 => J_X10_fresh_44 y n0 (nI b0) (nI cnt) M9))) else (some (0, B))) = some (w, B2) ∧ sfA A A2 ∧ sfB B B2 ∧ (DF A2 B2 ∨ (XR A2 B2 u n lo 0 L K ∧ v = w))
  rw [if_pos h2]
  by_cases c : A.1 1 8 = 3
  · have t8 : B.1 76 22 = 1 ∧ A.1 1 10 = B.1 76 23 := by
      rw [c] at t8
      rcases t8 with ⟨z, -⟩ | ⟨z, -⟩ | ⟨z, -⟩ | ⟨-, z2, z3⟩ | ⟨-, z⟩ | ⟨j, j1, z, -⟩
      · exact absurd z (by decide)
      · exact absurd z (by decide)
      · exact absurd z (by decide)
      · exact ⟨z2, z3⟩
      · obtain ⟨c, c1, c2, c3⟩ := sgt_c z
        have := (nI_eq (a := 3) (by omega) (by omega)).mp c3; omega
      · have := (nI_eq (a := 3) (by omega) (by omega)).mp z; omega
    rw [if_pos c, if_pos t8.1, ← t8.2, e2, fm_bd_s]
    by_cases d : r = -1
    · obtain ⟨A2, B2, x1, x2, -, x3, x4, x5⟩ := l_adv hb h
      refine ⟨A.1 1 10, A.1 1 10, A2, B2, trivial, ?_, ?_, fun q k z => x4 q k (by unfold sA at z; omega), fun q k z => x5 q k (by unfold sB at z; omega), Or.inr ⟨x3, rfl⟩⟩
      · rw [if_pos d, x1, fm_bd_s]
      · rw [if_pos d, J_X10_fresh_44, if_pos h2, fm_lt, ← t8.2, x2, fm_bd_s]
    · obtain ⟨A2, B2, x1, x2, x3, x4, x5⟩ := l_wr (f := 3) h (by omega) (by omega)
      refine ⟨A.1 1 10, 0, A2, B2, trivial, ?_, ?_, x3, x4, Or.inl x5⟩
      · rw [if_neg d, show F_X6_refuse 3 A = _ from x1, fm_bd_s]
      · rw [if_neg d, show F_X10_wrong 3 B = _ from x2, fm_bd_s, J_X10_fresh_44, if_neg x5.b]
  · have s1 : ¬ B.1 76 22 = 1 := by
      intro z
      rw [z] at t8
      rcases t8 with ⟨-, y⟩ | ⟨-, y⟩ | ⟨-, y, -⟩ | ⟨y, -⟩ | ⟨y, -⟩ | ⟨j, -, -, y, -⟩
      · exact absurd y (by decide)
      · exact absurd y (by decide)
      · exact absurd y (by decide)
      · exact c y
      · exact absurd y (by decide)
      · exact absurd y (by decide)
    obtain ⟨A2, B2, x1, x2, x3, x4, x5⟩ := l_wr (f := 1) h (by omega) (by omega)
    refine ⟨A.1 1 10, 0, A2, B2, trivial, ?_, ?_, x3, x4, Or.inl x5⟩
    · rw [if_neg c, show F_X6_refuse 1 A = _ from x1, fm_bd_s]
    · rw [if_neg s1, show F_X10_wrong 1 B = _ from x2, fm_bd_s, J_X10_fresh_44, if_neg x5.b]
