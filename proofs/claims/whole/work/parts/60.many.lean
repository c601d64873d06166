/-! many days; class and reference -/
def fm_nW : List (Nat × Option Nat) → Nat → Nat → Prop
  | [], _, _ => True
  | (p, none) :: l, q, k => q ≠ p ∧ fm_nW l q k
  | (p, some j) :: l, q, k => (q ≠ p ∨ k ≠ j) ∧ fm_nW l q k
theorem fm_nW_ok {q k : Nat} : ∀ {l : List (Nat × Option Nat)}, fm_nW l q k → ¬ fm_W l q k
  | [], _ => by rintro ⟨e, he, -⟩; exact absurd he (by simp)
  | (p, none) :: l, h => by
    rintro ⟨e, he, h1, h2⟩
    rcases List.mem_cons.mp he with rfl | he
    · exact h.1 h1
    · exact fm_nW_ok h.2 ⟨e, he, h1, h2⟩
  | (p, some j) :: l, h => by
    rintro ⟨e, he, h1, h2⟩
    rcases List.mem_cons.mp he with rfl | he
    · rcases h2 with h2 | h2
      · cases h2
      · have := Option.some.inj h2
        rcases h.1 with z | z
        · exact z h1
        · exact z this.symm
    · exact fm_nW_ok h.2 ⟨e, he, h1, h2⟩
theorem fr_u {α : Type} {l : List (Nat × Option Nat)} {M : fm_M} {o : Option (α × fm_M)} {v : α} {M2 : fm_M} (h : fm_Fr (fm_W l) M o) (e : o = some (v, M2)) (q k : Nat) (hq : fm_nW l q k) : M2.1 q k = M.1 q k := h (v, M2) e q k (fm_nW_ok hq)
theorem fA_passDay {A A2 : fm_M} {p t : Nat} {u : Unit} (e : F_X7_passDay p t A = some (u, A2)) (q k : Nat) (h0 : q ≠ p ∨ (k ≠ 0 ∧ k ≠ 4)) (h1 : q ≠ p + 1) (h4 : q ≠ p + 4) (h5 : q ≠ p + 5) (h6 : q ≠ t + 15) : A2.1 q k = A.1 q k := fr_u (fr_X7_passDay p t A) e q k (by simp only [fm_nW, and_true]; omega)
theorem rl_w_cg {A B A2 B2 : fm_M} {t : Nat} (h : rl_w A B t) (hA : ∀ q k, q = t ∨ q = t + 9 → A2.1 q k = A.1 q k) (hB : ∀ q k, q = 78 ∨ q = 87 → B2.1 q k = B.1 q k) : rl_w A2 B2 t := by
  obtain ⟨nw, h1, h2, h3, h4⟩ := h
  refine ⟨nw, h1, by rw [hA _ _ (by omega)]; exact h2, by rw [hB _ _ (by omega)]; exact h3, fun k hk => by rw [hA _ _ (by omega), hB _ _ (by omega)]; exact h4 k hk⟩
theorem md_damp_w {B : fm_M} {c dd : Nat} (h1 : ¬ B.1 76 43 = 1) (h2 : B.1 76 45 = -1) (h3 : B.1 94 c = nI dd) : md_damp B c = md_wet B (nI dd) := by
  unfold md_damp
  rw [if_neg h1, if_pos h2, h3]
theorem md_wet_cg {B B2 : fm_M} {d : Int32} (hB : ∀ q k, q = 78 ∨ q = 87 → B2.1 q k = B.1 q k) : md_wet B2 d = md_wet B d := by
  unfold md_wet
  rw [hB 78 3 (by omega), hB 87 _ (by omega)]
/-- the class's damp may be set: nothing of rl_d speaks of it -/
theorem rl_d_dp {A B : fm_M} {p t c nf nm : Nat} (x : Int32) (h : rl_d A B p t c nf nm) : rl_d (fm_up A p 1 x) B p t c nf nm := by
  obtain ⟨⟨hp, ht, hok, hnf, hlw, hday⟩, hfk, hcs, hmo⟩ := h
  have hp3 := rl_st3 hp
  have ht2 := fm_td ht
  have hA : ∀ q k, (q ≠ p ∨ k ≠ 1) → (fm_up A p 1 x).1 q k = A.1 q k := fun q k z => fm_up_ne z
  generalize fm_up A p 1 x = A2 at *
  refine ⟨⟨hp, ht, hok, hnf, fun r hr => ev_law_cg (hlw r hr) (fun q k h1 h2 => hA q k (by omega)) (fun _ _ _ _ => rfl), by rw [hA _ _ (by omega)]; exact hday⟩, fun f hf => ?_, ?_, fun m hm => ?_⟩
  · simp (disch := omega) only [hA]; exact hfk f hf
  · simp (disch := omega) only [hA]; exact hcs
  · simp (disch := omega) only [hA]; exact hmo m hm
theorem rl_v_cg {A A2 : fm_M} {p nm : Nat} (h : rl_v A p nm) (hA : ∀ q k, q = p + 4 ∨ q = p + 5 → A2.1 q k = A.1 q k) : rl_v A2 p nm := by
  intro m hm
  simp (disch := omega) only [hA]
  exact h m hm
theorem rl_pb_cg {A A2 : fm_M} {p t nf : Nat} (h : rl_pb A p t nf) (hA : ∀ q k, q = p + 1 ∨ q = t → A2.1 q k = A.1 q k) : rl_pb A2 p t nf := by
  refine ⟨fun f hf => ?_, ?_⟩
  · simp (disch := omega) only [hA]; exact h.1 f hf
  · simp (disch := omega) only [hA]; exact h.2

theorem rl_days1 {p t nf nm n : Nat} (hn : n < 2 ^ 31) : ∀ (m i fa fb dd : Nat) (A B : fm_M), rl_d A B p t 1 nf nm → rl_v A p nm → rl_pb A p t nf → rl_w A B t → A.1 p 1 = md_damp B 1 → ¬ B.1 76 43 = 1 → B.1 76 45 = -1 → B.1 94 1 = nI dd → dd + m < 100000 → i + m = n → m < fa → m < fb → ∃ (A2 B2 : fm_M), G_X7_passDays_2 fa p t (nI n) (nI i) A = some (nI n, A2) ∧ G_X10_goesOn_2 fb (nI n) (nI i) B = some (nI n, B2) ∧ rl_d A2 B2 p t 1 nf nm ∧ rl_v A2 p nm ∧ rl_pb A2 p t nf ∧ A2.1 p 1 = md_damp B2 1 ∧ B2.1 94 1 = nI (dd + m) ∧ (∀ q k, ¬ md_k 1 q k → B2.1 q k = B.1 q k) ∧ (m ≠ 0 → A2.1 p 4 = 0 ∧ B2.1 97 1 = 0) := by
  intro m
  induction m with
  | zero =>
    intro i fa fb dd A B h hv hb hw hd h43 h45 hdd hlt hi hfa hfb
    have : i = n := by omega
    subst this
    obtain ⟨fa, rfl⟩ : ∃ z, fa = z + 1 := ⟨fa - 1, by omega⟩
    obtain ⟨fb, rfl⟩ : ∃ z, fb = z + 1 := ⟨fb - 1, by omega⟩
    refine ⟨A, B, ?_, ?_, h, hv, hb, hd, hdd, fun _ _ _ => rfl, fun z => absurd rfl z⟩
    · rw [G_X7_passDays_2, if_pos (nI_le (Nat.le_refl _) (by omega))]
    · rw [G_X10_goesOn_2, if_pos (nI_le (Nat.le_refl _) (by omega))]
  | succ m ih =>
    intro i fa fb dd A B h hv hb hw hd h43 h45 hdd hlt hi hfa hfb
    obtain ⟨fa, rfl⟩ : ∃ z, fa = z + 1 := ⟨fa - 1, by omega⟩
    obtain ⟨fb, rfl⟩ : ∃ z, fb = z + 1 := ⟨fb - 1, by omega⟩
    have hp3 := rl_st3 h.1.1
    have ht := h.1.2.1
    have ht2 := fm_td ht
    obtain ⟨A1, B1, e1, e2, e3, e4, e5, e6, e7, e8, e9⟩ := rl_day h hv hb hd hdd (by omega)
    have fA := fA_passDay e1
    have fB : ∀ q k, q ≠ 94 → q ≠ 97 → q ≠ 98 → q ≠ 100 → q ≠ 101 → (q ≠ 76 ∨ k ≠ 32) → B1.1 q k = B.1 q k := fun q k a1 a2 a3 a4 a5 a6 => e9 q k (by unfold md_k; omega)
    have hw1 : rl_w A1 B1 t := rl_w_cg hw (fun q k z => fA q k (by omega) (by omega) (by omega) (by omega) (by omega)) (fun q k z => fB q k (by omega) (by omega) (by omega) (by omega) (by omega) (by omega))
    have hday : A1.1 p 0 = nI (dd + 1) := by rw [e3.1.2.2.2.2.2]; exact e6
    have ewt := rl_wetOn ht hw1 (show dd + 1 < 100000 by omega)
    have h43' : ¬ B1.1 76 43 = 1 := by rw [fB _ _ (by omega) (by omega) (by omega) (by omega) (by omega) (by omega)]; exact h43
    have h45' : B1.1 76 45 = -1 := by rw [fB _ _ (by omega) (by omega) (by omega) (by omega) (by omega) (by omega)]; exact h45
    have hd1 : (fm_up A1 p 1 (md_wet B1 (nI (dd + 1)))).1 p 1 = md_damp B1 1 := by rw [fm_up_get, md_damp_w h43' h45' e6]
    obtain ⟨A3, B3, y1, y2, y3, y4, y5, y6, y7, y8, y9⟩ := ih (i + 1) fa fb (dd + 1) (fm_up A1 p 1 (md_wet B1 (nI (dd + 1)))) B1 (rl_d_dp _ e3) (rl_v_cg e4 (fun q k z => fm_up_ne (by omega))) (rl_pb_cg e5 (fun q k z => fm_up_ne (by omega))) (rl_w_cg hw1 (fun q k z => fm_up_ne (by omega)) (fun _ _ _ => rfl)) hd1 h43' h45' e6 (by omega) (by omega) (by omega) (by omega)
    refine ⟨A3, B3, ?_, ?_, y3, y4, y5, y6, by rw [y7]; exact congrArg nI (by omega), fun q k hq => by rw [y8 q k hq, e9 q k hq], fun _ => ?_⟩
    · rw [G_X7_passDays_2, if_neg (nI_ge (by omega) (by omega)), e1, fm_bd_s, hday, ewt, fm_bd_s, fm_lt, nI_1]
      exact y1
    · rw [G_X10_goesOn_2, if_neg (nI_ge (by omega) (by omega)), show F_X10_dayGoes 1 B = some ((), B1) from e2, fm_bd_s, nI_1]
      exact y2
    · by_cases hm : m = 0
      · subst hm
        obtain ⟨fa, rfl⟩ : ∃ z, fa = z + 1 := ⟨fa - 1, by omega⟩
        obtain ⟨fb, rfl⟩ : ∃ z, fb = z + 1 := ⟨fb - 1, by omega⟩
        have hin : i + 1 = n := by omega
        rw [G_X7_passDays_2, hin, if_pos (nI_le (Nat.le_refl _) (by omega))] at y1
        rw [G_X10_goesOn_2, hin, if_pos (nI_le (Nat.le_refl _) (by omega))] at y2
        cases y1
        cases y2
        exact ⟨by rw [fm_up_ne (by omega)]; exact e8, e7⟩
      · exact y9 hm

theorem rl_days0 {p t nf nm n : Nat} (hn : n < 2 ^ 31) : ∀ (m i fa fb dd : Nat) (A B : fm_M), rl_d A B p t 0 nf nm → rl_v A p nm → rl_pb A p t nf → rl_w A B t → A.1 p 1 = md_damp B 0 → ¬ B.1 76 43 = 1 → B.1 76 45 = -1 → B.1 94 0 = nI dd → dd + m < 100000 → i + m = n → m < fa → m < fb → ∃ (A2 B2 : fm_M), G_X7_passDays_2 fa p t (nI n) (nI i) A = some (nI n, A2) ∧ G_X10_go_42 fb (nI n) (nI i) B = some (nI n, B2) ∧ rl_d A2 B2 p t 0 nf nm ∧ rl_v A2 p nm ∧ rl_pb A2 p t nf ∧ A2.1 p 1 = md_damp B2 0 ∧ B2.1 94 0 = nI (dd + m) ∧ (∀ q k, ¬ md_k 0 q k → B2.1 q k = B.1 q k) ∧ (m ≠ 0 → A2.1 p 4 = 0 ∧ B2.1 97 0 = 0) := by
  intro m
  induction m with
  | zero =>
    intro i fa fb dd A B h hv hb hw hd h43 h45 hdd hlt hi hfa hfb
    have : i = n := by omega
    subst this
    obtain ⟨fa, rfl⟩ : ∃ z, fa = z + 1 := ⟨fa - 1, by omega⟩
    obtain ⟨fb, rfl⟩ : ∃ z, fb = z + 1 := ⟨fb - 1, by omega⟩
    refine ⟨A, B, ?_, ?_, h, hv, hb, hd, hdd, fun _ _ _ => rfl, fun z => absurd rfl z⟩
    · rw [G_X7_passDays_2, if_pos (nI_le (Nat.le_refl _) (by omega))]
    · rw [G_X10_go_42, if_pos (nI_le (Nat.le_refl _) (by omega))]
  | succ m ih =>
    intro i fa fb dd A B h hv hb hw hd h43 h45 hdd hlt hi hfa hfb
    obtain ⟨fa, rfl⟩ : ∃ z, fa = z + 1 := ⟨fa - 1, by omega⟩
    obtain ⟨fb, rfl⟩ : ∃ z, fb = z + 1 := ⟨fb - 1, by omega⟩
    have hp3 := rl_st3 h.1.1
    have ht := h.1.2.1
    have ht2 := fm_td ht
    obtain ⟨A1, B1, e1, e2, e3, e4, e5, e6, e7, e8, e9⟩ := rl_day h hv hb hd hdd (by omega)
    have fA := fA_passDay e1
    have fB : ∀ q k, q ≠ 94 → q ≠ 97 → q ≠ 98 → q ≠ 100 → q ≠ 101 → (q ≠ 76 ∨ k ≠ 32) → B1.1 q k = B.1 q k := fun q k a1 a2 a3 a4 a5 a6 => e9 q k (by unfold md_k; omega)
    have hw1 : rl_w A1 B1 t := rl_w_cg hw (fun q k z => fA q k (by omega) (by omega) (by omega) (by omega) (by omega)) (fun q k z => fB q k (by omega) (by omega) (by omega) (by omega) (by omega) (by omega))
    have hday : A1.1 p 0 = nI (dd + 1) := by rw [e3.1.2.2.2.2.2]; exact e6
    have ewt := rl_wetOn ht hw1 (show dd + 1 < 100000 by omega)
    have h43' : ¬ B1.1 76 43 = 1 := by rw [fB _ _ (by omega) (by omega) (by omega) (by omega) (by omega) (by omega)]; exact h43
    have h45' : B1.1 76 45 = -1 := by rw [fB _ _ (by omega) (by omega) (by omega) (by omega) (by omega) (by omega)]; exact h45
    have hd1 : (fm_up A1 p 1 (md_wet B1 (nI (dd + 1)))).1 p 1 = md_damp B1 0 := by rw [fm_up_get, md_damp_w h43' h45' e6]
    obtain ⟨A3, B3, y1, y2, y3, y4, y5, y6, y7, y8, y9⟩ := ih (i + 1) fa fb (dd + 1) (fm_up A1 p 1 (md_wet B1 (nI (dd + 1)))) B1 (rl_d_dp _ e3) (rl_v_cg e4 (fun q k z => fm_up_ne (by omega))) (rl_pb_cg e5 (fun q k z => fm_up_ne (by omega))) (rl_w_cg hw1 (fun q k z => fm_up_ne (by omega)) (fun _ _ _ => rfl)) hd1 h43' h45' e6 (by omega) (by omega) (by omega) (by omega)
    refine ⟨A3, B3, ?_, ?_, y3, y4, y5, y6, by rw [y7]; exact congrArg nI (by omega), fun q k hq => by rw [y8 q k hq, e9 q k hq], fun _ => ?_⟩
    · rw [G_X7_passDays_2, if_neg (nI_ge (by omega) (by omega)), e1, fm_bd_s, hday, ewt, fm_bd_s, fm_lt, nI_1]
      exact y1
    · rw [G_X10_go_42, if_neg (nI_ge (by omega) (by omega)), show F_X10_dayGoes 0 B = some ((), B1) from e2, fm_bd_s, nI_1]
      exact y2
    · by_cases hm : m = 0
      · subst hm
        obtain ⟨fa, rfl⟩ : ∃ z, fa = z + 1 := ⟨fa - 1, by omega⟩
        obtain ⟨fb, rfl⟩ : ∃ z, fb = z + 1 := ⟨fb - 1, by omega⟩
        have hin : i + 1 = n := by omega
        rw [G_X7_passDays_2, hin, if_pos (nI_le (Nat.le_refl _) (by omega))] at y1
        rw [G_X10_go_42, hin, if_pos (nI_le (Nat.le_refl _) (by omega))] at y2
        cases y1
        cases y2
        exact ⟨by rw [fm_up_ne (by omega)]; exact e8, e7⟩
      · exact y9 hm

/-- dry days -/
theorem rl_dry {p t nf nm n : Nat} (hn : n < 2 ^ 31) : ∀ (m i fa fb dd : Nat) (A B : fm_M), rl_d A B p t 1 nf nm → rl_v A p nm → rl_pb A p t nf → B.1 76 43 = 1 → B.1 94 1 = nI dd → dd + m < 100000 → i + m = n → m < fa → m < fb → ∃ (A2 B2 : fm_M), G_X7_passDryDays_2 fa p t (nI n) (nI i) A = some (nI n, A2) ∧ G_X10_goesOn_2 fb (nI n) (nI i) B = some (nI n, B2) ∧ rl_d A2 B2 p t 1 nf nm ∧ (∀ q k, ¬ md_k 1 q k → B2.1 q k = B.1 q k) := by
  intro m
  induction m with
  | zero =>
    intro i fa fb dd A B h hv hb h43 hdd hlt hi hfa hfb
    have : i = n := by omega
    subst this
    obtain ⟨fa, rfl⟩ : ∃ z, fa = z + 1 := ⟨fa - 1, by omega⟩
    obtain ⟨fb, rfl⟩ : ∃ z, fb = z + 1 := ⟨fb - 1, by omega⟩
    refine ⟨A, B, ?_, ?_, h, fun _ _ _ => rfl⟩
    · rw [G_X7_passDryDays_2, if_pos (nI_le (Nat.le_refl _) (by omega))]
    · rw [G_X10_goesOn_2, if_pos (nI_le (Nat.le_refl _) (by omega))]
  | succ m ih =>
    intro i fa fb dd A B h hv hb h43 hdd hlt hi hfa hfb
    obtain ⟨fa, rfl⟩ : ∃ z, fa = z + 1 := ⟨fa - 1, by omega⟩
    obtain ⟨fb, rfl⟩ : ∃ z, fb = z + 1 := ⟨fb - 1, by omega⟩
    have hp3 := rl_st3 h.1.1
    have ht2 := fm_td h.1.2.1
    have hd0 : (fm_up A p 1 0).1 p 1 = md_damp B 1 := by rw [fm_up_get]; unfold md_damp; rw [if_pos h43]
    obtain ⟨A1, B1, e1, e2, e3, e4, e5, e6, e7, e8, e9⟩ := rl_day (rl_d_dp 0 h) (rl_v_cg hv (fun q k z => fm_up_ne (by omega))) (rl_pb_cg hb (fun q k z => fm_up_ne (by omega))) hd0 hdd (by omega)
    have h43' : B1.1 76 43 = 1 := by rw [e9 _ _ (by unfold md_k; omega)]; exact h43
    obtain ⟨A3, B3, y1, y2, y3, y4⟩ := ih (i + 1) fa fb (dd + 1) A1 B1 e3 e4 e5 h43' e6 (by omega) (by omega) (by omega) (by omega)
    refine ⟨A3, B3, ?_, ?_, y3, fun q k hq => by rw [y4 q k hq, e9 q k hq]⟩
    · rw [G_X7_passDryDays_2, if_neg (nI_ge (by omega) (by omega)), fm_lt, e1, fm_bd_s, nI_1]
      exact y1
    · rw [G_X10_goesOn_2, if_neg (nI_ge (by omega) (by omega)), show F_X10_dayGoes 1 B = some ((), B1) from e2, fm_bd_s, nI_1]
      exact y2
