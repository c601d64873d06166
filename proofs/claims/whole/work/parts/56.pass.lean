/-! what all hum, what is carried, how a fork rusts: class and reference -/
theorem rl_pne {p t : Nat} (hp : fm_isSt p = true) (ht : fm_isTd t = true) : ∀ k j, k ≤ 6 → j ≤ 16 → p + k ≠ t + j := by
  intro k j hk hj
  simp only [fm_isSt, Bool.or_eq_true, beq_iff_eq] at hp
  rcases fm_td ht with rfl | rfl <;> omega
theorem md_damp_cg {B B2 : fm_M} {c : Nat} (hB : ∀ q k, (q ≠ 76 ∨ k ≠ 32) → B2.1 q k = B.1 q k) : md_damp B2 c = md_damp B c := by
  unfold md_damp md_wet
  rw [hB 76 43 (Or.inr (by omega)), hB 76 45 (Or.inr (by omega)), hB 78 3 (Or.inl (by omega)), hB 94 c (Or.inl (by omega)), hB 87 _ (Or.inl (by omega))]
theorem md_width_cg {B B2 : fm_M} {f : Nat} (hB : ∀ q k, (q ≠ 76 ∨ k ≠ 32) → B2.1 q k = B.1 q k) : md_width B2 f = md_width B f := by
  unfold md_width
  rw [hB 76 46 (Or.inr (by omega)), hB 76 47 (Or.inr (by omega)), hB 81 f (Or.inl (by omega))]
theorem rl_h_cg {A B A2 B2 : fm_M} {p t c nf : Nat} (h : rl_h A B p t c nf) (hA : ∀ q k, q ≠ t + 15 → A2.1 q k = A.1 q k) (hB : ∀ q k, (q ≠ 76 ∨ k ≠ 32) → B2.1 q k = B.1 q k) : rl_h A2 B2 p t c nf := by
  obtain ⟨hp, ht, ⟨o1, ⟨nw, o2, o3⟩, dd, o4, o5⟩, hnf, hlw, hday, hdamp, hfk⟩ := h
  have pn := rl_pne hp ht
  have p0 : p ≠ t + 15 := by have := pn 0 15 (by omega) (by omega); omega
  refine ⟨hp, ht, ⟨o1, ⟨nw, o2, by rw [hB 78 3 (Or.inl (by omega))]; exact o3⟩, dd, o4, by rw [hB 94 c (Or.inl (by omega))]; exact o5⟩, hnf, fun r hr => ev_law_cg (hlw r hr) (fun q k _ _ => hA q k (by omega)) (fun q k _ _ => hB q k (Or.inl (by omega))), ?_, ?_, fun f hf => ?_⟩
  · rw [hA p 0 p0, hB 94 c (Or.inl (by omega))]; exact hday
  · rw [hA p 1 p0, md_damp_cg hB]; exact hdamp
  · rw [hA (p + 1) f (pn 1 15 (by omega) (by omega)), hB 98 _ (Or.inl (by omega)), hA (p + 2) f (pn 2 15 (by omega) (by omega)), md_width_cg hB, hA (t + 4) f (by omega), hB 82 f (Or.inl (by omega)), hA p 6 p0, hB 76 43 (Or.inr (by omega)), hB 76 44 (Or.inr (by omega)), hA p 4 p0, hB 97 c (Or.inl (by omega)), hA p 5 p0, hB 78 9 (Or.inl (by omega))]
    exact hfk f hf
/-- frames, as they are used -/
theorem rl_frA {α : Type} {A : fm_M} {t : Nat} {o : Option (α × fm_M)} {x : α × fm_M} (h : fm_Fr (fm_W [(t + 15, none)]) A o) (e : o = some x) : ∀ q k, q ≠ t + 15 → x.2.1 q k = A.1 q k := fun q k hq => h x e q k (by
  rintro ⟨y, hy, h1, -⟩
  simp only [List.mem_singleton] at hy
  subst hy
  exact hq h1)
theorem rl_frB {α : Type} {B : fm_M} {o : Option (α × fm_M)} {x : α × fm_M} (h : fm_Fr (fm_W [(76, some 32)]) B o) (e : o = some x) : ∀ q k, (q ≠ 76 ∨ k ≠ 32) → x.2.1 q k = B.1 q k := fun q k hq => h x e q k (by
  rintro ⟨y, hy, h1, h2⟩
  simp only [List.mem_singleton] at hy
  subst hy
  rcases h2 with h2 | h2
  · cases h2
  · have h3 := Option.some.inj h2
    rcases hq with hq | hq
    · exact hq h1
    · exact hq h3.symm)
/-- the sum over all forks -/
theorem rl_sumLoop {p t c nf : Nat} (n : Int32) : ∀ (m i fa fb : Nat) (A B : fm_M) (acc : Nat), rl_h A B p t c nf → A.1 t 0 = nI nf → B.1 78 0 = nI nf → i + m = nf → m < fa → m < fb → acc ≤ 99 * i → ∃ (v : Nat) (A2 B2 : fm_M), G_X7_humOfAll_5 fa p t n (nI acc) (nI i) A = some ((nI v, nI nf), A2) ∧ G_X10_humAll_5 fb (nI c) n (nI acc) (nI i) B = some ((nI v, nI nf), B2) ∧ v ≤ 99 * nf := by
  intro m
  induction m with
  | zero =>
    intro i fa fb A B acc h h1 h2 hi hfa hfb hacc
    have : i = nf := by omega
    subst this
    obtain ⟨fa, rfl⟩ : ∃ z, fa = z + 1 := ⟨fa - 1, by omega⟩
    obtain ⟨fb, rfl⟩ : ∃ z, fb = z + 1 := ⟨fb - 1, by omega⟩
    have hn := h.2.2.2.1
    refine ⟨acc, A, B, ?_, ?_, hacc⟩
    · rw [G_X7_humOfAll_5, h1, if_pos (nI_le (Nat.le_refl _) (by omega))]
    · rw [G_X10_humAll_5, fm_gd_t (by decide), ck_0, h2, if_pos (nI_le (Nat.le_refl _) (by omega))]
  | succ m ih =>
    intro i fa fb A B acc h h1 h2 hi hfa hfb hacc
    obtain ⟨fa, rfl⟩ : ∃ z, fa = z + 1 := ⟨fa - 1, by omega⟩
    obtain ⟨fb, rfl⟩ : ∃ z, fb = z + 1 := ⟨fb - 1, by omega⟩
    have hn := h.2.2.2.1
    obtain ⟨v, A2, B2, e1, e2, e3, e4⟩ := rl_hum h (show i < nf by omega) n
    obtain ⟨k, hk, rfl⟩ := nI_of2 (M := 99) (n := 99) rfl (Int32.not_lt.mpr e3) e4
    have fA := rl_frA (fr_X7_humOf p t (nI i) n A) e1
    have fB := rl_frB (fr_X10_humOf (nI c) (nI i) n B) e2
    rw [G_X7_humOfAll_5, h1, if_neg (nI_ge (by omega) (by omega)), e1, fm_bd_s, fm_lt, nI_add, nI_1, G_X10_humAll_5, fm_gd_t (by decide), ck_0, h2, if_neg (nI_ge (by omega) (by omega)), e2, fm_bd_s, fm_lt, nI_add, nI_1]
    exact ih (i + 1) fa fb A2 B2 (acc + k) (rl_h_cg h fA fB) (by rw [fA t 0 (by omega)]; exact h1) (by rw [fB 78 0 (Or.inl (by omega))]; exact h2) (by omega) (by omega) (by omega) (by omega)
theorem rl_humAll {A B : fm_M} {p t c nf : Nat} (h : rl_h A B p t c nf) (h1 : A.1 t 0 = nI nf) (h2 : B.1 78 0 = nI nf) (n : Int32) : ∃ (v : Nat) (A2 B2 : fm_M), F_X7_humOfAll p t n A = some (nI v, A2) ∧ F_X10_humAll (nI c) n B = some (nI v, B2) ∧ v ≤ 792 := by
  have hn := h.2.2.2.1
  obtain ⟨v, A2, B2, e1, e2, e3⟩ := rl_sumLoop n nf 0 fm_fuel fm_fuel A B 0 h h1 h2 (by omega) (by unfold fm_fuel; omega) (by unfold fm_fuel; omega) (by omega)
  refine ⟨v, A2, B2, ?_, ?_, by omega⟩
  · rw [F_X7_humOfAll, fm_gd_t h.1, fm_gd_t h.2.1, show G_X7_humOfAll_5 fm_fuel p t n 0 0 A = some ((nI v, nI nf), A2) from e1, fm_bd_s]
  · rw [F_X10_humAll, show G_X10_humAll_5 fm_fuel (nI c) n 0 0 B = some ((nI v, nI nf), B2) from e2, fm_bd_s]
/-- a law's value with its names laid -/
theorem rl_lawv {A B : fm_M} {p t c nf r : Nat} (h : rl_h A B p t c nf) (hr : r < 3) (a b d l e : Int32) :
    (F_X3_has (t + 10) (nI r) A = some (0, A) ∧ F_X10_hasLaw (nI r) (md_nm B c a b d l e) = some (0, md_nm B c a b d l e)) ∨
    (F_X3_has (t + 10) (nI r) A = some (1, A) ∧ F_X10_hasLaw (nI r) (md_nm B c a b d l e) = some (1, md_nm B c a b d l e) ∧ ∃ v A2 g B2, F_X3_valueOf (t + 10) (nI r) (cl_nm A (t + 10) a b d l e (A.1 p 1) (A.1 p 0)) = some (v, A2) ∧ F_X10_goes (nI r) (md_nm B c a b d l e) = some (g, B2) ∧ ((v = -9223372036854775808 ∧ g = 0) ∨ (g = 1 ∧ v = B2.2 93 0 ∧ ev_bd v))) := by
  obtain ⟨hp, ht, hok, hnf, hlw, hday, hdamp, hfk⟩ := h
  have hw := rl_lw ht
  have hl2 : ev_law (cl_nm A (t + 10) a b d l e (A.1 p 1) (A.1 p 0)) (md_nm B c a b d l e) (t + 10) r := ev_law_cg (hlw r hr) (fun q k a b => cl_nm_ne (by omega)) (fun q k _ _ => rfl)
  rcases ev_val hw hr (hlw r hr) with ⟨e1, e2⟩ | ⟨e1, e2, -⟩
  · exact Or.inl ⟨e1, md_has_cg (B := B) rfl e2⟩
  · refine Or.inr ⟨e1, md_has_cg (B := B) rfl e2, ?_⟩
    rcases ev_val hw hr hl2 with ⟨-, x2⟩ | ⟨-, -, x3⟩
    · exfalso
      have := md_has_cg (B := B) (B2 := md_nm B c a b d l e) rfl e2
      rw [x2] at this
      cases this
    · exact x3 (rl_names hdamp hday)
theorem rl_notmin {v : Int64} (h : ev_bd v) : ¬ v = -9223372036854775808 := by
  intro z
  rw [z] at h
  unfold ev_bd at h
  rw [ev_min] at h
  omega
theorem rl_passes {A B : fm_M} {p t c nf : Nat} (h : rl_h A B p t c nf) (h3 : A.1 t 13 = B.1 78 2) (n s : Int32) : ∃ (v : Int32) (A2 B2 : fm_M), F_X7_passes p t n s A = some (v, A2) ∧ F_X10_passes (nI c) n s B = some (v, B2) ∧ (v = 0 ∨ v = 1) := by
  obtain ⟨hp, ht, hok, hnf, hlw, hday, hdamp, hfk⟩ := id h
  have hw := rl_lw ht
  rw [F_X7_passes, fm_gd_t hp, fm_gd_t ht, F_X10_passes, md_calls_ok hok, fm_bd_s]
  have plain : ∀ A2 B2 : fm_M, A2.1 t 13 = A.1 t 13 → B2.1 78 2 = B.1 78 2 → ∃ (v : Int32) (A3 B3 : fm_M), (if s < A2.1 t 13 then some ((0 : Int32), A2) else some (1, A2)) = some (v, A3) ∧ J_X10_passes_45 (nI c) n s B2 = some (v, B3) ∧ (v = 0 ∨ v = 1) := by
    intro A2 B2 a b
    rw [J_X10_passes_45, fm_gd_t (by decide), ck_2, a, b, h3]
    by_cases hc : s < B.1 78 2
    · rw [if_pos hc, if_pos hc]; exact ⟨0, _, _, rfl, rfl, Or.inl rfl⟩
    · rw [if_neg hc, if_neg hc]; exact ⟨1, _, _, rfl, rfl, Or.inr rfl⟩
  rcases rl_lawv h (r := 2) (by omega) 0 n 0 s 0 with ⟨e1, e2⟩ | ⟨e1, e2, v, A2, g, B2, y1, y2, y3⟩
  · rw [F_X7_passLaw, fm_gd_t hp, fm_gd_t ht, show F_X3_has (t + 10) 2 A = some (0, A) from e1, fm_bd_s, if_pos rfl, fm_bd_s, if_pos ((nu_cmp0 _ _).mpr rfl), show F_X10_hasLaw 2 (md_nm B c 0 n 0 s 0) = some (0, md_nm B c 0 n 0 s 0) from e2, fm_bd_s, if_pos rfl]
    exact plain A _ rfl rfl
  · have epl : F_X7_passLaw p t n s A = some (v, A2) := by
      rw [F_X7_passLaw, fm_gd_t hp, fm_gd_t ht, show F_X3_has (t + 10) 2 A = some (1, A) from e1, fm_bd_s, if_neg (show ¬ (1 : Int32) = 0 by decide), cl_name_ok hw, fm_bd_s, show F_X3_valueOf (t + 10) 2 (cl_nm A (t + 10) 0 n 0 s 0 (A.1 p 1) (A.1 p 0)) = some (v, A2) from y1, fm_bd_s]
    have fA := rl_frA (fr_X7_passLaw p t n s A) epl
    have y2' : F_X10_goes 2 (md_nm B c 0 n 0 s 0) = some (g, B2) := y2
    have fB := rl_frB (fr_X10_goes 2 (md_nm B c 0 n 0 s 0)) y2'
    rw [epl, fm_bd_s, show F_X10_hasLaw 2 (md_nm B c 0 n 0 s 0) = some (1, md_nm B c 0 n 0 s 0) from e2, fm_bd_s, if_neg (show ¬ (1 : Int32) = 0 by decide), y2', fm_bd_s]
    rcases y3 with ⟨q1, q2⟩ | ⟨q1, q2, q3⟩
    · rw [q1, if_pos ((nu_cmp0 _ _).mpr rfl), q2, if_pos rfl]
      exact plain A2 B2 (fA t 13 (by omega)) (fB 78 2 (Or.inl (by omega)))
    · rw [if_neg (fun z => rl_notmin q3 ((nu_cmp0 _ _).mp z)), q1, if_neg (show ¬ (1 : Int32) = 0 by decide), fm_gd_t (by decide), ck_0, ← q2]
      by_cases hc : lg_cmp v 0 = 0
      · rw [if_pos hc, if_pos hc]; exact ⟨0, _, _, rfl, rfl, Or.inl rfl⟩
      · rw [if_neg hc, if_neg hc]; exact ⟨1, _, _, rfl, rfl, Or.inr rfl⟩
