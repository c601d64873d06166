/-! law; minutes; images -/
theorem md_callsHum_ok {B : fm_M} {c f : Nat} (hok : md_ok B c) (hf8 : f < 8) (x n : Int32) : F_X10_callsHum (nI c) (nI f) x n B = some ((), md_nm B c (i_max 1 (x - md_damp B c)) n (md_width B f) (B.1 82 f) (md_beats (i_max 1 (x - md_damp B c)) n)) := by
  rw [F_X10_callsHum, md_wp_ok hok, fm_bd_s, md_width_ok hf8, fm_bd_s, fm_gd_t (nu_inb (by omega) (by omega)), md_beats_ok hok, fm_bd_s, nI_clamp (by omega), md_calls_ok hok, fm_bd_s]
theorem md_callsRust_ok {B : fm_M} {c f : Nat} (hok : md_ok B c) (hf8 : f < 8) : F_X10_callsRust (nI c) (nI f) B = some ((), md_nm B c (i_max 1 (B.1 98 (8 * c + f) - md_damp B c)) 0 (md_width B f) (B.1 82 f) 0) := by
  have hc := hok.1
  have hci : (8 : Int32) * nI c + nI f = nI (8 * c + f) := by rw [show (8 : Int32) = nI 8 from rfl, pk_mul, nI_add]
  rw [F_X10_callsRust, hci, fm_gd_t (nu_inb (by omega) (by omega)), nI_clamp (by omega), md_wp_ok hok, fm_bd_s, md_width_ok hf8, fm_bd_s, fm_gd_t (nu_inb (by omega) (by omega)), nI_clamp (by omega), md_calls_ok hok, fm_bd_s]
theorem pu_law {A B : fm_M} {t nf nm kd km : Nat} (h : iv_all A B t nf nm kd km) (a1 a2 a3 : Int32) : pu t nf nm kd km (F_X9_law a1 a2 a3 A) (F_X10_law a1 a2 a3 B) := by
  have h0 := iv_thr h 0
  have ht := iv_tt h
  have hw := rl_lw ht
  rw [F_X9_law, F_X10_law]
  simp only [fm_lt]
  generalize fm_up B 76 0 0 = B1 at *
  obtain ⟨hd1, hd2⟩ := iv_dn h0
  have hh := hd1.h hd2
  have hok := hd1.1.2.2.1
  -- what goes says, for the class's value v
  have fin : ∀ (r : Nat) (v : Int64) (A2 B2 B3 : fm_M) (g : Int32), B2.1 = B1.1 → (∀ q k, q ≠ t + 15 → A2.1 q k = A.1 q k) → F_X10_goes (nI r) B2 = some (g, B3) → ((v = -9223372036854775808 ∧ g = 0) ∨ (g = 1 ∧ v = B3.2 93 0 ∧ ev_bd v)) → pu t nf nm kd km (some (v, A2)) (fm_bd (F_X10_goes (nI r) B2) (fun v13 M14 => if v13 = 0 then some ((-9223372036854775808), M14) else fm_gd (fm_inb 0 64) (some ((M14.2 93 (Int32.toNatClampNeg 0)), M14)))) := by
    intro r v A2 B2 B3 g hB fA e y
    have fB := rl_frB (fr_X10_goes (nI r) B2) e
    have hi : iv_all A2 B3 t nf nm kd km := iv_fr h0 fA (fun q k z => by rw [fB q k z, hB])
    rw [e, fm_bd_s]
    rcases y with ⟨q1, q2⟩ | ⟨q1, q2, -⟩
    · rw [q2, if_pos rfl]; exact rR_ret hi q1
    · rw [q1, if_neg n10, fm_gd_t (by decide), ck_0]; exact rR_ret hi q2
  by_cases c0 : a1 = 0
  · subst c0
    rw [if_pos rfl, if_neg (show ¬ (0 : Int32) < 0 by decide), if_neg (show ¬ (2 : Int32) < 0 by decide)]
    rcases iv_isFork h0 a2 with ⟨e1, e2⟩ | ⟨f, hf, hf8, rfl, e1, e2⟩
    · rw [e1, fm_bd_s, if_pos rfl]
      rcases ev_val hw (r := 0) (by omega) (hh.2.2.2.2.1 0 (by omega)) with ⟨-, x2⟩ | ⟨-, x2, -⟩
      · rw [show F_X10_hasLaw 0 B1 = _ from x2, fm_bd_s, if_pos rfl]; exact rR_ret h0 rfl
      · rw [show F_X10_hasLaw 0 B1 = _ from x2, fm_bd_s, if_neg n10, if_neg (show ¬ (0 : Int32) = 2 by decide), e2, fm_bd_s, if_pos rfl]; exact rR_ret h0 rfl
    rw [e1, fm_bd_s, if_neg n10]
    rcases iv_isNote a3 with e3 | ⟨-, e3⟩
    · rw [(e3 A).1, fm_bd_s, if_pos rfl]
      rcases ev_val hw (r := 0) (by omega) (hh.2.2.2.2.1 0 (by omega)) with ⟨-, x2⟩ | ⟨-, x2, -⟩
      · rw [show F_X10_hasLaw 0 B1 = _ from x2, fm_bd_s, if_pos rfl]; exact rR_ret h0 rfl
      · rw [show F_X10_hasLaw 0 B1 = _ from x2, fm_bd_s, if_neg n10, if_neg (show ¬ (0 : Int32) = 2 by decide), e2, fm_bd_s, if_neg n10, J_X10_law_35, if_neg (show ¬ (0 : Int32) = 1 by decide), (e3 B1).2, fm_bd_s, if_pos rfl]; exact rR_ret h0 rfl
    rw [(e3 A).1, fm_bd_s, if_neg n10, iv_t h0, fm_gd_t ht]
    rcases rl_humLaw hh hf a3 with ⟨x1, x2⟩ | ⟨x2, v, A2, g, B2, x1, x3, x4⟩
    · rw [x1, fm_bd_s, x2, fm_bd_s, if_pos rfl]; exact rR_ret h0 rfl
    · rw [x1, fm_bd_s, x2, fm_bd_s, if_neg n10, if_neg (show ¬ (0 : Int32) = 2 by decide), e2, fm_bd_s, if_neg n10, J_X10_law_35, if_neg (show ¬ (0 : Int32) = 1 by decide), (e3 B1).2, fm_bd_s, if_neg n10, J_X10_law_51, if_pos rfl, fm_gd_t (nu_inb (by omega) (by omega)), nI_clamp (by omega), show F_X10_callsHum 0 (nI f) (B1.1 98 f) a3 B1 = _ from md_callsHum_ok hok hf8 (B1.1 98 f) a3, fm_bd_s, J_X10_law_104_1]
      rw [show 8 * 0 + f = f by omega] at x3
      exact fin 0 v A2 _ B2 g rfl (rl_frA (fr_X7_humLaw 38 t (nI f) a3 A) x1) x3 x4
  rw [if_neg c0]
  by_cases c1 : a1 = 1
  · subst c1
    rw [if_pos rfl, if_neg (show ¬ (1 : Int32) < 0 by decide), if_neg (show ¬ (2 : Int32) < 1 by decide)]
    rcases iv_isFork h0 a2 with ⟨e1, e2⟩ | ⟨f, hf, hf8, rfl, e1, e2⟩
    · rw [e1, fm_bd_s, if_pos rfl]
      rcases ev_val hw (r := 1) (by omega) (hh.2.2.2.2.1 1 (by omega)) with ⟨-, x2⟩ | ⟨-, x2, -⟩
      · rw [show F_X10_hasLaw 1 B1 = _ from x2, fm_bd_s, if_pos rfl]; exact rR_ret h0 rfl
      · rw [show F_X10_hasLaw 1 B1 = _ from x2, fm_bd_s, if_neg n10, if_neg (show ¬ (1 : Int32) = 2 by decide), e2, fm_bd_s, if_pos rfl]; exact rR_ret h0 rfl
    rw [e1, fm_bd_s, if_neg n10, iv_t h0, fm_gd_t ht]
    obtain ⟨f1, f2, f3, -⟩ := hh.2.2.2.2.2.2.2 f hf
    generalize hs : i_max 1 (B1.1 98 (8 * 0 + f) - md_damp B1 0) = sd
    have ecr : F_X10_callsRust 0 (nI f) B1 = some ((), md_nm B1 0 sd 0 (md_width B1 f) (B1.1 82 f) 0) := by rw [← hs]; exact md_callsRust_ok hok hf8
    rcases rl_lawv hh (r := 1) (by omega) sd 0 (md_width B1 f) (B1.1 82 f) 0 with ⟨x1, x2⟩ | ⟨x1, x2, v, A2, g, B2, y1, y2, y3⟩
    · have x2' : F_X10_hasLaw 1 B1 = some (0, B1) := md_has_cg (B := md_nm B1 0 sd 0 (md_width B1 f) (B1.1 82 f) 0) rfl x2
      rw [F_X7_rustLaw, fm_gd_t (by decide), fm_gd_t ht, show F_X3_has (t + 10) 1 A = some (0, A) from x1, fm_bd_s, if_pos rfl, fm_bd_s, x2', fm_bd_s, if_pos rfl]; exact rR_ret h0 rfl
    · have x2' : F_X10_hasLaw 1 B1 = some (1, B1) := md_has_cg (B := md_nm B1 0 sd 0 (md_width B1 f) (B1.1 82 f) 0) rfl x2
      have erl : F_X7_rustLaw 38 t (nI f) A = some (v, A2) := by
        rw [F_X7_rustLaw, fm_gd_t (by decide), fm_gd_t ht, show F_X3_has (t + 10) 1 A = some (1, A) from x1, fm_bd_s, if_neg n10, F_X7_soundOf, fm_gd_t (by decide), fm_gd_t (nu_inb hf8 (by omega)), fm_bd_s, fm_gd_t (nu_inb hf8 (by omega)), fm_gd_t (nu_inb hf8 (by omega)), nI_clamp (by omega), f1, f2, f3, hd2, hs, ← hd2, cl_name_ok hw, fm_bd_s, show F_X3_valueOf (t + 10) 1 (cl_nm A (t + 10) sd 0 (md_width B1 f) (B1.1 82 f) 0 (A.1 38 1) (A.1 38 0)) = some (v, A2) from y1, fm_bd_s]
      rw [erl, fm_bd_s, x2', fm_bd_s, if_neg n10, if_neg (show ¬ (1 : Int32) = 2 by decide), e2, fm_bd_s, if_neg n10, J_X10_law_35, if_pos rfl, J_X10_law_51, if_neg n10, if_pos rfl, ecr, fm_bd_s, J_X10_law_104_1]
      exact fin 1 v A2 _ B2 g rfl (rl_frA (fr_X7_rustLaw 38 t (nI f) A) erl) y2 y3
  rw [if_neg c1]
  by_cases c2 : a1 = 2
  · subst c2
    rw [if_pos rfl, if_neg (show ¬ (2 : Int32) < 0 by decide), if_neg (show ¬ (2 : Int32) < 2 by decide)]
    rcases iv_isNote a3 with e3 | ⟨-, e3⟩
    · rw [(e3 A).1, fm_bd_s, if_pos rfl]
      rcases ev_val hw (r := 2) (by omega) (hh.2.2.2.2.1 2 (by omega)) with ⟨-, x2⟩ | ⟨-, x2, -⟩
      · rw [show F_X10_hasLaw 2 B1 = _ from x2, fm_bd_s, if_pos rfl]; exact rR_ret h0 rfl
      · rw [show F_X10_hasLaw 2 B1 = _ from x2, fm_bd_s, if_neg n10, if_pos rfl, J_X10_law_35, if_neg (show ¬ (2 : Int32) = 1 by decide), (e3 B1).2, fm_bd_s, if_pos rfl]; exact rR_ret h0 rfl
    rw [(e3 A).1, fm_bd_s, if_neg n10, iv_t h0, fm_gd_t ht, fm_gd_t ht]
    obtain ⟨u, u', A3, B3, g1, g2, ⟨s, hs, rfl, rfl⟩, g4⟩ := iv_humAll h0 a3
    rw [g1, fm_bd_s]
    have fA3 := rl_frA (fr_X7_humOfAll 38 t a3 A) g1
    have fB3 := rl_frB (fr_X10_humAll 0 a3 B1) g2
    obtain ⟨hd3, hd4⟩ := iv_dn g4
    have hh3 := hd3.h hd4
    rcases rl_lawv hh3 (r := 2) (by omega) 0 a3 0 (nI s) 0 with ⟨x1, x2⟩ | ⟨x1, x2, v, A2, g, B2, y1, y2, y3⟩
    · rw [F_X7_passLaw, fm_gd_t (by decide), fm_gd_t ht, show F_X3_has (t + 10) 2 A3 = some (0, A3) from x1, fm_bd_s, if_pos rfl, fm_bd_s]
      rcases ev_val hw (r := 2) (by omega) (hh.2.2.2.2.1 2 (by omega)) with ⟨-, z2⟩ | ⟨-, z2, -⟩
      · rw [show F_X10_hasLaw 2 B1 = _ from z2, fm_bd_s, if_pos rfl]
        exact rR_ret (iv_fr h0 fA3 (fun _ _ _ => rfl)) rfl
      · exfalso
        have z3 : F_X10_hasLaw 2 B3 = some (0, B3) := md_has_cg (B := md_nm B3 0 0 a3 0 (nI s) 0) rfl x2
        rw [F_X10_hasLaw, fm_gd_t (by decide), fm_gd_t (by decide), fB3 _ _ (Or.inl (by decide)), fB3 _ _ (Or.inl (by decide))] at z3
        have z4 : F_X10_hasLaw 2 B1 = some (1, B1) := z2
        rw [F_X10_hasLaw, fm_gd_t (by decide), fm_gd_t (by decide)] at z4
        by_cases hc : B1.1 89 (Int32.toNatClampNeg 2) ≤ B1.1 88 (Int32.toNatClampNeg 2)
        · rw [if_pos hc] at z4; cases z4
        · rw [if_neg hc] at z3; cases z3
    · have epl : F_X7_passLaw 38 t a3 (nI s) A3 = some (v, A2) := by
        rw [F_X7_passLaw, fm_gd_t (by decide), fm_gd_t ht, show F_X3_has (t + 10) 2 A3 = some (1, A3) from x1, fm_bd_s, if_neg n10, cl_name_ok hw, fm_bd_s, show F_X3_valueOf (t + 10) 2 (cl_nm A3 (t + 10) 0 a3 0 (nI s) 0 (A3.1 38 1) (A3.1 38 0)) = some (v, A2) from y1, fm_bd_s]
      have fA2 := rl_frA (fr_X7_passLaw 38 t a3 (nI s) A3) epl
      rw [epl, fm_bd_s]
      rcases ev_val hw (r := 2) (by omega) (hh.2.2.2.2.1 2 (by omega)) with ⟨-, z2⟩ | ⟨-, z2, -⟩
      · exfalso
        have z3 : F_X10_hasLaw 2 B3 = some (1, B3) := md_has_cg (B := md_nm B3 0 0 a3 0 (nI s) 0) rfl x2
        rw [F_X10_hasLaw, fm_gd_t (by decide), fm_gd_t (by decide), fB3 _ _ (Or.inl (by decide)), fB3 _ _ (Or.inl (by decide))] at z3
        have z4 : F_X10_hasLaw 2 B1 = some (0, B1) := z2
        rw [F_X10_hasLaw, fm_gd_t (by decide), fm_gd_t (by decide)] at z4
        by_cases hc : B1.1 89 (Int32.toNatClampNeg 2) ≤ B1.1 88 (Int32.toNatClampNeg 2)
        · rw [if_pos hc] at z3; cases z3
        · rw [if_neg hc] at z4; cases z4
      · rw [show F_X10_hasLaw 2 B1 = _ from z2, fm_bd_s, if_neg n10, if_pos rfl, J_X10_law_35, if_neg (show ¬ (2 : Int32) = 1 by decide), (e3 B1).2, fm_bd_s, if_neg n10, J_X10_law_51, if_neg (show ¬ (2 : Int32) = 0 by decide), if_neg (show ¬ (2 : Int32) = 1 by decide), g2, fm_bd_s, show F_X10_calls 0 0 a3 0 (nI s) 0 B3 = _ from md_calls_ok hd3.1.2.2.1 0 a3 0 (nI s) 0, fm_bd_s, J_X10_law_104]
        have y2' : F_X10_goes 2 (md_nm B3 0 0 a3 0 (nI s) 0) = some (g, B2) := y2
        have fB2 := rl_frB (fr_X10_goes 2 (md_nm B3 0 0 a3 0 (nI s) 0)) y2'
        have hi : iv_all A2 B2 t nf nm kd km := iv_fr g4 fA2 (fun q k z => fB2 q k z)
        rw [y2', fm_bd_s]
        rcases y3 with ⟨q1, q2⟩ | ⟨q1, q2, -⟩
        · rw [q2, if_pos rfl]; exact rR_ret hi q1
        · rw [q1, if_neg n10, fm_gd_t (by decide), ck_0]; exact rR_ret hi q2
  rw [if_neg c2]
  by_cases d0 : a1 < 0
  · rw [if_pos d0]; exact rR_ret h0 rfl
  rw [if_neg d0]
  by_cases d1 : 2 < a1
  · rw [if_pos d1]; exact rR_ret h0 rfl
  · exfalso
    obtain ⟨j, hj, rfl⟩ := nI_of2 (M := 2) (n := 2) rfl d0 (Int32.not_lt.mp d1)
    rcases (show j = 0 ∨ j = 1 ∨ j = 2 by omega) with rfl | rfl | rfl
    · exact c0 rfl
    · exact c1 rfl
    · exact c2 rfl
