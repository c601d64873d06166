/-! how loud a fork hums at a pitch that it hasn't -/
theorem lx_humLaw {A B : fm_M} {p t c f : Nat} {x : Int32} (hp : fm_isSt p = true) (ht : fm_isTd t = true) (hok : md_ok B c) (hlw : ∀ r, r < 3 → ev_law A B (t + 10) r) (hday : A.1 p 0 = B.1 94 c) (hdamp : A.1 p 1 = md_damp B c) (hf8 : f < 8) (f1 : A.1 (p + 1) f = x) (f2 : A.1 (p + 2) f = md_width B f) (f3 : A.1 (t + 4) f = B.1 82 f) (n : Int32) :
    (F_X7_humLaw p t (nI f) n A = some (-9223372036854775808, A) ∧ F_X10_hasLaw 0 B = some (0, B)) ∨
    (F_X10_hasLaw 0 B = some (1, B) ∧ ∃ v A2 g B2, F_X7_humLaw p t (nI f) n A = some (v, A2) ∧ F_X10_goes 0 (md_nm B c (i_max 1 (x - md_damp B c)) n (md_width B f) (B.1 82 f) (md_beats (i_max 1 (x - md_damp B c)) n)) = some (g, B2) ∧ ((v = -9223372036854775808 ∧ g = 0) ∨ (g = 1 ∧ v = B2.2 93 0 ∧ ev_bd v))) := by
  have hw := rl_lw ht
  rcases ev_val hw (by omega) (hlw 0 (by omega)) with ⟨e1, e2⟩ | ⟨e1, e2, -⟩
  · refine Or.inl ⟨?_, e2⟩
    rw [F_X7_humLaw, fm_gd_t hp, fm_gd_t ht, show F_X3_has (t + 10) 0 A = some (0, A) from e1, fm_bd_s, if_pos rfl]
  · refine Or.inr ⟨e2, ?_⟩
    generalize hs : i_max 1 (x - md_damp B c) = sd
    generalize hbt : md_beats sd n = bt
    generalize hB2 : md_nm B c sd n (md_width B f) (B.1 82 f) bt = B2
    generalize hA2 : cl_nm A (t + 10) sd n (md_width B f) (B.1 82 f) bt (md_damp B c) (B.1 94 c) = A2
    have hl2 : ev_law A2 B2 (t + 10) 0 := ev_law_cg (hlw 0 (by omega)) (fun q k a b => by rw [← hA2]; exact cl_nm_ne (by omega)) (fun q k _ _ => by rw [← hB2]; rfl)
    have hnm : ∀ j, j < 7 → (A2.1 (t + 10 + 5) j).toInt64 = B2.2 92 j := by
      rw [← hA2, ← hB2]
      exact rl_names rfl rfl
    have eh : F_X7_humLaw p t (nI f) n A = fm_bd (F_X3_valueOf (t + 10) 0 A2) (fun v11 M12 => some (v11, M12)) := by
      rw [F_X7_humLaw, fm_gd_t hp, fm_gd_t ht, show F_X3_has (t + 10) 0 A = some (1, A) from e1, fm_bd_s, if_neg (show ¬ (1 : Int32) = 0 by decide), F_X7_soundOf, fm_gd_t hp, fm_gd_t (nu_inb hf8 (by omega)), fm_bd_s, fm_gd_t (nu_inb hf8 (by omega)), fm_gd_t (nu_inb hf8 (by omega)), nI_clamp (by omega), f1, f2, f3, hdamp, hs, cl_beats, fm_bd_s, hbt, hday, hdamp, cl_name_ok hw, fm_bd_s, hA2]
    rcases ev_val hw (by omega) hl2 with ⟨-, x2⟩ | ⟨-, -, x3⟩
    · exfalso
      have := md_has_cg (B := B) (B2 := B2) (by rw [← hB2]; rfl) e2
      rw [x2] at this
      cases this
    · obtain ⟨v, A3, g, B3, y1, y2, y3⟩ := x3 hnm
      exact ⟨v, A3, g, B3, by rw [eh, show F_X3_valueOf (t + 10) 0 A2 = some (v, A3) from y1, fm_bd_s], y2, y3⟩
theorem lx_hum {A B : fm_M} {p t c f : Nat} {x : Int32} (hp : fm_isSt p = true) (ht : fm_isTd t = true) (hok : md_ok B c) (hlw : ∀ r, r < 3 → ev_law A B (t + 10) r) (hday : A.1 p 0 = B.1 94 c) (hdamp : A.1 p 1 = md_damp B c) (hf8 : f < 8) (f1 : A.1 (p + 1) f = x) (f2 : A.1 (p + 2) f = md_width B f) (f3 : A.1 (t + 4) f = B.1 82 f) (f4 : 0 ≤ B.1 82 f ∧ B.1 82 f ≤ 9) (f7 : rl_bit (A.1 p 5) f = 1 ↔ (B.1 76 43 ≠ 4 ∧ rl_bit (B.1 78 9) f = 1)) (hab : ¬ nI f = A.1 p 6) (hto : ¬ rl_bit (A.1 p 4) f = 1) (n : Int32) : ∃ v A2 B2, F_X7_humOf p t (nI f) n A = some (v, A2) ∧ F_X10_loudAt (nI c) (nI f) x n B = some (v, B2) ∧ 0 ≤ v ∧ v ≤ 99 := by
  have hc := hok.1
  rw [F_X7_humOf, fm_gd_t hp, fm_gd_t ht, if_neg hab, F_X9_bitOf, fm_bd_s, if_neg (show ¬ (A.1 p 4 >>> (nI f &&& 31)) &&& 1 = 1 from hto)]
  generalize hs : i_max 1 (x - md_damp B c) = sd
  generalize hbt : md_beats sd n = bt
  generalize hB2 : md_nm B c sd n (md_width B f) (B.1 82 f) bt = B2
  have h21 : B2.1 = B.1 := by rw [← hB2]; rfl
  have hok2 : md_ok B2 c := by unfold md_ok; rw [h21]; exact hok
  have icr : F_X10_isCracked (nI f) B2 = some (if rl_bit (A.1 p 5) f = 1 then 1 else 0, B2) := by
    rw [F_X10_isCracked, h21]
    by_cases a : B.1 76 43 = 4
    · rw [if_pos a, if_neg (fun z => (f7.mp z).1 a)]
    · rw [if_neg a, fm_gd_t (by decide), ck_9]
      by_cases b : (B.1 78 9 >>> (nI f &&& 31)) &&& 1 = 1
      · rw [if_pos b, if_pos (f7.mpr ⟨a, b⟩)]
      · rw [if_neg b, if_neg (fun z => b (f7.mp z).2)]
  have mdd : md_damp B2 c = md_damp B c := by unfold md_damp md_wet; rw [h21]
  have mdw : md_width B2 f = md_width B f := by unfold md_width; rw [h21]
  have ech : F_X10_callsHum (nI c) (nI f) (x) n B = some ((), B2) := by
    rw [F_X10_callsHum, md_wp_ok hok, fm_bd_s, md_width_ok hf8, fm_bd_s, fm_gd_t (nu_inb (by omega) (by omega)), md_beats_ok hok, fm_bd_s, nI_clamp (by omega), hs, hbt, md_calls_ok hok, fm_bd_s, hB2]
  -- the plain answer
  generalize hpl : (if rl_bit (A.1 p 5) f = 1 then B.1 82 f else if md_width B f < bt then 0 else B.1 82 f) = pl
  have hpr : 0 ≤ pl ∧ pl ≤ 99 := by
    have q0 : ∀ x : Int32, (0 ≤ x ∧ x ≤ 9) → 0 ≤ x ∧ x ≤ 99 := fun x hx => ⟨hx.1, Int32.le_iff_toInt_le.mpr (by have := Int32.le_iff_toInt_le.mp hx.2; rw [show (9 : Int32).toInt = 9 from rfl] at this; rw [show (99 : Int32).toInt = 99 from rfl]; omega)⟩
    rw [← hpl]
    by_cases a : rl_bit (A.1 p 5) f = 1
    · rw [if_pos a]; exact q0 _ f4
    · rw [if_neg a]
      by_cases b : md_width B f < bt
      · rw [if_pos b]; exact ⟨by decide, by decide⟩
      · rw [if_neg b]; exact q0 _ f4
  have elo : F_X10_loudAt (nI c) (nI f) (x) n B = fm_bd (F_X10_within 0 99 pl B2) (fun v M => some (v, M)) := by
    rw [F_X10_loudAt, ech, fm_bd_s, icr, fm_bd_s, ← hpl]
    by_cases a : rl_bit (A.1 p 5) f = 1
    · rw [if_pos a, if_pos a, if_neg (show ¬ (1 : Int32) = 0 by decide), J_X10_loudAt_33, J_X10_loudAt_38, if_neg (show ¬ (1 : Int32) = 0 by decide), fm_gd_t (nu_inb (by omega) (by omega)), nI_clamp (by omega), h21]
    · rw [if_neg a, if_neg a, if_pos rfl, md_beats_ok hok2, fm_bd_s, md_width_ok hf8, fm_bd_s, mdd, mdw, hs, hbt]
      by_cases b : md_width B f < bt
      · rw [if_pos b, if_pos b, J_X10_loudAt_38, if_pos rfl]
      · rw [if_neg b, if_neg b, J_X10_loudAt_33, J_X10_loudAt_38, if_neg (show ¬ (1 : Int32) = 0 by decide), fm_gd_t (nu_inb (by omega) (by omega)), nI_clamp (by omega), h21]
  -- the class's plain answer, in any memory that differs in the names alone
  have ecl : ∀ A3 : fm_M, (∀ q k, q ≠ t + 15 → A3.1 q k = A.1 q k) → fm_bd (F_X9_bitOf (A3.1 p 5) (nI f) A3) (fun v5 M6 => if v5 = 1 then J_X7_humOf_76 p t (nI f) n (-9223372036854775808) M6 else fm_bd (F_X7_beating p (nI f) n M6) (fun v8 M9 => fm_gd (fm_inb (nI f) 8) (if (M9.1 (p + 2) (Int32.toNatClampNeg (nI f))) < v8 then J_X7_humOf_81 p t (nI f) n (-9223372036854775808) 0 M9 else J_X7_humOf_76 p t (nI f) n (-9223372036854775808) M9))) = some (pl, A3) := by
    intro A3 hA3
    have pne : ∀ k, k ≤ 6 → p + k ≠ t + 15 := by
      intro k hk
      have hp' := hp
      simp only [fm_isSt, Bool.or_eq_true, beq_iff_eq] at hp'
      rcases fm_td ht with rfl | rfl <;> omega
    rw [F_X9_bitOf, fm_bd_s, hA3 p 5 (by have := pne 0 (by omega); omega), ← hpl]
    by_cases a : rl_bit (A.1 p 5) f = 1
    · rw [if_pos (show (A.1 p 5 >>> (nI f &&& 31)) &&& 1 = 1 from a), if_pos a, J_X7_humOf_76, J_X7_humOf_81, if_neg (show ¬ (1 : Int32) = 0 by decide), fm_gd_t (nu_inb hf8 (by omega)), nI_clamp (by omega), hA3 (t + 4) f (by omega), f3]
    · rw [if_neg (show ¬ (A.1 p 5 >>> (nI f &&& 31)) &&& 1 = 1 from a), if_neg a, F_X7_beating, fm_gd_t hp, F_X7_soundOf, fm_gd_t hp, fm_gd_t (nu_inb hf8 (by omega)), nI_clamp (by omega), fm_bd_s, cl_beats, fm_bd_s, fm_bd_s, fm_gd_t (nu_inb hf8 (by omega)), hA3 (p + 1) f (pne 1 (by omega)), hA3 p 1 (by have := pne 0 (by omega); omega), f1, hdamp, hs, hbt, hA3 (p + 2) f (pne 2 (by omega)), f2]
      by_cases b : md_width B f < bt
      · rw [if_pos b, if_pos b, J_X7_humOf_81, if_pos rfl]
      · rw [if_neg b, if_neg b, J_X7_humOf_76, J_X7_humOf_81, if_neg (show ¬ (1 : Int32) = 0 by decide), fm_gd_t (nu_inb hf8 (by omega)), nI_clamp (by omega), hA3 (t + 4) f (by omega), f3]
  rw [elo, F_X10_within]
  rcases lx_humLaw hp ht hok hlw hday hdamp hf8 f1 f2 f3 n with ⟨e1, e2⟩ | ⟨e2, v, A2, g, B3, e1, e3, e4⟩
  · rw [e1, fm_bd_s, if_pos ((nu_cmp0 _ _).mpr rfl), ecl A (fun _ _ _ => rfl), md_has_cg h21 e2, fm_bd_s, if_pos rfl, fm_bd_s]
    exact ⟨pl, _, _, rfl, rfl, hpr.1, hpr.2⟩
  · rw [hs, hbt, hB2] at e3
    have hfr : ∀ q k, q ≠ t + 15 → A2.1 q k = A.1 q k := fun q k hq => fr_X7_humLaw p t (nI f) n A (v, A2) e1 q k (by
      rintro ⟨e, he, h1, -⟩
      simp only [List.mem_singleton] at he
      subst he
      exact hq h1)
    rw [e1, fm_bd_s, md_has_cg h21 e2, fm_bd_s, if_neg (show ¬ (1 : Int32) = 0 by decide), e3, fm_bd_s]
    rcases e4 with ⟨q1, q2⟩ | ⟨q1, q2, q3⟩
    · rw [q1, if_pos ((nu_cmp0 _ _).mpr rfl), ecl A2 hfr, q2, if_pos rfl, fm_bd_s]
      exact ⟨pl, _, _, rfl, rfl, hpr.1, hpr.2⟩
    · have nm : ¬ v = -9223372036854775808 := by
        intro z
        rw [z] at q3
        unfold ev_bd at q3
        rw [ev_min] at q3
        omega
      rw [if_neg (fun z => nm ((nu_cmp0 _ _).mp z)), F_X9_within, fm_bd_s, q1, if_neg (show ¬ (1 : Int32) = 0 by decide), fm_gd_t (by decide), fm_bd_s, ck_0, ← q2]
      exact ⟨_, _, _, rfl, rfl, (rl_clamp q3).1, (rl_clamp q3).2⟩
