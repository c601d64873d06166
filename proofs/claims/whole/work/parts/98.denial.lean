/-! expressions: comparisons, denials, and the whole -/
def md_cmp (rN rE : fm_M → Option (Unit × fm_M)) (M2 : fm_M) : Option (Unit × fm_M) :=
  fm_bd (H_X10_sum rE M2) (fun _ M4 => if (M4.1 76 24) = 0 then (if (M4.1 76 22) = 3 then (if (M4.1 76 23) = 60 then (J_X10_negation_87 rN rE M4) else (if (M4.1 76 23) = 62 then (J_X10_negation_87 rN rE M4) else (if (M4.1 76 23) = 61 then (J_X10_negation_87 rN rE M4) else (if 256 ≤ (M4.1 76 23) then (J_X10_negation_87 rN rE M4) else (some ((), M4)))))) else (some ((), M4))) else (some ((), M4)))
theorem md_neg0 {rN rE : fm_M → Option (Unit × fm_M)} {B : fm_M} (h : F_X10_isWord 14 B = some (0, B)) : H_X10_negation rN rE B = md_cmp rN rE B := by
  rw [H_X10_negation, h, fm_bd_s, if_pos rfl]; rfl
theorem tkr_cmp {t v s w : Int32} (h : tkr t v s w) : (¬ t < 7 ∧ ¬ 12 < t ∧ s = 3 ∧ (w = 60 ∨ w = 62 ∨ w = 61 ∨ 256 ≤ w) ∧ ev_op t w) ∨ ((t < 7 ∨ 12 < t) ∧ (s = 3 → ¬ w = 60 ∧ ¬ w = 62 ∧ ¬ w = 61 ∧ ¬ 256 ≤ w)) := by
  rcases h with ⟨rfl, rfl⟩ | ⟨rfl, rfl⟩ | ⟨rfl, rfl, -⟩ | ⟨rfl, rfl, -⟩ | ⟨rfl, h⟩ | ⟨j, j1, rfl, rfl, rfl⟩
  · exact Or.inr ⟨Or.inl (by decide), fun z => absurd z (by decide)⟩
  · exact Or.inr ⟨Or.inl (by decide), fun z => absurd z (by decide)⟩
  · exact Or.inr ⟨Or.inl (by decide), fun z => absurd z (by decide)⟩
  · exact Or.inr ⟨Or.inl (by decide), fun z => absurd z (by decide)⟩
  · unfold sgt at h
    unfold ev_op
    rcases h with ⟨rfl, rfl⟩ | ⟨rfl, rfl⟩ | ⟨rfl, rfl⟩ | ⟨rfl, rfl⟩ | ⟨rfl, rfl⟩ | ⟨rfl, rfl⟩ | ⟨rfl, rfl⟩ | ⟨rfl, rfl⟩ | ⟨rfl, rfl⟩ | ⟨rfl, rfl⟩ | ⟨rfl, rfl⟩ | ⟨rfl, rfl⟩ | ⟨rfl, rfl⟩ <;> decide
  · exact Or.inr ⟨Or.inr (nI_lt (a := 12) (by omega) (by omega)), fun z => absurd z (by decide)⟩
theorem x_cmp {u n d : Nat} {rA : Int32 → fm_M → Option (Unit × fm_M)} {rB : fm_M → Option (Unit × fm_M)} (rN : fm_M → Option (Unit × fm_M)) (hc : XC u n d (H_X6_readSum rA (nI d)) (H_X10_sum rB)) : XC u n d (H_X6_readComparison rA (nI d)) (md_cmp rN rB) := by
  refine ⟨fun A B lo L K hb h => ?_, fun A B hb h => ?_⟩
  · obtain ⟨A2, B2, y1, y2, y3, y4, y5⟩ := hc.1 A B lo L K hb h
    rw [H_X6_readComparison, y1, fm_bd_s, md_cmp, y2, fm_bd_s]
    have hb2 := xb_fr hb y3 y4
    rcases y5 with y5 | ⟨L2, K2, y5, y6, y7, y8, y9⟩
    · rw [if_neg y5.a, if_neg y5.b]
      exact ⟨A2, B2, rfl, rfl, y3, y4, Or.inl y5⟩
    · obtain ⟨⟨h1, h2, h3⟩, ⟨p, k, t1, t2, t3, t4, t5, t6, t7, t8, t9⟩, -⟩ := id y5
      rw [if_pos h1, if_pos h2]
      rcases tkr_cmp t8 with ⟨q1, q2, q3, q4, q5⟩ | ⟨q1, q2⟩
      · obtain ⟨A3, A4, A5, B3, B4, B5, B6, z1, z2, z3, z4, z5, z6, z7, z8, z9, z10, z11⟩ := x_bin hc hb2 y5 y8 (by omega) q5
        have e : J_X10_negation_87 rN rB B2 = some ((), B6) := by rw [J_X10_negation_87, fm_lt, z5, fm_bd_s, z6, fm_bd_s, z7, fm_bd_s, z8, fm_bd_s]
        rw [if_neg q1, if_neg q2, fm_lt, z1, fm_bd_s, z2, fm_bd_s, fm_lt, z3, fm_gd_t hb.1, z4, fm_bd_s, if_pos q3, e]
        refine ⟨A5, B6, rfl, ?_, xfA_tr y3 z9, xfB_tr y4 z10, ?_⟩
        · by_cases c1 : B2.1 76 23 = 60
          · rw [if_pos c1]
          · by_cases c2 : B2.1 76 23 = 62
            · rw [if_neg c1, if_pos c2]
            · by_cases c3 : B2.1 76 23 = 61
              · rw [if_neg c1, if_neg c2, if_pos c3]
              · rw [if_neg c1, if_neg c2, if_neg c3, if_pos (by rcases q4 with q | q | q | q; exact absurd q c1; exact absurd q c2; exact absurd q c3; exact q)]
        · rcases z11 with z11 | ⟨L3, K3, w1, w2, w3, w4, w5⟩
          · exact Or.inl z11
          · exact Or.inr ⟨L3, K3, w1, by omega, by omega, w4, xk_tr y9 w5 (by omega)⟩
      · refine ⟨A2, B2, ?_, ?_, y3, y4, Or.inr ⟨L2, K2, y5, y6, y7, y8, y9⟩⟩
        · by_cases c : A2.1 1 8 < 7
          · rw [if_pos c]
          · rw [if_neg c, if_pos (q1.resolve_left c)]
        · by_cases c : B2.1 76 22 = 3
          · obtain ⟨r1, r2, r3, r4⟩ := q2 c
            rw [if_pos c, if_neg r1, if_neg r2, if_neg r3, if_neg r4]
          · rw [if_neg c]
  · obtain ⟨A2, B2, y1, y2, y3, y4, y5⟩ := hc.2 A B hb h
    rw [H_X6_readComparison, y1, fm_bd_s, md_cmp, y2, fm_bd_s, if_neg y5.a, if_neg y5.b]
    exact ⟨A2, B2, rfl, rfl, y3, y4, y5⟩
/-- the class lays its denials in a row -/
def ad (u : Nat) : Nat → fm_M → fm_M → Prop
  | 0, A, A2 => A2 = A
  | k + 1, A, A2 => ∃ A1, ad u k A A1 ∧ A1.1 1 5 = nI u ∧ F_X3_add (u + 10) 31 0 A1 = some ((), A2)
theorem ad_front {u : Nat} : ∀ (k : Nat) (A A2 : fm_M), ad u (k + 1) A A2 → ∃ A1, A.1 1 5 = nI u ∧ F_X3_add (u + 10) 31 0 A = some ((), A1) ∧ ad u k A1 A2 := by
  intro k
  induction k with
  | zero =>
    intro A A2 h
    obtain ⟨A1, h1, h2, h3⟩ := h
    have h1 : A1 = A := h1
    subst h1
    exact ⟨A2, h2, h3, rfl⟩
  | succ k ih =>
    intro A A2 h
    obtain ⟨A1, h1, h2, h3⟩ := h
    obtain ⟨A0, g1, g2, g3⟩ := ih A A1 h1
    exact ⟨A0, g1, g2, A1, g3, h2, h3⟩
theorem ad_run {u : Nat} (hu : fm_isTd u = true) {rA : Int32 → fm_M → Option (Unit × fm_M)} (d : Int32) : ∀ (k i f : Nat) (A A2 : fm_M), i + k < 2 ^ 31 → k < f → ad u k A A2 → ∃ x, G_X6_readDenial_46 rA f d (nI (i + k)) (nI i) A = some (x, A2) := by
  intro k
  induction k with
  | zero =>
    intro i f A A2 hi hf h
    obtain ⟨f, rfl⟩ : ∃ z, f = z + 1 := ⟨f - 1, by omega⟩
    have h : A2 = A := h
    subst h
    rw [G_X6_readDenial_46, if_pos (nI_le (by omega) (by omega))]
    exact ⟨_, rfl⟩
  | succ k ih =>
    intro i f A A2 hi hf h
    obtain ⟨f, rfl⟩ : ∃ z, f = z + 1 := ⟨f - 1, by omega⟩
    obtain ⟨A1, h1, h2, h3⟩ := ad_front k A A2 h
    have hu2 := fm_td hu
    rw [G_X6_readDenial_46, if_neg (nI_ge (by omega) (by omega)), fm_lt, h1, nI_clamp (by omega), fm_gd_t hu, h2, fm_bd_s, nI_1, show i + (k + 1) = (i + 1) + k by omega]
    exact ih (i + 1) f A1 A2 (by omega) (by omega) h3
theorem x_denL {u n d : Nat} {rA : Int32 → fm_M → Option (Unit × fm_M)} {rB : fm_M → Option (Unit × fm_M)} (hs : XC u n d (H_X6_readSum rA (nI d)) (H_X10_sum rB)) : ∀ (m fa fb c lo L K : Nat) (A B : fm_M), 65 ≤ K + m → m < fa → m + 1 < fb → c ≤ K → xb A B u n → XR A B u n lo d L K → ∃ (k : Nat) (l3 : Int32) (A1 A2 A3 B3 : fm_M), G_X6_readDenial_4 rA fa (nI d) (nI c) (nI c) A = some ((nI (c + k), l3), A1) ∧ H_X6_readComparison rA (nI d) A1 = some ((), A2) ∧ ad u k A2 A3 ∧ N_X10 rB fb B = some ((), B3) ∧ c + k ≤ 66 ∧ XO A B A3 B3 u n lo d L K := by
  intro m
  induction m with
  | zero => intro fa fb c lo L K A B hK _ _ _ _ h; have := h.2.2.1.2.2.2.2.2; omega
  | succ m ih =>
    intro fa fb c lo L K A B hK hfa hfb hcK hb h
    obtain ⟨fa, rfl⟩ : ∃ z, fa = z + 2 := ⟨fa - 2, by omega⟩
    obtain ⟨fb, rfl⟩ : ∃ z, fb = z + 2 := ⟨fb - 2, by omega⟩
    have h64 := h.2.2.1.2.2.2.2.2
    have hLK := h.2.2.1.2.2.2.2.1
    have hu := fm_td hb.1
    rw [G_X6_readDenial_4, if_neg (show ¬ (64 : Int32) < nI c from nI_nlt (a := 64) (by omega) (by omega)), if_pos h.1.1, N_X10]
    rcases md_isWord h (i := 14) (by omega) with ⟨e1, e2⟩ | ⟨e1, e2⟩
    · have e1 : A.1 1 8 = 31 := e1
      rw [if_pos e1, H_X10_negation, show F_X10_isWord 14 B = _ from e2, fm_bd_s, if_neg n10]
      obtain ⟨A1, B1, B2, x1, x2, x3, x4, x5, x6⟩ := x_knot hb h
      have hb1 := xb_fr hb x4 x5
      rw [x1, fm_bd_s, x2, fm_bd_s, x3, fm_bd_s, nI_1]
      rcases x6 with x6 | ⟨x6, x7⟩
      · obtain ⟨A2, B3, y1, y2, y3, y4, y5⟩ := (x_cmp (N_X10 rB fb) hs).2 A1 B2 hb1 x6
        have hb2 := xb_fr hb1 y3 y4
        obtain ⟨A3, z1, z2, z3⟩ := cl_addF 31 0 hb2 y5
        have e : ∃ l3, G_X6_readDenial_4 rA (fa + 1) (nI d) (nI (c + 1)) (nI (c + 1)) A1 = some ((nI (c + 1), l3), A1) := by
          rw [G_X6_readDenial_4]
          by_cases q : (64 : Int32) < nI (c + 1)
          · rw [if_pos q]; exact ⟨_, rfl⟩
          · rw [if_neg q, if_neg x6.a]; exact ⟨_, rfl⟩
        obtain ⟨l3, e⟩ := e
        rw [e]
        refine ⟨1, l3, A1, A2, A3, B3, rfl, y1, ⟨A2, rfl, hb2.2.2, z1⟩, ?_, by omega, xfA_tr x4 (xfA_tr y3 z2), xfB_tr x5 y4, Or.inl z3⟩
        rw [N_X10, md_neg0 ((md_dead x6.b).2.2.2.1 14), y2, fm_bd_s, (md_dead y5.b).2.2.1, fm_bd_s]
      · obtain ⟨k, l3, A2, A3, A4, B3, y1, y2, y3, y4, y5, y6, y7, y8⟩ := ih (fa + 1) (fb + 1) (c + 1) lo L (K + 1) A1 B2 (by omega) (by omega) (by omega) (by omega) hb1 x6
        rw [y1, y4, fm_bd_s]
        have hb2 := xb_fr hb1 y6 y7
        rcases y8 with y8 | ⟨L2, K2, w1, w2, w3, w4, w5⟩
        · obtain ⟨A5, z1, z2, z3⟩ := cl_addF 31 0 hb2 y8
          refine ⟨k + 1, l3, A2, A3, A5, B3, by rw [show c + 1 + k = c + (k + 1) by omega], y2, ⟨A4, y3, hb2.2.2, z1⟩, ?_, by omega, xfA_tr x4 (xfA_tr y6 z2), xfB_tr x5 y7, Or.inl z3⟩
          rw [(md_dead y8.b).2.2.1, fm_bd_s]
        · obtain ⟨A5, B4, z1, z2, z3, z4, z5, z6, z7, z8⟩ := x_put hb2 w1 (by omega) 31 0 260 (Or.inl ⟨rfl, rfl⟩)
          refine ⟨k + 1, l3, A2, A3, A5, B4, by rw [show c + 1 + k = c + (k + 1) by omega], y2, ⟨A4, y3, hb2.2.2, z1⟩, ?_, by omega, xfA_tr x4 (xfA_tr y6 z3), xfB_tr x5 (xfB_tr y7 z4), Or.inr ⟨L2 + 1, K2, z5, by omega, by omega, ?_, xk_tr x7 (xk_tr w5 z6 (by omega)) (Nat.le_refl _)⟩⟩
          · rw [z2, fm_bd_s]
          · exact seg_not (seg_cg w4 (fun i _ b => ⟨(z6 i b).2.2.1, (z6 i b).2.2.2⟩)) (by omega) z7 z8
    · have e1 : ¬ A.1 1 8 = 31 := e1
      rw [if_neg e1, md_neg0 (show F_X10_isWord 14 B = _ from e2)]
      obtain ⟨A2, B2, y1, y2, y3⟩ := (x_cmp (N_X10 rB (fb + 1)) hs).1 A B lo L K hb h
      exact ⟨0, _, A, A2, A2, B2, rfl, y1, rfl, y2, by omega, y3⟩
theorem x_den {u n d : Nat} {rA : Int32 → fm_M → Option (Unit × fm_M)} {rB : fm_M → Option (Unit × fm_M)} (hs : XC u n d (H_X6_readSum rA (nI d)) (H_X10_sum rB)) : XC u n d (H_X6_readDenial rA (nI d)) (N_X10 rB 70) := by
  refine ⟨fun A B lo L K hb h => ?_, fun A B hb h => ?_⟩
  · obtain ⟨k, l3, A1, A2, A3, B3, y1, y2, y3, y4, y5, y6⟩ := x_denL hs 65 fm_fuel 70 0 lo L K A B (by omega) (by unfold fm_fuel; omega) (by omega) (by omega) hb h
    obtain ⟨x, z⟩ := ad_run hb.1 (rA := rA) (nI d) k 0 fm_fuel A2 A3 (by omega) (by unfold fm_fuel; omega) y3
    refine ⟨A3, B3, ?_, y4, y6⟩
    rw [H_X6_readDenial, show G_X6_readDenial_4 rA fm_fuel (nI d) 0 0 A = _ from y1, fm_bd_s, y2, fm_bd_s]
    dsimp only
    rw [show G_X6_readDenial_46 rA fm_fuel (nI d) (nI (0 + k)) 0 A2 = _ from z, fm_bd_s]
  · obtain ⟨A2, B2, y1, y2, y3, y4, y5⟩ := (x_cmp (N_X10 rB 69) hs).2 A B hb h
    refine ⟨A2, B2, ?_, ?_, y3, y4, y5⟩
    · rw [H_X6_readDenial, show fm_fuel = 9999 + 1 from rfl, G_X6_readDenial_4, if_neg (show ¬ (64 : Int32) < 0 by decide), if_neg h.a, fm_bd_s, y1, fm_bd_s]
      dsimp only
      rw [G_X6_readDenial_46, if_pos (show (0 : Int32) ≤ 0 by decide), fm_bd_s]
    · rw [N_X10, md_neg0 ((md_dead h.b).2.2.2.1 14), y2]
/-- expressions, to their full depth -/
theorem x_E {u n : Nat} : ∀ k d : Nat, 9 ≤ k + d → d ≤ 8 → XC u n d (E_X6 k (nI d)) (E_X10 k) := by
  intro k
  induction k with
  | zero => intro d h1 h2; omega
  | succ k ih =>
    intro d h1 h2
    have e1 : E_X6 (k + 1) (nI d) = H_X6_readEither (E_X6 k) (nI d) := by funext M; rw [E_X6]
    have e2 : E_X10 (k + 1) = H_X10_expression (E_X10 k) := by funext M; rw [E_X10]
    rw [e1, e2]
    exact x_eith (x_both (x_den (x_sum (x_prod (x_part (fun hd => ih (d + 1) (by omega) (by omega)))))))
theorem x_all {u n : Nat} : XC u n 0 (F_X6_readEither 0) F_X10_expression := by
  have e1 : F_X6_readEither 0 = E_X6 12 (nI 0) := by funext M; rw [F_X6_readEither]; rfl
  have e2 : F_X10_expression = E_X10 12 := by funext M; rw [F_X10_expression]
  rw [e1, e2]
  exact x_E 12 0 (by omega) (by omega)
