/-! expressions: level by level -/
theorem sgt_c {t w : Int32} (h : sgt t w) : ∃ c : Nat, 4 ≤ c ∧ c < 17 ∧ t = nI c := by
  unfold sgt at h
  rcases h with ⟨h, -⟩ | ⟨h, -⟩ | ⟨h, -⟩ | ⟨h, -⟩ | ⟨h, -⟩ | ⟨h, -⟩ | ⟨h, -⟩ | ⟨h, -⟩ | ⟨h, -⟩ | ⟨h, -⟩ | ⟨h, -⟩ | ⟨h, -⟩ | ⟨h, -⟩
  · exact ⟨4, by omega, by omega, h⟩
  · exact ⟨5, by omega, by omega, h⟩
  · exact ⟨6, by omega, by omega, h⟩
  · exact ⟨7, by omega, by omega, h⟩
  · exact ⟨8, by omega, by omega, h⟩
  · exact ⟨9, by omega, by omega, h⟩
  · exact ⟨10, by omega, by omega, h⟩
  · exact ⟨11, by omega, by omega, h⟩
  · exact ⟨12, by omega, by omega, h⟩
  · exact ⟨13, by omega, by omega, h⟩
  · exact ⟨14, by omega, by omega, h⟩
  · exact ⟨15, by omega, by omega, h⟩
  · exact ⟨16, by omega, by omega, h⟩
theorem sgt_inj {t w a b : Int32} (h : sgt t w) (g : sgt a b) : t = a ↔ w = b := by
  unfold sgt at h g
  rcases h with ⟨rfl, rfl⟩ | ⟨rfl, rfl⟩ | ⟨rfl, rfl⟩ | ⟨rfl, rfl⟩ | ⟨rfl, rfl⟩ | ⟨rfl, rfl⟩ | ⟨rfl, rfl⟩ | ⟨rfl, rfl⟩ | ⟨rfl, rfl⟩ | ⟨rfl, rfl⟩ | ⟨rfl, rfl⟩ | ⟨rfl, rfl⟩ | ⟨rfl, rfl⟩ <;>
  rcases g with ⟨rfl, rfl⟩ | ⟨rfl, rfl⟩ | ⟨rfl, rfl⟩ | ⟨rfl, rfl⟩ | ⟨rfl, rfl⟩ | ⟨rfl, rfl⟩ | ⟨rfl, rfl⟩ | ⟨rfl, rfl⟩ | ⟨rfl, rfl⟩ | ⟨rfl, rfl⟩ | ⟨rfl, rfl⟩ | ⟨rfl, rfl⟩ | ⟨rfl, rfl⟩ <;> decide
theorem tkr_sg {t v s w a b : Int32} (h : tkr t v s w) (g : sgt a b) : t = a ↔ (s = 3 ∧ w = b) := by
  obtain ⟨c, c1, c2, rfl⟩ := sgt_c g
  rcases h with ⟨rfl, rfl⟩ | ⟨rfl, rfl⟩ | ⟨rfl, rfl, -⟩ | ⟨rfl, rfl, -⟩ | ⟨rfl, h⟩ | ⟨j, j1, rfl, rfl, rfl⟩
  · exact ⟨fun z => by have := (nI_eq (a := 0) (by omega) (by omega)).mp z; omega, fun z => absurd z.1 (by decide)⟩
  · exact ⟨fun z => by have := (nI_eq (a := 1) (by omega) (by omega)).mp z; omega, fun z => absurd z.1 (by decide)⟩
  · exact ⟨fun z => by have := (nI_eq (a := 2) (by omega) (by omega)).mp z; omega, fun z => absurd z.1 (by decide)⟩
  · exact ⟨fun z => by have := (nI_eq (a := 3) (by omega) (by omega)).mp z; omega, fun z => absurd z.1 (by decide)⟩
  · exact ⟨fun z => ⟨rfl, (sgt_inj h g).mp z⟩, fun z => (sgt_inj h g).mpr z.2⟩
  · exact ⟨fun z => by have := (nI_eq (by omega) (by omega)).mp z; omega, fun z => absurd z.1 (by decide)⟩
theorem tkr_wd {t v s w : Int32} {i : Nat} (h : tkr t v s w) (hi : i < 22) : t = nI (17 + i) ↔ (s = 0 ∧ w = nI i) := by
  rcases h with ⟨rfl, rfl⟩ | ⟨rfl, rfl⟩ | ⟨rfl, rfl, -⟩ | ⟨rfl, rfl, -⟩ | ⟨rfl, h⟩ | ⟨j, j1, rfl, rfl, rfl⟩
  · exact ⟨fun z => by have := (nI_eq (a := 0) (by omega) (by omega)).mp z; omega, fun z => absurd z.1 (by decide)⟩
  · exact ⟨fun z => by have := (nI_eq (a := 1) (by omega) (by omega)).mp z; omega, fun z => absurd z.1 (by decide)⟩
  · exact ⟨fun z => by have := (nI_eq (a := 2) (by omega) (by omega)).mp z; omega, fun z => absurd z.1 (by decide)⟩
  · exact ⟨fun z => by have := (nI_eq (a := 3) (by omega) (by omega)).mp z; omega, fun z => absurd z.1 (by decide)⟩
  · obtain ⟨c, c1, c2, rfl⟩ := sgt_c h
    exact ⟨fun z => by have := (nI_eq (by omega) (by omega)).mp z; omega, fun z => absurd z.1 (by decide)⟩
  · refine ⟨fun z => ⟨rfl, ?_⟩, fun z => ?_⟩
    · have := (nI_eq (by omega) (by omega)).mp z
      congr 1; omega
    · have := (nI_eq (by omega) (by omega)).mp z.2
      congr 1; omega
/-- is the token this sign, this word -/
theorem md_isSign {A B : fm_M} {u n lo d L K : Nat} (h : XR A B u n lo d L K) {a b : Int32} (g : sgt a b) : (A.1 1 8 = a ∧ F_X10_isSign b B = some (1, B) ∧ B.1 76 23 = b) ∨ (¬ A.1 1 8 = a ∧ F_X10_isSign b B = some (0, B)) := by
  obtain ⟨⟨h1, h2, h3⟩, ⟨p, k, t1, t2, t3, t4, t5, t6, t7, t8, t9⟩, -⟩ := h
  have e := tkr_sg t8 g
  rw [F_X10_isSign, if_pos h2]
  by_cases c : A.1 1 8 = a
  · rw [if_pos (e.mp c).1, if_pos (e.mp c).2]; exact Or.inl ⟨c, rfl, (e.mp c).2⟩
  · refine Or.inr ⟨c, ?_⟩
    by_cases d : B.1 76 22 = 3
    · rw [if_pos d, if_neg (fun z => c (e.mpr ⟨d, z⟩))]
    · rw [if_neg d]
theorem md_isWord {A B : fm_M} {u n lo d L K i : Nat} (h : XR A B u n lo d L K) (hi : i < 22) : (A.1 1 8 = nI (17 + i) ∧ F_X10_isWord (nI i) B = some (1, B)) ∨ (¬ A.1 1 8 = nI (17 + i) ∧ F_X10_isWord (nI i) B = some (0, B)) := by
  obtain ⟨⟨h1, h2, h3⟩, ⟨p, k, t1, t2, t3, t4, t5, t6, t7, t8, t9⟩, -⟩ := h
  have e := tkr_wd t8 hi
  rw [F_X10_isWord, if_pos h2]
  by_cases c : A.1 1 8 = nI (17 + i)
  · rw [if_pos (e.mp c).1, if_pos (e.mp c).2]; exact Or.inl ⟨c, rfl⟩
  · refine Or.inr ⟨c, ?_⟩
    by_cases d : B.1 76 22 = 0
    · rw [if_pos d, if_neg (fun z => c (e.mpr ⟨d, z⟩))]
    · rw [if_neg d]
theorem ev_op_260 {x v : Int32} (h : ev_op x v) : v ≠ 260 := by
  unfold ev_op at h
  rcases h with ⟨-, rfl⟩ | ⟨-, rfl⟩ | ⟨-, rfl⟩ | ⟨-, rfl⟩ | ⟨-, rfl⟩ | ⟨-, rfl⟩ | ⟨-, rfl⟩ | ⟨-, rfl⟩ | ⟨-, rfl⟩ | ⟨-, rfl⟩ | ⟨-, rfl⟩ | ⟨-, rfl⟩ <;> decide
/-- a sign, its right side, and the sign behind -/
theorem x_bin {u n d lo L K L0 : Nat} {fA fB : fm_M → Option (Unit × fm_M)} (hc : XC u n d fA fB) {A B : fm_M} (hb : xb A B u n) (h : XR A B u n lo d L K) (hs : seg B L0 L) (hl : L0 ≤ L) {x v : Int32} (ho : ev_op x v) : ∃ A1 A2 A3 B1 B2 B3 B4 : fm_M, F_X6_passKnot A = some ((), A1) ∧ fA A1 = some ((), A2) ∧ Int32.toNatClampNeg (A2.1 1 5) = u ∧ F_X3_add (u + 10) x 0 A2 = some ((), A3) ∧ F_X10_knot B = some ((), B1) ∧ F_X10_goOn B1 = some ((), B2) ∧ fB B2 = some ((), B3) ∧ F_X10_puts 2 v B3 = some ((), B4) ∧ xfA u A A3 ∧ xfB B B4 ∧ (XF A3 B4 u ∨ ∃ L2 K2 : Nat, XR A3 B4 u n lo d L2 K2 ∧ L < L2 ∧ K2 + L = K + L2 ∧ seg B4 L0 L2 ∧ xk A B A3 B4 u L) := by
  have hu := fm_td hb.1
  obtain ⟨A1, B1, B2, x1, x2, x3, x4, x5, x6⟩ := x_knot hb h
  have hb1 := xb_fr hb x4 x5
  have dead : ∀ A2 B3 : fm_M, fA A1 = some ((), A2) → fB B2 = some ((), B3) → xfA u A1 A2 → xfB B2 B3 → XF A2 B3 u → ∃ A1 A2 A3 B1 B2 B3 B4 : fm_M, F_X6_passKnot A = some ((), A1) ∧ fA A1 = some ((), A2) ∧ Int32.toNatClampNeg (A2.1 1 5) = u ∧ F_X3_add (u + 10) x 0 A2 = some ((), A3) ∧ F_X10_knot B = some ((), B1) ∧ F_X10_goOn B1 = some ((), B2) ∧ fB B2 = some ((), B3) ∧ F_X10_puts 2 v B3 = some ((), B4) ∧ xfA u A A3 ∧ xfB B B4 ∧ (XF A3 B4 u ∨ ∃ L2 K2 : Nat, XR A3 B4 u n lo d L2 K2 ∧ L < L2 ∧ K2 + L = K + L2 ∧ seg B4 L0 L2 ∧ xk A B A3 B4 u L) := by
    intro A2 B3 y1 y2 y3 y4 y5
    have hb2 := xb_fr hb1 y3 y4
    obtain ⟨A3, z1, z2, z3⟩ := cl_addF x 0 hb2 y5
    exact ⟨A1, A2, A3, B1, B2, B3, B3, x1, y1, by rw [hb2.2.2, nI_clamp (by omega)], z1, x2, x3, y2, (md_dead y5.b).2.2.1 2 v, xfA_tr x4 (xfA_tr y3 z2), xfB_tr x5 y4, Or.inl z3⟩
  rcases x6 with x6 | ⟨x6, x7⟩
  · obtain ⟨A2, B3, y1, y2, y3, y4, y5⟩ := hc.2 A1 B2 hb1 x6
    exact dead A2 B3 y1 y2 y3 y4 y5
  · obtain ⟨A2, B3, y1, y2, y3, y4, y5⟩ := hc.1 A1 B2 lo L (K + 1) hb1 x6
    rcases y5 with y5 | ⟨L2, K2, y5, y6, y7, y8, y9⟩
    · exact dead A2 B3 y1 y2 y3 y4 y5
    · have hb2 := xb_fr hb1 y3 y4
      have hLK := h.2.2.1.2.2.2.2.1
      obtain ⟨A3, B4, z1, z2, z3, z4, z5, z6, z7, z8⟩ := x_put hb2 y5 (by omega) x 0 v (Or.inr ho)
      refine ⟨A1, A2, A3, B1, B2, B3, B4, x1, y1, by rw [hb2.2.2, nI_clamp (by omega)], z1, x2, x3, y2, z2, xfA_tr x4 (xfA_tr y3 z3), xfB_tr x5 (xfB_tr y4 z4), Or.inr ⟨L2 + 1, K2, z5, by omega, by omega, ?_, xk_tr x7 (xk_tr y9 z6 (by omega)) (Nat.le_refl _)⟩⟩
      have k2 := xk_tr y9 z6 (show L ≤ L2 by omega)
      exact seg_bin (seg_cg hs (fun i a b => ⟨by rw [(k2 i b).2.2.1, (x7 i b).2.2.1], by rw [(k2 i b).2.2.2, (x7 i b).2.2.2]⟩)) (seg_cg y8 (fun i a b => ⟨(z6 i b).2.2.1, (z6 i b).2.2.2⟩)) hl (by omega) z7 (by rw [z8]; exact ev_op_260 ho)
/-- from a sub-level and its loop to a level -/
theorem x_lev {u n d : Nat} {fA fB : fm_M → Option (Unit × fm_M)} {gA : fm_M → Option (Int32 × fm_M)} {gB : fm_M → Option (Unit × fm_M)} (hc : XC u n d fA fB)
    (h1 : ∀ (A B : fm_M) (lo L0 L K : Nat), xb A B u n → XR A B u n lo d L K → seg B L0 L → L0 ≤ L → ∃ (x : Int32) (A2 B2 : fm_M), gA A = some (x, A2) ∧ gB B = some ((), B2) ∧ xfA u A A2 ∧ xfB B B2 ∧ (XF A2 B2 u ∨ ∃ L2 K2 : Nat, XR A2 B2 u n lo d L2 K2 ∧ L ≤ L2 ∧ K2 + L = K + L2 ∧ seg B2 L0 L2 ∧ xk A B A2 B2 u L))
    (h2 : ∀ A B : fm_M, XF A B u → (∃ x : Int32, gA A = some (x, A)) ∧ gB B = some ((), B)) : XC u n d (fun A => fm_bd (fA A) (fun _ M2 => fm_bd (gA M2) (fun _ M13 => some ((), M13)))) (fun B => fm_bd (fB B) (fun _ M2 => fm_bd (gB M2) (fun _ M17 => some ((), M17)))) := by
  refine ⟨fun A B lo L K hb h => ?_, fun A B hb h => ?_⟩
  · obtain ⟨A2, B2, y1, y2, y3, y4, y5⟩ := hc.1 A B lo L K hb h
    rcases y5 with y5 | ⟨L2, K2, y5, y6, y7, y8, y9⟩
    · obtain ⟨⟨x, z1⟩, z2⟩ := h2 A2 B2 y5
      exact ⟨A2, B2, by simp only [y1, fm_bd_s, z1], by simp only [y2, fm_bd_s, z2], y3, y4, Or.inl y5⟩
    · obtain ⟨x, A3, B3, z1, z2, z3, z4, z5⟩ := h1 A2 B2 lo L L2 K2 (xb_fr hb y3 y4) y5 y8 (by omega)
      refine ⟨A3, B3, by simp only [y1, fm_bd_s, z1], by simp only [y2, fm_bd_s, z2], xfA_tr y3 z3, xfB_tr y4 z4, ?_⟩
      rcases z5 with z5 | ⟨L3, K3, z5, z6, z7, z8, z9⟩
      · exact Or.inl z5
      · exact Or.inr ⟨L3, K3, z5, by omega, by omega, z8, xk_tr y9 z9 (by omega)⟩
  · obtain ⟨A2, B2, y1, y2, y3, y4, y5⟩ := hc.2 A B hb h
    obtain ⟨⟨x, z1⟩, z2⟩ := h2 A2 B2 y5
    exact ⟨A2, B2, by simp only [y1, fm_bd_s, z1], by simp only [y2, fm_bd_s, z2], y3, y4, y5⟩

theorem x_prodL {u n d : Nat} {rA : Int32 → fm_M → Option (Unit × fm_M)} {rB : fm_M → Option (Unit × fm_M)} (hc : XC u n d (H_X6_readPart rA (nI d)) (H_X10_primary rB)) : ∀ (m i ga gb lo L0 L K : Nat) (A B : fm_M), 65 ≤ K + m → m < ga → m < gb → i ≤ K → xb A B u n → XR A B u n lo d L K → seg B L0 L → L0 ≤ L → ∃ (x : Int32) (A2 B2 : fm_M), G_X6_readProduct_7 rA ga (nI d) (nI i) A = some (x, A2) ∧ G_X10_product_4 rB gb B = some ((), B2) ∧ xfA u A A2 ∧ xfB B B2 ∧ (XF A2 B2 u ∨ ∃ L2 K2 : Nat, XR A2 B2 u n lo d L2 K2 ∧ L ≤ L2 ∧ K2 + L = K + L2 ∧ seg B2 L0 L2 ∧ xk A B A2 B2 u L) := by
  have dead : ∀ (ga gb i : Nat) (A B : fm_M), XF A B u → (∃ x : Int32, G_X6_readProduct_7 rA (ga + 1) (nI d) (nI i) A = some (x, A)) ∧ G_X10_product_4 rB (gb + 1) B = some ((), B) := by
    intro ga gb i A B h
    refine ⟨?_, ?_⟩
    · rw [G_X6_readProduct_7]
      by_cases c : (64 : Int32) < nI i
      · rw [if_pos c]; exact ⟨_, rfl⟩
      · rw [if_neg c, if_neg h.a]; exact ⟨_, rfl⟩
    · rw [G_X10_product_4, (md_dead h.b).2.2.2.2 _, fm_bd_s, if_pos rfl, (md_dead h.b).2.2.2.2 _, fm_bd_s, if_pos rfl]
  intro m
  induction m with
  | zero => intro i ga gb lo L0 L K A B hK _ _ _ _ h; have := h.2.2.1.2.2.2.2.2; omega
  | succ m ih =>
    intro i ga gb lo L0 L K A B hK hga hgb hi hb h hs hl
    obtain ⟨ga, rfl⟩ : ∃ z, ga = z + 1 := ⟨ga - 1, by omega⟩
    obtain ⟨gb, rfl⟩ : ∃ z, gb = z + 1 := ⟨gb - 1, by omega⟩
    have h64 := h.2.2.1.2.2.2.2.2
    have hu := fm_td hb.1
    rw [G_X6_readProduct_7, if_neg (show ¬ (64 : Int32) < nI i from nI_nlt (a := 64) (by omega) (by omega)), if_pos h.1.1, G_X10_product_4]
    -- one turn
    have turn : ∀ (x v : Int32), ev_op x v → ∃ A1 A2 A3 B1 B2 B3 B4 : fm_M, F_X6_passKnot A = some ((), A1) ∧ H_X6_readPart rA (nI d) A1 = some ((), A2) ∧ Int32.toNatClampNeg (A2.1 1 5) = u ∧ F_X3_add (u + 10) x 0 A2 = some ((), A3) ∧ F_X10_knot B = some ((), B1) ∧ F_X10_goOn B1 = some ((), B2) ∧ H_X10_primary rB B2 = some ((), B3) ∧ F_X10_puts 2 v B3 = some ((), B4) ∧ ∃ (x : Int32) (A5 B5 : fm_M), G_X6_readProduct_7 rA ga (nI d) (nI (i + 1)) A3 = some (x, A5) ∧ G_X10_product_4 rB gb B4 = some ((), B5) ∧ xfA u A A5 ∧ xfB B B5 ∧ (XF A5 B5 u ∨ ∃ L2 K2 : Nat, XR A5 B5 u n lo d L2 K2 ∧ L ≤ L2 ∧ K2 + L = K + L2 ∧ seg B5 L0 L2 ∧ xk A B A5 B5 u L) := by
      intro x v ho
      obtain ⟨A1, A2, A3, B1, B2, B3, B4, y1, y2, y3, y4, y5, y6, y7, y8, y9, y10, y11⟩ := x_bin hc hb h hs hl ho
      refine ⟨A1, A2, A3, B1, B2, B3, B4, y1, y2, y3, y4, y5, y6, y7, y8, ?_⟩
      rcases y11 with y11 | ⟨L2, K2, z1, z2, z3, z4, z5⟩
      · obtain ⟨ga, rfl⟩ : ∃ z, ga = z + 1 := ⟨ga - 1, by omega⟩
        obtain ⟨gb, rfl⟩ : ∃ z, gb = z + 1 := ⟨gb - 1, by omega⟩
        obtain ⟨⟨x, q1⟩, q2⟩ := dead ga gb (i + 1) A3 B4 y11
        exact ⟨x, A3, B4, q1, q2, y9, y10, Or.inl y11⟩
      · have k64 := z1.2.2.1.2.2.2.2.2
        obtain ⟨x, A5, B5, q1, q2, q3, q4, q5⟩ := ih (i + 1) ga gb lo L0 L2 K2 A3 B4 (by omega) (by omega) (by omega) (by omega) (xb_fr hb y9 y10) z1 z4 (by omega)
        refine ⟨x, A5, B5, q1, q2, xfA_tr y9 q3, xfB_tr y10 q4, ?_⟩
        rcases q5 with q5 | ⟨L3, K3, q5, q6, q7, q8, q9⟩
        · exact Or.inl q5
        · exact Or.inr ⟨L3, K3, q5, by omega, by omega, q8, xk_tr z5 q9 (by omega)⟩
    rcases md_isSign h (a := 15) (b := 42) (by unfold sgt; decide) with ⟨e1, e2, e3⟩ | ⟨e1, e2⟩
    · obtain ⟨A1, A2, A3, B1, B2, B3, B4, y1, y2, y3, y4, y5, y6, y7, y8, y9⟩ := turn 15 42 (by unfold ev_op; decide)
      rw [if_pos e1, e2, fm_bd_s, if_neg n10, J_X6_readProduct_38, fm_lt, y1, fm_bd_s, y2, fm_bd_s, fm_lt, y3, fm_gd_t hb.1, e1, y4, fm_bd_s, nI_1, J_X10_product_22, fm_lt, e3, y5, fm_bd_s, y6, fm_bd_s, y7, fm_bd_s, y8, fm_bd_s]
      exact y9
    rw [if_neg e1, e2, fm_bd_s, if_pos rfl]
    rcases md_isSign h (a := 16) (b := 47) (by unfold sgt; decide) with ⟨e1, e2, e3⟩ | ⟨e1, e2⟩
    · obtain ⟨A1, A2, A3, B1, B2, B3, B4, y1, y2, y3, y4, y5, y6, y7, y8, y9⟩ := turn 16 47 (by unfold ev_op; decide)
      rw [if_pos e1, e2, fm_bd_s, if_neg n10, J_X6_readProduct_38, fm_lt, y1, fm_bd_s, y2, fm_bd_s, fm_lt, y3, fm_gd_t hb.1, e1, y4, fm_bd_s, nI_1, J_X10_product_22, fm_lt, e3, y5, fm_bd_s, y6, fm_bd_s, y7, fm_bd_s, y8, fm_bd_s]
      exact y9
    rw [if_neg e1, e2, fm_bd_s, if_pos rfl]
    exact ⟨_, A, B, rfl, rfl, xfA_rf, xfB_rf, Or.inr ⟨L, K, h, Nat.le_refl _, by omega, hs, fun i hi => ⟨rfl, rfl, rfl, rfl⟩⟩⟩
theorem x_prod {u n d : Nat} {rA : Int32 → fm_M → Option (Unit × fm_M)} {rB : fm_M → Option (Unit × fm_M)} (hc : XC u n d (H_X6_readPart rA (nI d)) (H_X10_primary rB)) : XC u n d (H_X6_readProduct rA (nI d)) (H_X10_product rB) := by
  refine x_lev (gA := G_X6_readProduct_7 rA fm_fuel (nI d) 0) (gB := G_X10_product_4 rB fm_fuel) hc (fun A B lo L0 L K hb h hs hl => x_prodL hc 65 0 fm_fuel fm_fuel lo L0 L K A B (by omega) (by unfold fm_fuel; omega) (by unfold fm_fuel; omega) (by omega) hb h hs hl) (fun A B h => ⟨?_, ?_⟩)
  · rw [show fm_fuel = 9999 + 1 from rfl, G_X6_readProduct_7, if_neg (by decide), if_neg h.a]; exact ⟨_, rfl⟩
  · rw [show fm_fuel = 9999 + 1 from rfl, G_X10_product_4, (md_dead h.b).2.2.2.2 _, fm_bd_s, if_pos rfl, (md_dead h.b).2.2.2.2 _, fm_bd_s, if_pos rfl]
theorem x_sumL {u n d : Nat} {rA : Int32 → fm_M → Option (Unit × fm_M)} {rB : fm_M → Option (Unit × fm_M)} (hc : XC u n d (H_X6_readProduct rA (nI d)) (H_X10_product rB)) : ∀ (m i ga gb lo L0 L K : Nat) (A B : fm_M), 65 ≤ K + m → m < ga → m < gb → i ≤ K → xb A B u n → XR A B u n lo d L K → seg B L0 L → L0 ≤ L → ∃ (x : Int32) (A2 B2 : fm_M), G_X6_readSum_7 rA ga (nI d) (nI i) A = some (x, A2) ∧ G_X10_sum_4 rB gb B = some ((), B2) ∧ xfA u A A2 ∧ xfB B B2 ∧ (XF A2 B2 u ∨ ∃ L2 K2 : Nat, XR A2 B2 u n lo d L2 K2 ∧ L ≤ L2 ∧ K2 + L = K + L2 ∧ seg B2 L0 L2 ∧ xk A B A2 B2 u L) := by
  have dead : ∀ (ga gb i : Nat) (A B : fm_M), XF A B u → (∃ x : Int32, G_X6_readSum_7 rA (ga + 1) (nI d) (nI i) A = some (x, A)) ∧ G_X10_sum_4 rB (gb + 1) B = some ((), B) := by
    intro ga gb i A B h
    refine ⟨?_, ?_⟩
    · rw [G_X6_readSum_7]
      by_cases c : (64 : Int32) < nI i
      · rw [if_pos c]; exact ⟨_, rfl⟩
      · rw [if_neg c, if_neg h.a]; exact ⟨_, rfl⟩
    · rw [G_X10_sum_4, (md_dead h.b).2.2.2.2 _, fm_bd_s, if_pos rfl, (md_dead h.b).2.2.2.2 _, fm_bd_s, if_pos rfl]
  intro m
  induction m with
  | zero => intro i ga gb lo L0 L K A B hK _ _ _ _ h; have := h.2.2.1.2.2.2.2.2; omega
  | succ m ih =>
    intro i ga gb lo L0 L K A B hK hga hgb hi hb h hs hl
    obtain ⟨ga, rfl⟩ : ∃ z, ga = z + 1 := ⟨ga - 1, by omega⟩
    obtain ⟨gb, rfl⟩ : ∃ z, gb = z + 1 := ⟨gb - 1, by omega⟩
    have h64 := h.2.2.1.2.2.2.2.2
    have hu := fm_td hb.1
    rw [G_X6_readSum_7, if_neg (show ¬ (64 : Int32) < nI i from nI_nlt (a := 64) (by omega) (by omega)), if_pos h.1.1, G_X10_sum_4]
    -- one turn
    have turn : ∀ (x v : Int32), ev_op x v → ∃ A1 A2 A3 B1 B2 B3 B4 : fm_M, F_X6_passKnot A = some ((), A1) ∧ H_X6_readProduct rA (nI d) A1 = some ((), A2) ∧ Int32.toNatClampNeg (A2.1 1 5) = u ∧ F_X3_add (u + 10) x 0 A2 = some ((), A3) ∧ F_X10_knot B = some ((), B1) ∧ F_X10_goOn B1 = some ((), B2) ∧ H_X10_product rB B2 = some ((), B3) ∧ F_X10_puts 2 v B3 = some ((), B4) ∧ ∃ (x : Int32) (A5 B5 : fm_M), G_X6_readSum_7 rA ga (nI d) (nI (i + 1)) A3 = some (x, A5) ∧ G_X10_sum_4 rB gb B4 = some ((), B5) ∧ xfA u A A5 ∧ xfB B B5 ∧ (XF A5 B5 u ∨ ∃ L2 K2 : Nat, XR A5 B5 u n lo d L2 K2 ∧ L ≤ L2 ∧ K2 + L = K + L2 ∧ seg B5 L0 L2 ∧ xk A B A5 B5 u L) := by
      intro x v ho
      obtain ⟨A1, A2, A3, B1, B2, B3, B4, y1, y2, y3, y4, y5, y6, y7, y8, y9, y10, y11⟩ := x_bin hc hb h hs hl ho
      refine ⟨A1, A2, A3, B1, B2, B3, B4, y1, y2, y3, y4, y5, y6, y7, y8, ?_⟩
      rcases y11 with y11 | ⟨L2, K2, z1, z2, z3, z4, z5⟩
      · obtain ⟨ga, rfl⟩ : ∃ z, ga = z + 1 := ⟨ga - 1, by omega⟩
        obtain ⟨gb, rfl⟩ : ∃ z, gb = z + 1 := ⟨gb - 1, by omega⟩
        obtain ⟨⟨x, q1⟩, q2⟩ := dead ga gb (i + 1) A3 B4 y11
        exact ⟨x, A3, B4, q1, q2, y9, y10, Or.inl y11⟩
      · have k64 := z1.2.2.1.2.2.2.2.2
        obtain ⟨x, A5, B5, q1, q2, q3, q4, q5⟩ := ih (i + 1) ga gb lo L0 L2 K2 A3 B4 (by omega) (by omega) (by omega) (by omega) (xb_fr hb y9 y10) z1 z4 (by omega)
        refine ⟨x, A5, B5, q1, q2, xfA_tr y9 q3, xfB_tr y10 q4, ?_⟩
        rcases q5 with q5 | ⟨L3, K3, q5, q6, q7, q8, q9⟩
        · exact Or.inl q5
        · exact Or.inr ⟨L3, K3, q5, by omega, by omega, q8, xk_tr z5 q9 (by omega)⟩
    rcases md_isSign h (a := 13) (b := 43) (by unfold sgt; decide) with ⟨e1, e2, e3⟩ | ⟨e1, e2⟩
    · obtain ⟨A1, A2, A3, B1, B2, B3, B4, y1, y2, y3, y4, y5, y6, y7, y8, y9⟩ := turn 13 43 (by unfold ev_op; decide)
      rw [if_pos e1, e2, fm_bd_s, if_neg n10, J_X6_readSum_38, fm_lt, y1, fm_bd_s, y2, fm_bd_s, fm_lt, y3, fm_gd_t hb.1, e1, y4, fm_bd_s, nI_1, J_X10_sum_22, fm_lt, e3, y5, fm_bd_s, y6, fm_bd_s, y7, fm_bd_s, y8, fm_bd_s]
      exact y9
    rw [if_neg e1, e2, fm_bd_s, if_pos rfl]
    rcases md_isSign h (a := 14) (b := 45) (by unfold sgt; decide) with ⟨e1, e2, e3⟩ | ⟨e1, e2⟩
    · obtain ⟨A1, A2, A3, B1, B2, B3, B4, y1, y2, y3, y4, y5, y6, y7, y8, y9⟩ := turn 14 45 (by unfold ev_op; decide)
      rw [if_pos e1, e2, fm_bd_s, if_neg n10, J_X6_readSum_38, fm_lt, y1, fm_bd_s, y2, fm_bd_s, fm_lt, y3, fm_gd_t hb.1, e1, y4, fm_bd_s, nI_1, J_X10_sum_22, fm_lt, e3, y5, fm_bd_s, y6, fm_bd_s, y7, fm_bd_s, y8, fm_bd_s]
      exact y9
    rw [if_neg e1, e2, fm_bd_s, if_pos rfl]
    exact ⟨_, A, B, rfl, rfl, xfA_rf, xfB_rf, Or.inr ⟨L, K, h, Nat.le_refl _, by omega, hs, fun i hi => ⟨rfl, rfl, rfl, rfl⟩⟩⟩
theorem x_sum {u n d : Nat} {rA : Int32 → fm_M → Option (Unit × fm_M)} {rB : fm_M → Option (Unit × fm_M)} (hc : XC u n d (H_X6_readProduct rA (nI d)) (H_X10_product rB)) : XC u n d (H_X6_readSum rA (nI d)) (H_X10_sum rB) := by
  refine x_lev (gA := G_X6_readSum_7 rA fm_fuel (nI d) 0) (gB := G_X10_sum_4 rB fm_fuel) hc (fun A B lo L0 L K hb h hs hl => x_sumL hc 65 0 fm_fuel fm_fuel lo L0 L K A B (by omega) (by unfold fm_fuel; omega) (by unfold fm_fuel; omega) (by omega) hb h hs hl) (fun A B h => ⟨?_, ?_⟩)
  · rw [show fm_fuel = 9999 + 1 from rfl, G_X6_readSum_7, if_neg (by decide), if_neg h.a]; exact ⟨_, rfl⟩
  · rw [show fm_fuel = 9999 + 1 from rfl, G_X10_sum_4, (md_dead h.b).2.2.2.2 _, fm_bd_s, if_pos rfl, (md_dead h.b).2.2.2.2 _, fm_bd_s, if_pos rfl]
theorem x_bothL {u n d : Nat} {rA : Int32 → fm_M → Option (Unit × fm_M)} {rB : fm_M → Option (Unit × fm_M)} (hc : XC u n d (H_X6_readDenial rA (nI d)) (N_X10 rB 70)) : ∀ (m i ga gb lo L0 L K : Nat) (A B : fm_M), 65 ≤ K + m → m < ga → m < gb → i ≤ K → xb A B u n → XR A B u n lo d L K → seg B L0 L → L0 ≤ L → ∃ (x : Int32) (A2 B2 : fm_M), G_X6_readBoth_7 rA ga (nI d) (nI i) A = some (x, A2) ∧ G_X10_conjunction_4 rB gb B = some ((), B2) ∧ xfA u A A2 ∧ xfB B B2 ∧ (XF A2 B2 u ∨ ∃ L2 K2 : Nat, XR A2 B2 u n lo d L2 K2 ∧ L ≤ L2 ∧ K2 + L = K + L2 ∧ seg B2 L0 L2 ∧ xk A B A2 B2 u L) := by
  have dead : ∀ (ga gb i : Nat) (A B : fm_M), XF A B u → (∃ x : Int32, G_X6_readBoth_7 rA (ga + 1) (nI d) (nI i) A = some (x, A)) ∧ G_X10_conjunction_4 rB (gb + 1) B = some ((), B) := by
    intro ga gb i A B h
    refine ⟨?_, ?_⟩
    · rw [G_X6_readBoth_7]
      by_cases c : (64 : Int32) < nI i
      · rw [if_pos c]; exact ⟨_, rfl⟩
      · rw [if_neg c, if_neg h.a]; exact ⟨_, rfl⟩
    · rw [G_X10_conjunction_4, (md_dead h.b).2.2.2.1 _, fm_bd_s, if_pos rfl]
  intro m
  induction m with
  | zero => intro i ga gb lo L0 L K A B hK _ _ _ _ h; have := h.2.2.1.2.2.2.2.2; omega
  | succ m ih =>
    intro i ga gb lo L0 L K A B hK hga hgb hi hb h hs hl
    obtain ⟨ga, rfl⟩ : ∃ z, ga = z + 1 := ⟨ga - 1, by omega⟩
    obtain ⟨gb, rfl⟩ : ∃ z, gb = z + 1 := ⟨gb - 1, by omega⟩
    have h64 := h.2.2.1.2.2.2.2.2
    have hu := fm_td hb.1
    rw [G_X6_readBoth_7, if_neg (show ¬ (64 : Int32) < nI i from nI_nlt (a := 64) (by omega) (by omega)), if_pos h.1.1, G_X10_conjunction_4]
    -- one turn
    have turn : ∀ (x v : Int32), ev_op x v → ∃ A1 A2 A3 B1 B2 B3 B4 : fm_M, F_X6_passKnot A = some ((), A1) ∧ H_X6_readDenial rA (nI d) A1 = some ((), A2) ∧ Int32.toNatClampNeg (A2.1 1 5) = u ∧ F_X3_add (u + 10) x 0 A2 = some ((), A3) ∧ F_X10_knot B = some ((), B1) ∧ F_X10_goOn B1 = some ((), B2) ∧ N_X10 rB 70 B2 = some ((), B3) ∧ F_X10_puts 2 v B3 = some ((), B4) ∧ ∃ (x : Int32) (A5 B5 : fm_M), G_X6_readBoth_7 rA ga (nI d) (nI (i + 1)) A3 = some (x, A5) ∧ G_X10_conjunction_4 rB gb B4 = some ((), B5) ∧ xfA u A A5 ∧ xfB B B5 ∧ (XF A5 B5 u ∨ ∃ L2 K2 : Nat, XR A5 B5 u n lo d L2 K2 ∧ L ≤ L2 ∧ K2 + L = K + L2 ∧ seg B5 L0 L2 ∧ xk A B A5 B5 u L) := by
      intro x v ho
      obtain ⟨A1, A2, A3, B1, B2, B3, B4, y1, y2, y3, y4, y5, y6, y7, y8, y9, y10, y11⟩ := x_bin hc hb h hs hl ho
      refine ⟨A1, A2, A3, B1, B2, B3, B4, y1, y2, y3, y4, y5, y6, y7, y8, ?_⟩
      rcases y11 with y11 | ⟨L2, K2, z1, z2, z3, z4, z5⟩
      · obtain ⟨ga, rfl⟩ : ∃ z, ga = z + 1 := ⟨ga - 1, by omega⟩
        obtain ⟨gb, rfl⟩ : ∃ z, gb = z + 1 := ⟨gb - 1, by omega⟩
        obtain ⟨⟨x, q1⟩, q2⟩ := dead ga gb (i + 1) A3 B4 y11
        exact ⟨x, A3, B4, q1, q2, y9, y10, Or.inl y11⟩
      · have k64 := z1.2.2.1.2.2.2.2.2
        obtain ⟨x, A5, B5, q1, q2, q3, q4, q5⟩ := ih (i + 1) ga gb lo L0 L2 K2 A3 B4 (by omega) (by omega) (by omega) (by omega) (xb_fr hb y9 y10) z1 z4 (by omega)
        refine ⟨x, A5, B5, q1, q2, xfA_tr y9 q3, xfB_tr y10 q4, ?_⟩
        rcases q5 with q5 | ⟨L3, K3, q5, q6, q7, q8, q9⟩
        · exact Or.inl q5
        · exact Or.inr ⟨L3, K3, q5, by omega, by omega, q8, xk_tr z5 q9 (by omega)⟩
    rcases md_isWord h (i := 13) (by omega) with ⟨e1, e2⟩ | ⟨e1, e2⟩
    · have e1 : A.1 1 8 = 30 := e1
      obtain ⟨A1, A2, A3, B1, B2, B3, B4, y1, y2, y3, y4, y5, y6, y7, y8, y9⟩ := turn 30 261 (by unfold ev_op; decide)
      rw [if_pos e1, y1, fm_bd_s, y2, fm_bd_s, fm_lt, y3, fm_gd_t hb.1, y4, fm_bd_s, nI_1, show F_X10_isWord 13 B = _ from e2, fm_bd_s, if_neg n10, y5, fm_bd_s, y6, fm_bd_s, y7, fm_bd_s, y8, fm_bd_s]
      exact y9
    have e1 : ¬ A.1 1 8 = 30 := e1
    rw [if_neg e1, show F_X10_isWord 13 B = _ from e2, fm_bd_s, if_pos rfl]
    exact ⟨_, A, B, rfl, rfl, xfA_rf, xfB_rf, Or.inr ⟨L, K, h, Nat.le_refl _, by omega, hs, fun i hi => ⟨rfl, rfl, rfl, rfl⟩⟩⟩
theorem x_both {u n d : Nat} {rA : Int32 → fm_M → Option (Unit × fm_M)} {rB : fm_M → Option (Unit × fm_M)} (hc : XC u n d (H_X6_readDenial rA (nI d)) (N_X10 rB 70)) : XC u n d (H_X6_readBoth rA (nI d)) (H_X10_conjunction rB) := by
  refine x_lev (gA := G_X6_readBoth_7 rA fm_fuel (nI d) 0) (gB := G_X10_conjunction_4 rB fm_fuel) hc (fun A B lo L0 L K hb h hs hl => x_bothL hc 65 0 fm_fuel fm_fuel lo L0 L K A B (by omega) (by unfold fm_fuel; omega) (by unfold fm_fuel; omega) (by omega) hb h hs hl) (fun A B h => ⟨?_, ?_⟩)
  · rw [show fm_fuel = 9999 + 1 from rfl, G_X6_readBoth_7, if_neg (by decide), if_neg h.a]; exact ⟨_, rfl⟩
  · rw [show fm_fuel = 9999 + 1 from rfl, G_X10_conjunction_4, (md_dead h.b).2.2.2.1 _, fm_bd_s, if_pos rfl]
theorem x_eithL {u n d : Nat} {rA : Int32 → fm_M → Option (Unit × fm_M)} {rB : fm_M → Option (Unit × fm_M)} (hc : XC u n d (H_X6_readBoth rA (nI d)) (H_X10_conjunction rB)) : ∀ (m i ga gb lo L0 L K : Nat) (A B : fm_M), 65 ≤ K + m → m < ga → m < gb → i ≤ K → xb A B u n → XR A B u n lo d L K → seg B L0 L → L0 ≤ L → ∃ (x : Int32) (A2 B2 : fm_M), G_X6_readEither_7 rA ga (nI d) (nI i) A = some (x, A2) ∧ G_X10_expression_4 rB gb B = some ((), B2) ∧ xfA u A A2 ∧ xfB B B2 ∧ (XF A2 B2 u ∨ ∃ L2 K2 : Nat, XR A2 B2 u n lo d L2 K2 ∧ L ≤ L2 ∧ K2 + L = K + L2 ∧ seg B2 L0 L2 ∧ xk A B A2 B2 u L) := by
  have dead : ∀ (ga gb i : Nat) (A B : fm_M), XF A B u → (∃ x : Int32, G_X6_readEither_7 rA (ga + 1) (nI d) (nI i) A = some (x, A)) ∧ G_X10_expression_4 rB (gb + 1) B = some ((), B) := by
    intro ga gb i A B h
    refine ⟨?_, ?_⟩
    · rw [G_X6_readEither_7]
      by_cases c : (64 : Int32) < nI i
      · rw [if_pos c]; exact ⟨_, rfl⟩
      · rw [if_neg c, if_neg h.a]; exact ⟨_, rfl⟩
    · rw [G_X10_expression_4, (md_dead h.b).2.2.2.1 _, fm_bd_s, if_pos rfl]
  intro m
  induction m with
  | zero => intro i ga gb lo L0 L K A B hK _ _ _ _ h; have := h.2.2.1.2.2.2.2.2; omega
  | succ m ih =>
    intro i ga gb lo L0 L K A B hK hga hgb hi hb h hs hl
    obtain ⟨ga, rfl⟩ : ∃ z, ga = z + 1 := ⟨ga - 1, by omega⟩
    obtain ⟨gb, rfl⟩ : ∃ z, gb = z + 1 := ⟨gb - 1, by omega⟩
    have h64 := h.2.2.1.2.2.2.2.2
    have hu := fm_td hb.1
    rw [G_X6_readEither_7, if_neg (show ¬ (64 : Int32) < nI i from nI_nlt (a := 64) (by omega) (by omega)), if_pos h.1.1, G_X10_expression_4]
    -- one turn
    have turn : ∀ (x v : Int32), ev_op x v → ∃ A1 A2 A3 B1 B2 B3 B4 : fm_M, F_X6_passKnot A = some ((), A1) ∧ H_X6_readBoth rA (nI d) A1 = some ((), A2) ∧ Int32.toNatClampNeg (A2.1 1 5) = u ∧ F_X3_add (u + 10) x 0 A2 = some ((), A3) ∧ F_X10_knot B = some ((), B1) ∧ F_X10_goOn B1 = some ((), B2) ∧ H_X10_conjunction rB B2 = some ((), B3) ∧ F_X10_puts 2 v B3 = some ((), B4) ∧ ∃ (x : Int32) (A5 B5 : fm_M), G_X6_readEither_7 rA ga (nI d) (nI (i + 1)) A3 = some (x, A5) ∧ G_X10_expression_4 rB gb B4 = some ((), B5) ∧ xfA u A A5 ∧ xfB B B5 ∧ (XF A5 B5 u ∨ ∃ L2 K2 : Nat, XR A5 B5 u n lo d L2 K2 ∧ L ≤ L2 ∧ K2 + L = K + L2 ∧ seg B5 L0 L2 ∧ xk A B A5 B5 u L) := by
      intro x v ho
      obtain ⟨A1, A2, A3, B1, B2, B3, B4, y1, y2, y3, y4, y5, y6, y7, y8, y9, y10, y11⟩ := x_bin hc hb h hs hl ho
      refine ⟨A1, A2, A3, B1, B2, B3, B4, y1, y2, y3, y4, y5, y6, y7, y8, ?_⟩
      rcases y11 with y11 | ⟨L2, K2, z1, z2, z3, z4, z5⟩
      · obtain ⟨ga, rfl⟩ : ∃ z, ga = z + 1 := ⟨ga - 1, by omega⟩
        obtain ⟨gb, rfl⟩ : ∃ z, gb = z + 1 := ⟨gb - 1, by omega⟩
        obtain ⟨⟨x, q1⟩, q2⟩ := dead ga gb (i + 1) A3 B4 y11
        exact ⟨x, A3, B4, q1, q2, y9, y10, Or.inl y11⟩
      · have k64 := z1.2.2.1.2.2.2.2.2
        obtain ⟨x, A5, B5, q1, q2, q3, q4, q5⟩ := ih (i + 1) ga gb lo L0 L2 K2 A3 B4 (by omega) (by omega) (by omega) (by omega) (xb_fr hb y9 y10) z1 z4 (by omega)
        refine ⟨x, A5, B5, q1, q2, xfA_tr y9 q3, xfB_tr y10 q4, ?_⟩
        rcases q5 with q5 | ⟨L3, K3, q5, q6, q7, q8, q9⟩
        · exact Or.inl q5
        · exact Or.inr ⟨L3, K3, q5, by omega, by omega, q8, xk_tr z5 q9 (by omega)⟩
    rcases md_isWord h (i := 12) (by omega) with ⟨e1, e2⟩ | ⟨e1, e2⟩
    · have e1 : A.1 1 8 = 29 := e1
      obtain ⟨A1, A2, A3, B1, B2, B3, B4, y1, y2, y3, y4, y5, y6, y7, y8, y9⟩ := turn 29 262 (by unfold ev_op; decide)
      rw [if_pos e1, y1, fm_bd_s, y2, fm_bd_s, fm_lt, y3, fm_gd_t hb.1, y4, fm_bd_s, nI_1, show F_X10_isWord 12 B = _ from e2, fm_bd_s, if_neg n10, y5, fm_bd_s, y6, fm_bd_s, y7, fm_bd_s, y8, fm_bd_s]
      exact y9
    have e1 : ¬ A.1 1 8 = 29 := e1
    rw [if_neg e1, show F_X10_isWord 12 B = _ from e2, fm_bd_s, if_pos rfl]
    exact ⟨_, A, B, rfl, rfl, xfA_rf, xfB_rf, Or.inr ⟨L, K, h, Nat.le_refl _, by omega, hs, fun i hi => ⟨rfl, rfl, rfl, rfl⟩⟩⟩
theorem x_eith {u n d : Nat} {rA : Int32 → fm_M → Option (Unit × fm_M)} {rB : fm_M → Option (Unit × fm_M)} (hc : XC u n d (H_X6_readBoth rA (nI d)) (H_X10_conjunction rB)) : XC u n d (H_X6_readEither rA (nI d)) (H_X10_expression rB) := by
  refine x_lev (gA := G_X6_readEither_7 rA fm_fuel (nI d) 0) (gB := G_X10_expression_4 rB fm_fuel) hc (fun A B lo L0 L K hb h hs hl => x_eithL hc 65 0 fm_fuel fm_fuel lo L0 L K A B (by omega) (by unfold fm_fuel; omega) (by unfold fm_fuel; omega) (by omega) hb h hs hl) (fun A B h => ⟨?_, ?_⟩)
  · rw [show fm_fuel = 9999 + 1 from rfl, G_X6_readEither_7, if_neg (by decide), if_neg h.a]; exact ⟨_, rfl⟩
  · rw [show fm_fuel = 9999 + 1 from rfl, G_X10_expression_4, (md_dead h.b).2.2.2.1 _, fm_bd_s, if_pos rfl]
