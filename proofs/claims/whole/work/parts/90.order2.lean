/-! the best order: both sides -/
def or_S (B B1 : fm_M) (K : Nat) (od : Nat → Nat) : Prop := ag iv_pB B B1 ∧ B1.1 76 52 = nI K ∧ ∀ k, k < K → B1.1 105 k = nI (od k)
/-- one code, run -/
theorem or_one {A A1 A2 B B1 : fm_M} {t nf nm kd km n K c dd : Nat} {od : Nat → Nat} {cv : Nat → Nat → Int32} (hn : 1 ≤ n) (hn4 : n ≤ 4) (hK : K ≤ 4) (hc : c < n ^ K) (h : iv_all A B t nf nm kd km) (hs : iv_st A B 45 0 nf nm) (hso : iv_so A B t 45 nf nm) (hdd : B.1 94 0 = nI dd) (hd9 : dd ≤ 9900)
    (f1 : ∀ q k, q ≠ 73 → q ≠ 74 → q ≠ 75 → q ≠ 48 → A1.1 q k = A.1 q k) (f2 : ∀ k, k < K → od k < nm ∧ A.1 49 (od k) = -1 ∧ A1.1 48 (od k) = -1) (f3 : ∀ g, (∀ k, k < K → od k ≠ g) → A1.1 48 g = A.1 48 g) (inj : ∀ k j, k < K → j < K → od k = od j → k = j)
    (run : ∀ (fb : Nat) (B : fm_M), n < fb → or_R A1 B t nf nm dd (fun g => ∃ k, k < K ∧ od k = g) → ∃ (y : Int32) (B2 : fm_M), G_X10_goesOn_2 fb (nI n) (nI 0) B = some (y, B2) ∧ (∀ q k, ¬ md_k 1 q k → B2.1 q k = B.1 q k) ∧ (∀ g, g < nm → ¬ (∃ k, k < K ∧ od k = g) → B2.1 100 (10 + g) = A2.1 49 g) ∧ (∀ k e, k < K → e < n → B.1 100 (10 + od k) = -1 → B.1 99 (10 + od k) = nI (dd + e) → B2.1 100 (10 + od k) = cv k (0 + e)) ∧ (∀ g, g < nm → (∃ k, k < K ∧ od k = g) → B.1 100 (10 + g) ≠ -1 → B2.1 100 (10 + g) = B.1 100 (10 + g)))
    (f5 : ∀ g, g < nm → (∃ k, k < K ∧ od k = g) → A2.1 49 g = -1) (S : or_S B B1 K od) :
    ∃ B2 : fm_M, or_S B B2 K od ∧ B2.1 76 53 = B1.1 76 53 ∧ B2.1 76 54 = B1.1 76 54 ∧ ∀ fb, G_X10_layOrder_71 (fb + 1) (nI n) (nI c) B1 = if B1.1 76 53 < nI (cn (fun m => decide (A2.1 49 m = 1)) nm + cn (fun k => decide (cv k (dn n c (K - 1 - k)) = 1)) K) - nI (cn (fun m => decide (B.1 100 m = 1)) nm) then G_X10_layOrder_71 fb (nI n) (nI (c + 1)) (fm_up (fm_up B2 76 53 (nI (cn (fun m => decide (A2.1 49 m = 1)) nm + cn (fun k => decide (cv k (dn n c (K - 1 - k)) = 1)) K) - nI (cn (fun m => decide (B.1 100 m = 1)) nm))) 76 54 (nI c)) else G_X10_layOrder_71 fb (nI n) (nI (c + 1)) B2 := by
  have ht := fm_td (iv_tt h)
  have hnf := (iv_nf h).1
  obtain ⟨hnm, m1, m2⟩ := iv_nm h
  obtain ⟨S1, S2, S3⟩ := S
  have hp2 : n ^ K ≤ 4 ^ 4 := Nat.le_trans (Nat.pow_le_pow_left hn4 _) (Nat.pow_le_pow_right (by omega) (by omega))
  have h44 : (4 : Nat) ^ 4 = 256 := rfl
  -- the copy
  obtain ⟨B2, g1, g2, g3, g4, g5⟩ := md_copy (B := B1) (a := 1) (b := 0) (by omega) (by omega) (by omega)
  have ec : iv_ec B B2 0 1 := iv_ec_tr (iv_ec_cg (fun q k z => S1 q k (by unfold md_cc at z; unfold iv_pB; omega))) (md_ec_copy ⟨g2, g3, g4⟩)
  have aB2 : ag iv_pB B B2 := fun q k z => by rw [g5 q k (by unfold iv_pB at z; unfold md_cc; omega), S1 q k z]
  have h2 := iv_cg h ag_rf aB2
  have hs2 : iv_st A B2 45 1 nf nm := by
    obtain ⟨⟨s1, s2, s3, s4⟩, s5, s6⟩ := hs
    obtain ⟨⟨c1, c2, c3, c4⟩, c5, c6⟩ := ec
    exact ⟨⟨by rw [c1]; exact s1, by rw [c2]; exact s2, by rw [c3]; exact s3, by rw [c4]; exact s4⟩, fun f hf => by rw [c5 f (by omega)]; exact s5 f hf, fun m hm => by rw [(c6 m (by omega)).1, (c6 m (by omega)).2.1, (c6 m (by omega)).2.2]; exact s6 m hm⟩
  have hso2 : iv_so A B2 t 45 nf nm := iv_so_cg hso (fun q k _ => rfl) (fun q k z => aB2 q k (by unfold iv_pB; omega))
  obtain ⟨rd, rdd⟩ := iv_d h2.2.2.2.1 hs2 hso2 h2.2.2.2.2.2.2.2.2.2 rfl (by omega)
  have md2 := h2.2.2.2.2.2.2.2.2.2
  -- the code's days
  have b294 : B2.1 94 0 = nI dd := by rw [aB2 94 0 (by unfold iv_pB; omega)]; exact hdd
  have b252 : B2.1 76 52 = nI K := by rw [g5 _ _ (by unfold md_cc; omega)]; exact S2
  have b2105 : ∀ k, k < K → B2.1 105 k = nI (od k) := fun k hk => by rw [g5 _ _ (by unfold md_cc; omega)]; exact S3 k hk
  obtain ⟨x, B3, l1, l2, l3⟩ := or_l91 (c := c) hn hn4 hK (by omega) b252 b294 b2105 (fun k hk => by have := (f2 k hk).1; omega) inj K 0 fm_fuel B2 (by omega) (by unfold fm_fuel; omega) (fun _ _ _ => rfl)
  have b3 : ∀ q k, q ≠ 99 → B3.1 q k = B2.1 q k := fun q k z => l3 q k (Or.inl z)
  have rR3 : or_R A1 B3 t nf nm dd (fun g => ∃ k, k < K ∧ od k = g) := by
    obtain ⟨q1, q2, ⟨c1, c2, c3, c4, c5, c6, c7, c8⟩, q4⟩ := id rd
    refine ⟨⟨rl_h_r (rd.h rdd) (fun q k a b => f1 q k (by omega) (by omega) (by omega) (by omega)) (fun q k a b => b3 q k (by omega)), ?_, fun m hm => ?_, fun m hm ho => ?_, fun m hm ho => ?_⟩, ⟨fun f hf => ?_, ?_⟩, rl_w_cg h2.2.2.2.1.2.1.1 (fun q k z => f1 q k (by omega) (by omega) (by omega) (by omega)) (fun q k z => b3 q k (by omega)), ?_⟩
    · rw [f1 _ _ (by omega) (by omega) (by omega) (by omega), f1 _ _ (by omega) (by omega) (by omega) (by omega), f1 _ _ (by omega) (by omega) (by omega) (by omega), f1 _ _ (by omega) (by omega) (by omega) (by omega), f1 _ _ (by omega) (by omega) (by omega) (by omega), b3 _ _ (by omega), b3 _ _ (by omega), b3 _ _ (by omega), b3 _ _ (by omega), b3 _ _ (by omega), b3 _ _ (by omega)]
      exact ⟨c1, c2, c3, c4, c5, c6, c7, hso.1.2.2, md2.1, md2.2.2.1⟩
    · rw [f1 _ _ (by omega) (by omega) (by omega) (by omega), b3 _ _ (by omega)]; exact (q4 m hm).1
    · rw [f3 m (fun k hk z => ho ⟨k, hk, z⟩), f1 49 _ (by omega) (by omega) (by omega) (by omega), b3 100 _ (by omega), l3 99 _ (Or.inr (fun j _ hj z => ho ⟨j, hj, by omega⟩))]
      exact ⟨(q4 m hm).2.1, (q4 m hm).2.2.1⟩
    · obtain ⟨k, hk, rfl⟩ := ho
      exact ⟨(f2 k hk).2.2, by rw [f1 49 _ (by omega) (by omega) (by omega) (by omega)]; exact (f2 k hk).2.1⟩
    · rw [f1 _ _ (by omega) (by omega) (by omega) (by omega)]; exact hso.2.2.2.1 f hf
    · rw [f1 _ _ (by omega) (by omega) (by omega) (by omega)]; exact h.2.2.2.1.2.2.2.1.2.2.1
    · rw [b3 _ _ (by omega), ec.1.1]; exact hdd
  obtain ⟨y, B4, k1, k2, k3, k4, k5⟩ := run fm_fuel B3 (by unfold fm_fuel; omega) rR3
  have dl : ∀ j, dn n c j < n := fun j => Nat.mod_lt _ (by omega)
  have ord : ∀ k, k < K → B4.1 100 (10 + od k) = cv k (dn n c (K - 1 - k)) := fun k hk => by
    have e100 : B3.1 100 (10 + od k) = -1 := by
      rw [b3 _ _ (by omega)]
      have := (rd.2.2.2 (od k) (f2 k hk).1).2.2.1
      rw [show 10 + od k = 10 * 1 + od k by omega, ← this]
      exact (f2 k hk).2.1
    have := k4 k (dn n c (K - 1 - k)) hk (dl _) e100 (l2 k (by omega) hk)
    rw [Nat.zero_add] at this
    exact this
  have b4 : ∀ q k, ¬ md_k 1 q k → q ≠ 99 → ¬ md_cc 1 q k → B4.1 q k = B1.1 q k := fun q k a b d => by rw [k2 q k a, b3 q k b, g5 q k d]
  have n4 : B4.1 78 1 = nI nm := by rw [b4 _ _ (by unfold md_k; omega) (by omega) (by unfold md_cc; omega), S1 78 1 (by unfold iv_pB; omega)]; exact m2
  have mc1 := or_mc (B := B4) (c := 1) (w := 1) (by omega) hnm n4
  have mc0 := or_mc (B := B4) (c := 0) (w := 1) (by omega) hnm n4
  have cnt : cn (fun m => decide (B4.1 100 (10 * 1 + m) = 1)) nm = cn (fun m => decide (A2.1 49 m = 1)) nm + cn (fun k => decide (cv k (dn n c (K - 1 - k)) = 1)) K := by
    rw [cn_many (P := fun m => decide (A2.1 49 m = 1)) (Q := fun m => decide (B4.1 100 (10 * 1 + m) = 1)) od K (fun k hk => ⟨(f2 k hk).1, decide_eq_false (by rw [f5 _ (f2 k hk).1 ⟨k, hk, rfl⟩]; decide)⟩) inj (fun m hm ho => by
      rw [show 10 * 1 + m = 10 + m by omega, k3 m hm (fun z => by obtain ⟨k, hk, e⟩ := z; exact ho k hk e)])]
    congr 1
    exact cn_cg K (fun k hk => by rw [show 10 * 1 + od k = 10 + od k by omega, ord k hk])
  have cnt0 : cn (fun m => decide (B4.1 100 (10 * 0 + m) = 1)) nm = cn (fun m => decide (B.1 100 m = 1)) nm := cn_cg nm (fun m hm => by rw [show 10 * 0 + m = m by omega, b4 _ _ (by unfold md_k; omega) (by omega) (by unfold md_cc; omega), S1 100 m (by unfold iv_pB; omega)])
  rw [cnt] at mc1
  rw [cnt0] at mc0
  refine ⟨B4, ⟨fun q k z => ?_, by rw [b4 _ _ (by unfold md_k; omega) (by omega) (by unfold md_cc; omega)]; exact S2, fun k hk => by rw [b4 _ _ (by unfold md_k; omega) (by omega) (by unfold md_cc; omega)]; exact S3 k hk⟩, b4 _ _ (by unfold md_k; omega) (by omega) (by unfold md_cc; omega), b4 _ _ (by unfold md_k; omega) (by omega) (by unfold md_cc; omega), fun fb => ?_⟩
  · rw [k2 q k (by unfold iv_pB at z; unfold md_k; omega)]
    by_cases w : q = 99
    · subst w
      rw [l3 99 k (Or.inr (fun j _ hj => by have := (f2 j hj).1; unfold iv_pB at z; omega))]
      exact aB2 99 k z
    · rw [b3 q k w]; exact aB2 q k z
  · rw [G_X10_layOrder_71, S2, md_power (by omega), fm_bd_s, if_neg (nI_ge hc (by omega)), show F_X10_copies 1 0 B1 = _ from g1, fm_bd_s, show G_X10_layOrder_91 fm_fuel (nI n) (nI c) 0 B2 = _ from l1, fm_bd_s, F_X10_goesOn, show G_X10_goesOn_2 fm_fuel (nI n) 0 B3 = _ from k1, fm_bd_s, fm_bd_s, show F_X10_manyOf 1 1 B4 = _ from mc1, fm_bd_s, show F_X10_manyOf 0 1 B4 = _ from mc0, fm_bd_s, b4 76 53 (by unfold md_k; omega) (by omega) (by unfold md_cc; omega), nI_1]
    rfl
theorem pu_order {A B : fm_M} {t nf nm kd km : Nat} (h : iv_all A B t nf nm kd km) (a1 a2 : Int32) : pu t nf nm kd km (F_X9_order a1 a2 A) (F_X10_order a1 a2 B) := by
  have h0 := iv_thr h 0
  rw [F_X9_order, F_X10_order]
  simp only [fm_lt]
  generalize fm_up B 76 0 0 = B1 at *
  have ht := fm_td (iv_tt h)
  obtain ⟨hnm, n1, n2⟩ := iv_nm h0
  by_cases c1 : a1 < 1
  · rw [if_pos c1, if_pos c1]; exact rR_ret h0 rfl
  rw [if_neg c1, if_neg c1]
  by_cases c2 : 4 < a1
  · rw [if_pos c2, if_pos c2]; exact rR_ret h0 rfl
  rw [if_neg c2, if_neg c2]
  by_cases c3 : a2 < 0
  · rw [if_pos c3, if_pos c3]; exact rR_ret h0 rfl
  rw [if_neg c3, if_neg c3]
  by_cases c4 : a2 ≤ 4
  · rw [if_pos c4, if_pos c4]
    obtain ⟨w, hw, rfl⟩ := nI_of2 (M := 4) (n := 4) rfl c3 c4
    have c1' : ¬ a1 < 0 := fun z => c1 (Int32.lt_iff_toInt_lt.mpr (by have := Int32.lt_iff_toInt_lt.mp z; rw [show (0 : Int32).toInt = 0 from rfl] at this; rw [show (1 : Int32).toInt = 1 from rfl]; omega))
    obtain ⟨n, hn4, rfl⟩ := nI_of2 (M := 4) (n := 4) (x := a1) rfl c1' (Int32.not_lt.mp c2)
    have hn1 : 1 ≤ n := by
      by_cases z : n = 0
      · subst z; exact absurd (show nI 0 < 1 by decide) c1
      · omega
    obtain ⟨A1, x1, x2, x3, x4, x5⟩ := iv_trial0 h0
    obtain ⟨dd, d1, d2, -⟩ := x4.2.2.2.2.1
    have hdd : B1.1 94 0 = nI dd := by rw [← x3.1.1]; exact d2
    obtain ⟨K, od, x, y, A2, B2, s1, s2, L1, L2, ⟨L3, L3'⟩, L4, L5, L6, L7, L8⟩ := or_lay (A := fm_up (fm_up A1 73 2 0) 73 3 0) (B := fm_up B1 76 52 0) (t := t) (nm := nm) ht hnm (by rw [fm_up_ne (by omega), fm_up_ne (by omega)]; exact (iv_nm x2).2.1) (by rw [fm_up_ne (by omega)]; exact n2) (fun m hm => by
      rw [fm_up_ne (by omega), fm_up_ne (by omega), fm_up_ne (by omega)]
      have := (x3.2.2 m hm).2.1
      rw [Nat.mul_zero, Nat.zero_add] at this
      exact this) (nI n) nm 0 fm_fuel fm_fuel 0 (fun _ => 0) (fm_up (fm_up A1 73 2 0) 73 3 0) (fm_up B1 76 52 0) (by omega) (by unfold fm_fuel; omega) (by unfold fm_fuel; omega) ⟨by omega, fun _ _ _ _ _ _ => rfl, ⟨by rw [fm_up_ne (by omega), fm_up_get]; rfl, fm_up_get⟩, fun k hk => by omega, fun _ _ => rfl, fun k j hk => by omega, fun _ _ _ _ => rfl, fm_up_get⟩
    have f1 : ∀ q k, q ≠ 73 → q ≠ 74 → q ≠ 75 → q ≠ 48 → A2.1 q k = A1.1 q k := fun q k a b c d => by rw [L2 q k a b c d, fm_up_ne (by omega), fm_up_ne (by omega)]
    have f2 : ∀ k, k < K → od k < nm ∧ A1.1 49 (od k) = -1 ∧ A2.1 48 (od k) = -1 := fun k hk => by
      obtain ⟨a, b, c, d, e, f⟩ := L4 k hk
      exact ⟨c, by rw [fm_up_ne (by omega), fm_up_ne (by omega)] at d; exact d, e⟩
    have f3 : ∀ g, (∀ k, k < K → od k ≠ g) → A2.1 48 g = A1.1 48 g := fun g z => by rw [L5 g z, fm_up_ne (by omega), fm_up_ne (by omega)]
    have S0 : or_S B1 (fm_up B2 76 53 (-1)) K od := ⟨fun q k z => by rw [fm_up_ne (by unfold iv_pB at z; omega), L7 q k (by unfold iv_pB at z; omega) (by unfold iv_pB at z; omega), fm_up_ne (by unfold iv_pB at z; omega)], by rw [fm_up_ne (by omega)]; exact L8, fun k hk => by rw [fm_up_ne (by omega)]; exact (L4 k hk).2.2.2.2.2⟩
    have hp2 : n ^ K ≤ 4 ^ 4 := Nat.le_trans (Nat.pow_le_pow_left hn4 _) (Nat.pow_le_pow_right (by omega) (by omega))
    have h44 : (4 : Nat) ^ 4 = 256 := rfl
    have hpp : 0 < n ^ K := Nat.pow_pos (by omega)
    -- the class's days: there is a council of the reference beside them
    have hH : or_H A2 K nm od := ⟨L3, fun k hk => ⟨(L4 k hk).1, (f2 k hk).1⟩, by
      rw [L3', show cn (fun k => decide (A2.1 75 k ≠ -1)) K = cn (fun _ => false) K from cn_cg K (fun k hk => decide_eq_false (fun z => z (L4 k hk).2.1))]
      have z0 : ∀ K, cn (fun _ => false) K = 0 := fun K => by
        induction K with
        | zero => rfl
        | succ K ih => rw [cn, ih]; rfl
      rw [z0]; rfl⟩
    have hR : ∃ B0, or_R A2 B0 t nf nm dd (fun g => ∃ k, k < K ∧ od k = g) := by
      obtain ⟨B3, g1, g2, g3, g4, g5⟩ := md_copy (B := B1) (a := 1) (b := 0) (by omega) (by omega) (by omega)
      have ec : iv_ec B1 B3 0 1 := md_ec_copy ⟨g2, g3, g4⟩
      have aB : ag iv_pB B1 B3 := fun q k z => g5 q k (by unfold iv_pB at z; unfold md_cc; omega)
      have h2 := iv_cg x2 ag_rf aB
      have hs2 : iv_st A1 B3 45 1 nf nm := by
        obtain ⟨⟨s1, s2, s3, s4⟩, s5, s6⟩ := x3
        obtain ⟨⟨c1, c2, c3, c4⟩, c5, c6⟩ := ec
        have hnf := (iv_nf h0).1
        exact ⟨⟨by rw [c1]; exact s1, by rw [c2]; exact s2, by rw [c3]; exact s3, by rw [c4]; exact s4⟩, fun f hf => by rw [c5 f (by omega)]; exact s5 f hf, fun m hm => by rw [(c6 m (by omega)).1, (c6 m (by omega)).2.1, (c6 m (by omega)).2.2]; exact s6 m hm⟩
      have hso2 : iv_so A1 B3 t 45 nf nm := iv_so_cg x4 (fun q k _ => rfl) (fun q k z => aB q k (by unfold iv_pB; omega))
      obtain ⟨rd, rdd⟩ := iv_d h2.2.2.2.1 hs2 hso2 h2.2.2.2.2.2.2.2.2.2 rfl (by omega)
      have md2 := h2.2.2.2.2.2.2.2.2.2
      obtain ⟨q1, q2, ⟨c1, c2, c3, c4, c5, c6, c7, c8⟩, q4⟩ := id rd
      refine ⟨B3, ⟨rl_h_r (rd.h rdd) (fun q k a b => f1 q k (by omega) (by omega) (by omega) (by omega)) (fun _ _ _ _ => rfl), ?_, fun m hm => ?_, fun m hm ho => ?_, fun m hm ho => ?_⟩, ⟨fun f hf => ?_, ?_⟩, rl_w_cg h2.2.2.2.1.2.1.1 (fun q k z => f1 q k (by omega) (by omega) (by omega) (by omega)) (fun _ _ _ => rfl), ?_⟩
      · rw [f1 _ _ (by omega) (by omega) (by omega) (by omega), f1 _ _ (by omega) (by omega) (by omega) (by omega), f1 _ _ (by omega) (by omega) (by omega) (by omega), f1 _ _ (by omega) (by omega) (by omega) (by omega), f1 _ _ (by omega) (by omega) (by omega) (by omega)]
        exact ⟨c1, c2, c3, c4, c5, c6, c7, x4.1.2.2, md2.1, md2.2.2.1⟩
      · rw [f1 _ _ (by omega) (by omega) (by omega) (by omega)]; exact (q4 m hm).1
      · rw [f3 m (fun k hk z => ho ⟨k, hk, z⟩), f1 49 _ (by omega) (by omega) (by omega) (by omega)]
        exact ⟨(q4 m hm).2.1, (q4 m hm).2.2.1⟩
      · obtain ⟨k, hk, rfl⟩ := ho
        exact ⟨(f2 k hk).2.2, by rw [f1 49 _ (by omega) (by omega) (by omega) (by omega)]; exact (f2 k hk).2.1⟩
      · rw [f1 _ _ (by omega) (by omega) (by omega) (by omega)]; exact x4.2.2.2.1 f hf
      · rw [f1 _ _ (by omega) (by omega) (by omega) (by omega)]; exact x2.2.2.2.1.2.2.2.1.2.2.1
      · rw [ec.1.1]; exact hdd
    obtain ⟨B0, hR0⟩ := hR
    obtain ⟨cv, x', A3, r1, r2, r3, r4, r5, r6, r7, r8⟩ := or_run L1 hn4 n 0 fm_fuel dd A2 B0 (by omega) (by unfold fm_fuel; omega) (by omega) hH hR0
    obtain ⟨cs, b1, b2, b3, b4, b5⟩ := or_best (n := n) (K := K) (cv := cv) (fe := fun k => A3.1 75 k) hn1 hn4 (fun k hk => by
      rcases (r5 k hk).2 (L4 k hk).2.1 with ⟨e, q1, q2, q3, q4, q5⟩ | ⟨q1, q2⟩
      · exact Or.inl ⟨e, q2, q3, fun j hj => q4 j (by omega) hj, q5⟩
      · exact Or.inr ⟨fun j hj => q1 j (by omega) hj, q2⟩)
    -- what was carried stays so
    have vn : cn (fun m => decide (B1.1 100 m = 1)) nm ≤ cn (fun m => decide (A3.1 49 m = 1)) nm := cn_mono nm (fun m hm z => by
      have z := of_decide_eq_true z
      have q := (x3.2.2 m hm).2.1
      rw [Nat.mul_zero, Nat.zero_add, z] at q
      have q' : A2.1 49 m = 1 := by rw [f1 49 _ (by omega) (by omega) (by omega) (by omega)]; exact q
      exact decide_eq_true (by rw [r7 m (by rw [q']; decide)]; exact q'))
    have v10 := cn_le (P := fun m => decide (A3.1 49 m = 1)) nm
    have vK := cn_le (P := fun k => decide (A3.1 75 k ≠ -1)) K
    generalize hV : cn (fun m => decide (A3.1 49 m = 1)) nm = V at *
    generalize hN : cn (fun m => decide (B1.1 100 m = 1)) nm = N0 at *
    generalize hF : cn (fun k => decide (A3.1 75 k ≠ -1)) K = F at *
    -- the reference's search
    have srch : ∀ (m c fb : Nat) (B3 : fm_M), c + m = n ^ K → m < fb → or_S B1 B3 K od → ((c ≤ cs ∧ (B3.1 76 53 = -1 ∨ ∃ s, s < F ∧ B3.1 76 53 = nI (V + s - N0))) ∨ (cs < c ∧ B3.1 76 53 = nI (V + F - N0) ∧ B3.1 76 54 = nI cs)) → ∃ (y : Int32) (B4 : fm_M), G_X10_layOrder_71 fb (nI n) (nI c) B3 = some (y, B4) ∧ or_S B1 B4 K od ∧ B4.1 76 53 = nI (V + F - N0) ∧ B4.1 76 54 = nI cs := by
      intro m
      induction m with
      | zero =>
        intro c fb B3 hc hfb S I
        obtain ⟨fb, rfl⟩ : ∃ z, fb = z + 1 := ⟨fb - 1, by omega⟩
        rcases I with I | ⟨-, i1, i2⟩
        · omega
        · rw [G_X10_layOrder_71, S.2.1, md_power (by omega), fm_bd_s, if_pos (nI_le (by omega) (by omega))]
          exact ⟨_, B3, rfl, S, i1, i2⟩
      | succ m ih =>
        intro c fb B3 hc hfb S I
        obtain ⟨fb, rfl⟩ : ∃ z, fb = z + 1 := ⟨fb - 1, by omega⟩
        obtain ⟨B4, u1, u2, u3, u4⟩ := or_one (c := c) (cv := cv) (A2 := A3) hn1 hn4 L1 (by omega) x2 x3 x4 hdd d1 f1 f2 f3 L6 (fun fb B hfb hB => r8 fb B hfb hB) r6 S
        rw [u4 fb, hV, hN]
        have sc := b3 c
        rw [pk_sub (by omega)]
        generalize hsc : cn (fun k => decide (cv k (dn n c (K - 1 - k)) = 1)) K = sC at *
        have upS : or_S B1 (fm_up (fm_up B4 76 53 (nI (V + sC - N0))) 76 54 (nI c)) K od := ⟨fun q k z => by rw [fm_up_ne (by unfold iv_pB at z; omega), fm_up_ne (by unfold iv_pB at z; omega)]; exact u1.1 q k z, by rw [fm_up_ne (by omega), fm_up_ne (by omega)]; exact u1.2.1, fun k hk => by rw [fm_up_ne (by omega), fm_up_ne (by omega)]; exact u1.2.2 k hk⟩
        have g53 : (fm_up (fm_up B4 76 53 (nI (V + sC - N0))) 76 54 (nI c)).1 76 53 = nI (V + sC - N0) := by rw [fm_up_ne (by omega), fm_up_get]
        rcases I with ⟨i1, i2⟩ | ⟨i1, i2, i3⟩
        · by_cases ce : c = cs
          · have hsF : sC = F := by rw [← hsc, ce]; exact b4
            have lt : B3.1 76 53 < nI (V + sC - N0) := by
              rcases i2 with i2 | ⟨s, s1, i2⟩
              · rw [i2]; exact Int32.lt_iff_toInt_lt.mpr (by rw [nI_toInt (by omega), show (-1 : Int32).toInt = -1 from rfl]; omega)
              · rw [i2]; exact nI_lt (by omega) (by omega)
            rw [if_pos lt]
            exact ih (c + 1) fb _ (by omega) (by omega) upS (Or.inr ⟨by omega, by rw [g53, hsF], by rw [fm_up_get, ce]⟩)
          · have sl : sC < F := by rw [← hsc]; exact b5 c (by omega) (by omega)
            by_cases lt : B3.1 76 53 < nI (V + sC - N0)
            · rw [if_pos lt]
              exact ih (c + 1) fb _ (by omega) (by omega) upS (Or.inl ⟨by omega, Or.inr ⟨sC, sl, g53⟩⟩)
            · rw [if_neg lt]
              exact ih (c + 1) fb B4 (by omega) (by omega) u1 (Or.inl ⟨by omega, by rw [u2]; exact i2⟩)
        · rw [if_neg (show ¬ B3.1 76 53 < nI (V + sC - N0) by rw [i2]; exact nI_nlt (by omega) (by omega))]
          exact ih (c + 1) fb B4 (by omega) (by omega) u1 (Or.inr ⟨by omega, by rw [u2]; exact i2, by rw [u3]; exact i3⟩)
    obtain ⟨y', B5, t1, t2, t3, t4⟩ := srch (n ^ K) 0 fm_fuel (fm_up B2 76 53 (-1)) (by omega) (by unfold fm_fuel; omega) S0 (Or.inl ⟨by omega, Or.inl fm_up_get⟩)
    have i3 : iv_all A3 B5 t nf nm kd km := iv_cg x2 (fun q k z => by rw [r3 q k z, f1 q k (by unfold iv_pA at z; omega) (by unfold iv_pA at z; omega) (by unfold iv_pA at z; omega) (by unfold iv_pA at z; omega)]) t2.1
    have sk : F_X5_seek t 45 (nI n) A1 = some ((), A3) := by
      rw [F_X5_seek, fm_gd_t (iv_tt h), fm_gd_t (by decide), fm_lt, fm_lt, show G_X5_seek_13 fm_fuel t 45 (nI n) 0 _ = _ from s1, fm_bd_s, show G_X5_seek_89 fm_fuel t 45 (nI n) 0 A2 = _ from r2, fm_bd_s]
    have lo : F_X10_layOrder (nI n) B1 = some ((), B5) := by
      rw [F_X10_layOrder, fm_lt, show G_X10_layOrder_7 fm_fuel (nI n) 0 _ = _ from s2, fm_bd_s, fm_lt, show G_X10_layOrder_71 fm_fuel (nI n) 0 _ = _ from t1, fm_bd_s]
    rw [x1, fm_bd_s, iv_t x2, fm_gd_t (iv_tt h), sk, fm_bd_s, lo, fm_bd_s, iv_t i3, fm_gd_t (iv_tt h), t3, t2.2.1, r4.1, t4]
    by_cases e4 : w = 4
    · subst e4
      rw [if_pos (show nI 4 = 4 from rfl), if_pos (show nI 4 = 4 from rfl), or_vc (p := 45) rfl (iv_tt h) hnm (iv_nm i3).2.1, fm_bd_s, iv_t i3, fm_gd_t (iv_tt h), or_vc (p := 38) rfl (iv_tt h) hnm (iv_nm i3).2.1, fm_bd_s, show cn (fun m => decide (A3.1 (45 + 4) m = 1)) nm = V from hV, r4.2.2, hF, nI_add, show cn (fun m => decide (A3.1 (38 + 4) m = 1)) nm = N0 from by
        rw [← hN]
        exact cn_cg nm (fun m hm => by
          have q := (i3.2.2.2.2.1.2.2 m hm).2.1
          rw [Nat.mul_zero, Nat.zero_add] at q
          rw [q, t2.1 100 m (by unfold iv_pB; omega)]), pk_sub (by omega), show F + V - N0 = V + F - N0 by omega]
      exact rR_ret i3 rfl
    · have n4 : ¬ nI w = 4 := fun q => e4 ((nI_eq (b := 4) (by omega) (by omega)).mp q)
      rw [if_neg n4, if_neg n4]
      by_cases wk : w < K
      · have e1 : (nI K - 1 - nI w : Int32) = nI (K - 1 - w) := by rw [show (1 : Int32) = nI 1 from rfl, pk_sub (by omega), pk_sub (by omega)]
        have hp : 0 < n ^ (K - 1 - w) := Nat.pow_pos (by omega)
        have hp3 : n ^ (K - 1 - w) ≤ 4 ^ 4 := Nat.le_trans (Nat.pow_le_pow_left hn4 _) (Nat.pow_le_pow_right (by omega) (by omega))
        have hq : cs / n ^ (K - 1 - w) ≤ cs := Nat.div_le_self _ _
        have ed : i_rem (nI cs / nI (n ^ (K - 1 - w))) (nI n) = nI (dn n cs (K - 1 - w)) := by
          rw [pk_div (by omega) hp (by omega)]
          unfold i_rem
          rw [pk_rem (by omega) (by omega) (by omega)]
          rfl
        rw [if_neg (nI_ge wk (by omega)), if_neg (nI_ge wk (by omega)), F_X5_dayOf, if_neg c3, r4.1, if_neg (nI_ge wk (by omega)), fm_gd_t (nu_inb (by omega) (by omega)), nI_clamp (by omega), fm_bd_s, e1, md_power (by omega), fm_bd_s, fm_gd_t (show fm_nz (nI (n ^ (K - 1 - w))) = true from decide_eq_true (nI_ne0 hp (by omega))), fm_gd_t (show fm_nz (nI n) = true from decide_eq_true (nI_ne0 (by omega) (by omega))), ed, b2 w wk]
        exact rR_ret i3 rfl
      · rw [if_pos (nI_le (by omega) (by omega)), if_pos (nI_le (by omega) (by omega))]
        exact rR_ret i3 rfl
  · rw [if_neg c4, if_neg c4]; exact rR_ret h0 rfl
