/-! what is due on a day is struck on it -/
theorem st_loop {p t nm : Nat} (hp : fm_isSt p = true) (ht : fm_isTd t = true) (hm : nm ≤ 10) : ∀ (fa i : Nat) (A A2 : fm_M) (x : Int32), A.1 t 7 = nI nm → i ≤ nm → G_X7_passDay_2 fa p t (nI i) A = some (x, A2) → (∀ m, A.1 (p + 4) m ≠ -1 → A2.1 (p + 4) m ≠ -1) ∧ (∀ m, i ≤ m → m < nm → A.1 (p + 3) m = A.1 p 0 → A2.1 (p + 4) m ≠ -1) := by
  have hp3 := rl_st3 hp
  have ht2 := fm_td ht
  intro fa
  induction fa with
  | zero => intro i A A2 x _ _ e; cases e
  | succ fa ih =>
    intro i A A2 x h7 hi e
    by_cases hin : i = nm
    · subst hin
      rw [G_X7_passDay_2, h7, if_pos (nI_le (by omega) (by omega))] at e
      cases e
      exact ⟨fun _ z => z, fun m a b => by omega⟩
    have ib : fm_inb (nI i) 10 = true := nu_inb (by omega) (by omega)
    have ic : Int32.toNatClampNeg (nI i) = i := nI_clamp (by omega)
    rw [G_X7_passDay_2, h7, if_neg (nI_ge (by omega) (by omega)), fm_gd_t ib, ic, nI_1] at e
    by_cases hs : A.1 (p + 3) i = A.1 p 0
    · rw [if_pos hs, fm_gd_t ib] at e
      by_cases hv : A.1 (p + 4) i = -1
      · rw [if_pos hv, fm_gd_t ib] at e
        obtain ⟨v, A3, e1, e⟩ := fm_bdp e
        rw [fm_gd_t ib, fm_lt, fm_gd_t ib, fm_gd_t ib] at e
        obtain ⟨g, A4, e2, e⟩ := fm_bdp e
        have f1 := rl_frA (fr_X7_humOfAll p t (A.1 (t + 7) i) A) e1
        have f2 := rl_frA (fr_X7_passes p t _ _ _) e2
        have f3 : ∀ q k, q ≠ t + 15 → q ≠ p + 5 → A4.1 q k = A.1 q k := fun q k a b => by rw [f2 q k a, fm_up_ne (by omega), f1 q k a]
        rw [fm_gd_t ib, fm_gd_t ib, fm_lt, fm_lt] at e
        have key : ∀ w : Int32, w ≠ -1 → G_X7_passDay_2 fa p t (nI (i + 1)) (fm_up A4 (p + 4) i w) = some (x, A2) → (∀ m, A.1 (p + 4) m ≠ -1 → A2.1 (p + 4) m ≠ -1) ∧ (∀ m, i ≤ m → m < nm → A.1 (p + 3) m = A.1 p 0 → A2.1 (p + 4) m ≠ -1) := by
          intro w hw e
          obtain ⟨k1, k2⟩ := ih (i + 1) _ A2 x (by rw [fm_up_ne (by omega), f3 _ _ (by omega) (by omega)]; exact h7) (by omega) e
          refine ⟨fun m z => k1 m ?_, fun m a b c => ?_⟩
          · by_cases y : m = i
            · subst y; exact absurd hv z
            · rw [fm_up_ne (by omega), f3 _ _ (by omega) (by omega)]; exact z
          · by_cases y : m = i
            · subst y; exact k1 m (by rw [fm_up_get]; exact hw)
            · refine k2 m (by omega) b ?_
              rw [fm_up_ne (by omega), fm_up_ne (by omega), f3 _ _ (by omega) (by omega), f3 _ _ (by omega) (by omega)]; exact c
        by_cases hg : g = 0
        · rw [if_pos hg] at e; exact key 0 (by decide) e
        · rw [if_neg hg] at e; exact key 1 (by decide) e
      · rw [if_neg hv] at e
        obtain ⟨k1, k2⟩ := ih (i + 1) A A2 x h7 (by omega) e
        refine ⟨k1, fun m a b c => ?_⟩
        by_cases y : m = i
        · subst y; exact k1 m hv
        · exact k2 m (by omega) b c
    · rw [if_neg hs] at e
      obtain ⟨k1, k2⟩ := ih (i + 1) A A2 x h7 (by omega) e
      refine ⟨k1, fun m a b c => ?_⟩
      by_cases y : m = i
      · subst y; exact absurd c hs
      · exact k2 m (by omega) b c
theorem st_day {A B A2 : fm_M} {p t c nf nm : Nat} (h : rl_d A B p t c nf nm) (hb : rl_pb A p t nf) (hd : A.1 p 1 = md_damp B c) (e : F_X7_passDay p t A = some ((), A2)) : (∀ m, A.1 (p + 4) m ≠ -1 → A2.1 (p + 4) m ≠ -1) ∧ (∀ m, m < nm → A.1 (p + 3) m = A.1 p 0 → A2.1 (p + 4) m ≠ -1) := by
  obtain ⟨⟨hp, ht, hok, hnf, hlw, hday⟩, hfk, ⟨c1, c2, c3, c4, c5, c6, c7, c8⟩, hmo⟩ := id h
  have hp3 := rl_st3 hp
  have ht2 := fm_td ht
  obtain ⟨A3, B1, e1, e2, e3, e4, e5, e6, fA⟩ := rl_strikeLoop nm 0 fm_fuel fm_fuel A B h hd (by omega) (by unfold fm_fuel; omega) (by unfold fm_fuel; omega)
  have hb1 : rl_pb A3 p t nf := by
    refine ⟨fun f hf => ?_, ?_⟩
    · rw [fA _ _ (by omega) (by omega) (by omega)]; exact hb.1 f hf
    · rw [fA _ _ (by omega) (by omega) (by omega)]; exact hb.2
  obtain ⟨x, A4, B2, g1, g2, g3, g4, g5, gA⟩ := rl_rustLoop nf 0 fm_fuel fm_fuel A3 B1 e3 hb1 e4 (by omega) (by unfold fm_fuel; omega) (by unfold fm_fuel; omega)
  rw [F_X7_passDay, fm_gd_t hp, fm_gd_t ht, show G_X7_passDay_2 fm_fuel p t 0 A = some (nI nm, A3) from e1, fm_bd_s, show G_X7_passDay_89 fm_fuel p t 0 A3 = some (x, A4) from g1, fm_bd_s, fm_lt, fm_lt] at e
  obtain ⟨s1, s2⟩ := st_loop hp ht c5 fm_fuel 0 A A3 (nI nm) c3 (by omega) e1
  have e : fm_up (fm_up A4 p 4 0) p 0 ((fm_up A4 p 4 0).1 p 0 + 1) = A2 := congrArg Prod.snd (Option.some.inj e)
  have f : ∀ m, A2.1 (p + 4) m = A3.1 (p + 4) m := fun m => by rw [← e, fm_up_ne (by omega), fm_up_ne (by omega), gA _ _ (by omega) (by omega)]
  exact ⟨fun m z => by rw [f]; exact s1 m z, fun m a b => by rw [f]; exact s2 m (by omega) a b⟩
theorem st_days {p t nf nm n : Nat} (hn : n < 2 ^ 31) : ∀ (m i fa dd : Nat) (A B A2 : fm_M) (x : Int32), rl_d A B p t 1 nf nm → rl_v A p nm → rl_pb A p t nf → rl_w A B t → A.1 p 1 = md_damp B 1 → ¬ B.1 76 43 = 1 → B.1 76 45 = -1 → B.1 94 1 = nI dd → dd + m < 100000 → i + m = n → m < fa → G_X7_passDays_2 fa p t (nI n) (nI i) A = some (x, A2) → (∀ g, A.1 (p + 4) g ≠ -1 → A2.1 (p + 4) g ≠ -1) ∧ (∀ g d, g < nm → A.1 (p + 3) g = nI d → dd ≤ d → d < dd + m → A2.1 (p + 4) g ≠ -1) := by
  intro m
  induction m with
  | zero =>
    intro i fa dd A B A2 x h hv hb hw hd h43 h45 hdd hlt hi hfa e
    have : i = n := by omega
    subst this
    obtain ⟨fa, rfl⟩ : ∃ z, fa = z + 1 := ⟨fa - 1, by omega⟩
    rw [G_X7_passDays_2, if_pos (nI_le (Nat.le_refl _) (by omega))] at e
    cases e
    exact ⟨fun _ z => z, fun g d a b c => by omega⟩
  | succ m ih =>
    intro i fa dd A B A2 x h hv hb hw hd h43 h45 hdd hlt hi hfa e
    obtain ⟨fa, rfl⟩ : ∃ z, fa = z + 1 := ⟨fa - 1, by omega⟩
    have hp3 := rl_st3 h.1.1
    have ht := h.1.2.1
    have ht2 := fm_td ht
    obtain ⟨A1, B1, e1, e2, e3, e4, e5, e6, e7, e8, e9⟩ := rl_day h hv hb hd hdd (by omega)
    obtain ⟨s1, s2⟩ := st_day h hb hd e1
    have fA := fA_passDay e1
    have fB : ∀ q k, q ≠ 94 → q ≠ 97 → q ≠ 98 → q ≠ 100 → q ≠ 101 → (q ≠ 76 ∨ k ≠ 32) → B1.1 q k = B.1 q k := fun q k a1 a2 a3 a4 a5 a6 => e9 q k (by unfold md_k; omega)
    have hw1 : rl_w A1 B1 t := rl_w_cg hw (fun q k z => fA q k (by omega) (by omega) (by omega) (by omega) (by omega)) (fun q k z => fB q k (by omega) (by omega) (by omega) (by omega) (by omega) (by omega))
    have hday : A1.1 p 0 = nI (dd + 1) := by rw [e3.1.2.2.2.2.2]; exact e6
    have ewt := rl_wetOn ht hw1 (show dd + 1 < 100000 by omega)
    have h43' : ¬ B1.1 76 43 = 1 := by rw [fB _ _ (by omega) (by omega) (by omega) (by omega) (by omega) (by omega)]; exact h43
    have h45' : B1.1 76 45 = -1 := by rw [fB _ _ (by omega) (by omega) (by omega) (by omega) (by omega) (by omega)]; exact h45
    have hd1 : (fm_up A1 p 1 (md_wet B1 (nI (dd + 1)))).1 p 1 = md_damp B1 1 := by rw [fm_up_get, md_damp_w h43' h45' e6]
    rw [G_X7_passDays_2, if_neg (nI_ge (by omega) (by omega)), e1, fm_bd_s, hday, ewt, fm_bd_s, fm_lt, nI_1] at e
    obtain ⟨k1, k2⟩ := ih (i + 1) fa (dd + 1) (fm_up A1 p 1 (md_wet B1 (nI (dd + 1)))) B1 A2 x (rl_d_dp _ e3) (rl_v_cg e4 (fun q k z => fm_up_ne (by omega))) (rl_pb_cg e5 (fun q k z => fm_up_ne (by omega))) (rl_w_cg hw1 (fun q k z => fm_up_ne (by omega)) (fun _ _ _ => rfl)) hd1 h43' h45' e6 (by omega) (by omega) (by omega) e
    refine ⟨fun g z => k1 g (by rw [fm_up_ne (by omega)]; exact s1 g z), fun g d a b c y => ?_⟩
    by_cases q : d = dd
    · subst q
      exact k1 g (by rw [fm_up_ne (by omega)]; exact s2 g a (by rw [b, h.1.2.2.2.2.2, hdd]))
    · exact k2 g d a (by rw [fm_up_ne (by omega), fA _ _ (by omega) (by omega) (by omega) (by omega) (by omega)]; exact b) (by omega) (by omega)
/-! which minutes count -/
theorem wd_sh : ∀ j : Nat, j < 24 → ((nI j &&& 31).toBitVec.smod 32).toNat = j ∧ (1 : Int32) <<< (nI j &&& 31) = nI (2 ^ j) := by decide +kernel
theorem wd_bit {z f : Nat} (hz : z < 2 ^ 24) (hf : f < 24) : rl_bit (nI z) f = if z.testBit f then 1 else 0 := by
  unfold rl_bit
  have h2 : z / 2 ^ f ≤ z := Nat.div_le_self _ _
  rw [pk_shrN (by omega) _ f (wd_sh f hf).1, pk_andN (m := 1) (by omega) 1 rfl, Nat.testBit_eq_decide_div_mod_eq]
  rcases Nat.mod_two_eq_zero_or_one (z / 2 ^ f) with e | e
  · rw [show z / 2 ^ f % 2 ^ 1 = 0 from e]; rfl
  · rw [show z / 2 ^ f % 2 ^ 1 = 1 from e]; rfl
theorem wd_or {a b : Nat} (ha : a < 2 ^ 24) (hb : b < 2 ^ 24) : nI a ||| nI b = nI (a ||| b) := by
  have hc : a ||| b < 2 ^ 24 := Nat.or_lt_two_pow ha hb
  apply Int32.toBitVec_inj.mp
  apply BitVec.eq_of_toNat_eq
  rw [Int32.toBitVec_or, BitVec.toNat_or, pk_tn (by omega), pk_tn (by omega), pk_tn (by omega)]
def wd_s (A B : fm_M) (z kn : Nat) : Prop := z < 2 ^ 24 ∧ A.1 63 4 = nI z ∧ ∀ j, j < kn → B.1 109 j = if z.testBit j then 1 else 0
theorem wd_kn {A B : fm_M} {nm km : Nat} (h : iv_mn A B nm km) : ∃ kn : Nat, kn ≤ km ∧ kn ≤ 24 ∧ ∀ A1 B1 : fm_M, (A1.1 63 2 = A.1 63 2 ∧ A1.1 63 3 = A.1 63 3) → (B1.1 76 55 = B.1 76 55 ∧ B1.1 76 56 = B.1 76 56) → F_X4_reach A1 = some (nI kn, A1) ∧ F_X10_knownMany B1 = some (nI kn, B1) := by
  obtain ⟨h1, h2, h3, h4, h5, -⟩ := h
  rcases h5 with h5 | ⟨n, h5, h6⟩
  · refine ⟨km, by omega, h1, fun A1 B1 a b => ?_⟩
    rw [F_X4_reach, F_X10_knownMany, a.2, b.2, ← h4, h5, if_pos rfl, if_pos rfl, a.1, b.1, h2, h3]
    exact ⟨rfl, rfl⟩
  · have ne : ¬ nI n = -1 := fun z => absurd (z ▸ nI_pos (show n < 2 ^ 31 by omega)) (by decide)
    refine ⟨n, h5, by omega, fun A1 B1 a b => ?_⟩
    rw [F_X4_reach, F_X10_knownMany, a.2, b.2, ← h4, h6, if_neg ne, if_neg ne]
    exact ⟨rfl, rfl⟩
theorem wd_sift {A B : fm_M} {nm km kn : Nat} (h : iv_mn A B nm km) (hk : kn ≤ km) (l1 l2 : Int32) : ∀ (i fa fb z : Nat) (A1 B1 : fm_M), i ≤ kn → i < fa → i < fb → (∀ q k, (q ≠ 63 ∨ k ≠ 4) → A1.1 q k = A.1 q k) → (∀ q k, q ≠ 109 → B1.1 q k = B.1 q k) → wd_s A1 B1 z kn → ∃ (z2 : Nat) (x y : Int32) (A2 B2 : fm_M), G_X4_sift_12 fa (nI i - 1) A1 = some (x, A2) ∧ G_X10_widths_47 fb l1 l2 (nI i - 1) B1 = some (y, B2) ∧ (∀ q k, (q ≠ 63 ∨ k ≠ 4) → A2.1 q k = A.1 q k) ∧ (∀ q k, q ≠ 109 → B2.1 q k = B.1 q k) ∧ wd_s A2 B2 z2 kn := by
  obtain ⟨h1, -, -, -, -, h6⟩ := h
  intro i
  induction i with
  | zero =>
    intro fa fb z A1 B1 hi hfa hfb fA fB hs
    obtain ⟨fa, rfl⟩ : ∃ z, fa = z + 1 := ⟨fa - 1, by omega⟩
    obtain ⟨fb, rfl⟩ : ∃ z, fb = z + 1 := ⟨fb - 1, by omega⟩
    rw [G_X4_sift_12, if_pos (by decide), G_X10_widths_47, if_pos (by decide)]
    exact ⟨z, _, _, A1, B1, rfl, rfl, fA, fB, hs⟩
  | succ i ih =>
    intro fa fb z A1 B1 hi hfa hfb fA fB hs
    obtain ⟨fa, rfl⟩ : ∃ z, fa = z + 1 := ⟨fa - 1, by omega⟩
    obtain ⟨fb, rfl⟩ : ∃ z, fb = z + 1 := ⟨fb - 1, by omega⟩
    obtain ⟨z1, z2, z3⟩ := id hs
    have ib : fm_inb (nI i) 24 = true := nu_inb (by omega) (by omega)
    have ic : Int32.toNatClampNeg (nI i) = i := nI_clamp (by omega)
    have e1 : nI i + (-1) = nI i - 1 := by rw [Int32.sub_eq_add_neg]
    rw [nI_pred, G_X4_sift_12, if_neg (nI_pos (by omega)), fm_gd_t ib, ic, fA 64 i (by omega), G_X10_widths_47, if_neg (nI_pos (by omega)), fm_gd_t ib, ic, fB 108 i (by omega), fm_gd_t ib, fm_gd_t ib, e1, z3 i (by omega)]
    have nx := ih fa fb z A1 B1 (by omega) (by omega) (by omega) fA fB hs
    rcases h6 i (by omega) with ⟨k1, -, k3, -⟩ | ⟨k1, j, k2, k3, k4⟩
    · rw [if_neg (by rcases k3 with k3 | k3 <;> rw [k3] <;> decide), if_pos k1]
      by_cases c : z.testBit i = true
      · rw [if_pos c, if_neg n10]; exact nx
      · rw [if_neg c, if_pos rfl]; exact nx
    · rw [if_pos k1, F_X9_bitOf, fm_bd_s, z2, show (nI z >>> (nI i &&& 31)) &&& 1 = _ from wd_bit z1 (show i < 24 by omega)]
      by_cases c : z.testBit i = true
      · rw [if_pos c, if_neg n10, if_neg n10]; exact nx
      · have jn : ¬ nI j = -1 := fun y => absurd (y ▸ nI_pos (show j < 2 ^ 31 by omega)) (by decide)
        have hj2 : (2 : Nat) ^ j < 2 ^ 24 := Nat.pow_lt_pow_right (by omega) (by omega)
        rw [if_neg c, if_pos rfl, if_pos rfl, fm_gd_t ib, k4, if_neg jn, fm_gd_t (nu_inb (by omega) (by omega)), nI_clamp (by omega), nar01.2, fA 65 i (by omega), k3, (wd_sh j (by omega)).2, wd_or z1 hj2]
        simp only [fm_lt]
        refine ih fa fb (z ||| 2 ^ j) _ _ (by omega) (by omega) (by omega) (fun q k y => by rw [fm_up_ne y, fA q k y]) (fun q k y => by rw [fm_up_ne (by omega), fB q k y]) ⟨Nat.or_lt_two_pow z1 hj2, fm_up_get, fun g hg => ?_⟩
        rw [Nat.testBit_or, Nat.testBit_two_pow]
        by_cases y : g = j
        · subst y; rw [fm_up_get]; simp
        · rw [fm_up_ne (by omega), z3 g hg]
          have : decide (j = g) = false := decide_eq_false (fun q => y q.symm)
          rw [this, Bool.or_false]
