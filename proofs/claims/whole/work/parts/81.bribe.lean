/-! the cheapest filing: what is listened to -/
theorem det2 {RA RB : fm_M → Prop} {fA fB : fm_M → Option (Int32 × fm_M)} {P : Int32 → Prop} {A0 B0 : fm_M} (hA : RA A0) (hB : RB B0) (h : ∀ A B, RA A → RB B → ∃ v A2 B2, fA A = some (v, A2) ∧ fB B = some (v, B2) ∧ P v) : ∃ v, P v ∧ (∀ A, RA A → ∃ A2, fA A = some (v, A2)) ∧ (∀ B, RB B → ∃ B2, fB B = some (v, B2)) := by
  obtain ⟨v, A2, B2, e1, e2, e3⟩ := h A0 B0 hA hB
  refine ⟨v, e3, fun A a => ?_, fun B b => ?_⟩
  · obtain ⟨w, A3, B3, g1, g2, -⟩ := h A B0 a hB
    have : v = w := congrArg Prod.fst (Option.some.inj (e2.symm.trans g2))
    exact ⟨A3, by rw [g1, this]⟩
  · obtain ⟨w, A3, B3, g1, g2, -⟩ := h A0 B hA b
    have : v = w := congrArg Prod.fst (Option.some.inj (e1.symm.trans g1))
    exact ⟨B3, by rw [g2, this]⟩
def br_A (q k : Nat) : Prop := iv_pA q k ∨ (45 ≤ q ∧ q ≤ 50)
theorem br_15 {M N P : fm_M} {t : Nat} (ht : fm_isTd t = true) (h : ag br_A M N) (g : ∀ q k, q ≠ t + 15 → P.1 q k = N.1 q k) : ag br_A M P := fun q k z => by
  have := fm_td ht
  rw [g q k (by unfold br_A iv_pA at z; omega), h q k z]
theorem br_h {A B A1 B1 : fm_M} {t nf nm kd km : Nat} (h : iv_all A B t nf nm kd km) (hs : iv_st A B 45 0 nf nm) (ho : iv_so A B t 45 nf nm) (a : ag br_A A A1) (b : ag iv_pB B B1) : iv_all A1 B1 t nf nm kd km ∧ rl_h A1 B1 45 t 0 nf ∧ A1.1 t 13 = B1.1 78 2 := by
  have ht := fm_td (iv_tt h)
  have h1 := iv_cg h (fun q k z => a q k (Or.inl z)) b
  have hs1 := iv_st_cg hs (iv_nf h).1 (iv_nm h).1 (fun q k x y => a q k (Or.inr ⟨by omega, by omega⟩)) (fun q k z => b q k (by unfold md_cc at z; unfold iv_pB; omega))
  have ho1 := iv_so_cg ho (fun q k z => a q k (by unfold br_A iv_pA; omega)) (fun q k z => b q k (by unfold iv_pB; omega))
  obtain ⟨x, y⟩ := iv_d h1.2.2.2.1 hs1 ho1 h1.2.2.2.2.2.2.2.2.2 rfl (by omega)
  exact ⟨h1, x.h y, h1.2.2.2.1.2.2.1.1⟩
/-- the rest of the forks -/
theorem br_hv {A B : fm_M} {t nf nm kd km : Nat} (h : iv_all A B t nf nm kd km) (hs : iv_st A B 45 0 nf nm) (ho : iv_so A B t 45 nf nm) (n : Int32) : ∃ hv : Nat → Nat, (∀ f, f < nf → hv f ≤ 99) ∧ ∀ f, f < nf → (∀ A1, ag br_A A A1 → ∃ A2, F_X7_humOf 45 t (nI f) n A1 = some (nI (hv f), A2) ∧ ag br_A A A2 ∧ ∀ q k, q ≠ t + 15 → A2.1 q k = A1.1 q k) ∧ (∀ B1, ag iv_pB B B1 → ∃ B2, F_X10_humOf 0 (nI f) n B1 = some (nI (hv f), B2) ∧ ag iv_pB B B2 ∧ ∀ q k, (q ≠ 76 ∨ k ≠ 32) → B2.1 q k = B1.1 q k) := by
  have key : ∀ f, ∃ v : Nat, f < nf → v ≤ 99 ∧ (∀ A1, ag br_A A A1 → ∃ A2, F_X7_humOf 45 t (nI f) n A1 = some (nI v, A2)) ∧ (∀ B1, ag iv_pB B B1 → ∃ B2, F_X10_humOf 0 (nI f) n B1 = some (nI v, B2)) := by
    intro f
    by_cases hf : f < nf
    · obtain ⟨v, ⟨k, hk, rfl⟩, e1, e2⟩ := det2 (RA := ag br_A A) (RB := ag iv_pB B) (fA := F_X7_humOf 45 t (nI f) n) (fB := F_X10_humOf 0 (nI f) n) (P := fun v => ∃ k : Nat, k ≤ 99 ∧ v = nI k) ag_rf ag_rf (fun A1 B1 a b => by
        obtain ⟨-, h2, -⟩ := br_h h hs ho a b
        obtain ⟨v, A2, B2, e1, e2, e3, e4⟩ := rl_hum h2 hf n
        exact ⟨v, A2, B2, e1, e2, nI_of2 (M := 99) (n := 99) rfl (Int32.not_lt.mpr e3) e4⟩)
      exact ⟨k, fun _ => ⟨hk, e1, e2⟩⟩
    · exact ⟨0, fun z => absurd z hf⟩
  refine ⟨fun f => Classical.choose (key f), fun f hf => (Classical.choose_spec (key f) hf).1, fun f hf => ⟨fun A1 a => ?_, fun B1 b => ?_⟩⟩
  · obtain ⟨A2, e⟩ := (Classical.choose_spec (key f) hf).2.1 A1 a
    have fr := rl_frA (fr_X7_humOf 45 t (nI f) n A1) e
    exact ⟨A2, e, br_15 (iv_tt h) a fr, fr⟩
  · obtain ⟨B2, e⟩ := (Classical.choose_spec (key f) hf).2.2 B1 b
    have fr := rl_frB (fr_X10_humOf 0 (nI f) n B1) e
    exact ⟨B2, e, agB_32 b fr, fr⟩
/-- one fork at one filing -/
theorem br_fl {A B : fm_M} {t nf nm kd km f x : Nat} (h : iv_all A B t nf nm kd km) (hs : iv_st A B 45 0 nf nm) (ho : iv_so A B t 45 nf nm) (n : Int32) (hf : f < nf) : ∃ v : Nat, v ≤ 99 ∧ (∀ A1, ag br_A A A1 → ∃ A2, F_X7_humOf 45 t (nI f) n (fm_up A1 46 f (nI x)) = some (nI v, A2) ∧ ∀ q k, q ≠ t + 15 → A2.1 q k = (fm_up A1 46 f (nI x)).1 q k) ∧ (∀ B1, ag iv_pB B B1 → (F_X10_isTouched 0 (nI f) B1 = some (1, B1) ∧ v = 0) ∨ (F_X10_isTouched 0 (nI f) B1 = some (0, B1) ∧ ∃ B2, F_X10_loudAt 0 (nI f) (nI x) n B1 = some (nI v, B2) ∧ ∀ q k, (q ≠ 76 ∨ k ≠ 32) → B2.1 q k = B1.1 q k)) := by
  have ht := fm_td (iv_tt h)
  have hnf := (iv_nf h).1
  -- touched or not, in every memory alike
  have tch : ∀ B1, ag iv_pB B B1 → F_X10_isTouched 0 (nI f) B1 = some (if rl_bit (A.1 45 4) f = 1 then 1 else 0, B1) := by
    intro B1 b
    obtain ⟨h1, h2, -⟩ := br_h h hs ho ag_rf b
    have q := (h2.2.2.2.2.2.2.2 f hf).2.2.2.2.2.1
    rw [F_X10_isTouched]
    by_cases a : B1.1 76 43 = 5
    · rw [if_pos a, if_neg (fun z => (q.mp z).1 a)]
    · rw [if_neg a, fm_gd_t (by decide), ck_0]
      by_cases y : (B1.1 97 0 >>> (nI f &&& 31)) &&& 1 = 1
      · rw [if_pos y, if_pos (q.mpr ⟨a, y⟩)]
      · rw [if_neg y, if_neg (fun z => y (q.mp z).2)]
  have o6 : A.1 45 6 = -1 := ho.1.2.1
  by_cases hto : rl_bit (A.1 45 4) f = 1
  · refine ⟨0, by omega, fun A1 a => ⟨fm_up A1 46 f (nI x), ?_, fun _ _ _ => rfl⟩, fun B1 b => Or.inl ⟨by rw [tch B1 b, if_pos hto], rfl⟩⟩
    have e6 : (fm_up A1 46 f (nI x)).1 45 6 = -1 := by rw [fm_up_ne (by omega), a 45 6 (by unfold br_A; omega)]; exact o6
    have e4 : (fm_up A1 46 f (nI x)).1 45 4 = A.1 45 4 := by rw [fm_up_ne (by omega), a 45 4 (by unfold br_A; omega)]
    rw [F_X7_humOf, fm_gd_t (by decide), fm_gd_t (iv_tt h), e6, if_neg (fun z => absurd (z ▸ nI_pos (show f < 2 ^ 31 by omega)) (by decide)), F_X9_bitOf, fm_bd_s, e4, if_pos (show (A.1 45 4 >>> (nI f &&& 31)) &&& 1 = 1 from hto)]
    rfl
  · obtain ⟨v, ⟨k, hk, rfl⟩, e1, e2⟩ := det2 (RA := ag br_A A) (RB := ag iv_pB B) (fA := fun A1 => F_X7_humOf 45 t (nI f) n (fm_up A1 46 f (nI x))) (fB := F_X10_loudAt 0 (nI f) (nI x) n) (P := fun v => ∃ k : Nat, k ≤ 99 ∧ v = nI k) ag_rf ag_rf (fun A1 B1 a b => by
      obtain ⟨h1, ⟨p1, p2, p3, p4, p5, p6, p7, p8⟩, -⟩ := br_h h hs ho a b
      obtain ⟨g1, g2, g3, g4, g5, g6, g7⟩ := p8 f hf
      obtain ⟨v, A2, B2, e1, e2, e3, e4⟩ := lx_hum (A := fm_up A1 46 f (nI x)) (B := B1) (p := 45) (t := t) (c := 0) (f := f) (x := nI x) rfl (iv_tt h) p3 (fun r hr => ev_law_cg (p5 r hr) (fun q k y z => fm_up_ne (by omega)) (fun _ _ _ _ => rfl)) (by rw [fm_up_ne (by omega)]; exact p6) (by rw [fm_up_ne (by omega)]; exact p7) (by omega) fm_up_get (by rw [fm_up_ne (by omega)]; exact g2) (by rw [fm_up_ne (by omega)]; exact g3) g4 (by rw [fm_up_ne (by omega)]; exact g7) (by rw [fm_up_ne (by omega), a 45 6 (by unfold br_A; omega), o6]; exact fun z => absurd (z ▸ nI_pos (show f < 2 ^ 31 by omega)) (by decide)) (by rw [fm_up_ne (by omega), a 45 4 (by unfold br_A; omega)]; exact hto) n
      exact ⟨v, A2, B2, e1, e2, nI_of2 (M := 99) (n := 99) rfl (Int32.not_lt.mpr e3) e4⟩)
    refine ⟨k, hk, fun A1 a => ?_, fun B1 b => Or.inr ⟨by rw [tch B1 b, if_neg hto], ?_⟩⟩
    · obtain ⟨A2, e⟩ := e1 A1 a
      exact ⟨A2, e, rl_frA (fr_X7_humOf 45 t (nI f) n (fm_up A1 46 f (nI x))) e⟩
    · obtain ⟨B2, e⟩ := e2 B1 b
      exact ⟨B2, e, rl_frB (fr_X10_loudAt 0 (nI f) (nI x) n B1) e⟩
/-- the pass of a sum -/
theorem br_pv {A B : fm_M} {t nf nm kd km : Nat} (h : iv_all A B t nf nm kd km) (hs : iv_st A B 45 0 nf nm) (ho : iv_so A B t 45 nf nm) (n : Int32) : ∃ pv : Nat → Int32, ∀ s, (pv s = 0 ∨ pv s = 1) ∧ (∀ A1, ag br_A A A1 → ∃ A2, F_X7_passes 45 t n (nI s) A1 = some (pv s, A2) ∧ ag br_A A A2 ∧ ∀ q k, q ≠ t + 15 → A2.1 q k = A1.1 q k) ∧ (∀ B1, ag iv_pB B B1 → ∃ B2, F_X10_passes 0 n (nI s) B1 = some (pv s, B2) ∧ ag iv_pB B B2 ∧ ∀ q k, (q ≠ 76 ∨ k ≠ 32) → B2.1 q k = B1.1 q k) := by
  have key : ∀ s : Nat, ∃ v : Int32, (v = 0 ∨ v = 1) ∧ (∀ A1, ag br_A A A1 → ∃ A2, F_X7_passes 45 t n (nI s) A1 = some (v, A2)) ∧ (∀ B1, ag iv_pB B B1 → ∃ B2, F_X10_passes 0 n (nI s) B1 = some (v, B2)) := fun s =>
    det2 (RA := ag br_A A) (RB := ag iv_pB B) (fA := F_X7_passes 45 t n (nI s)) (fB := F_X10_passes 0 n (nI s)) (P := fun v => v = 0 ∨ v = 1) ag_rf ag_rf (fun A1 B1 a b => by
      obtain ⟨-, h2, h3⟩ := br_h h hs ho a b
      exact rl_passes h2 h3 n (nI s))
  refine ⟨fun s => Classical.choose (key s), fun s => ⟨(Classical.choose_spec (key s)).1, fun A1 a => ?_, fun B1 b => ?_⟩⟩
  · obtain ⟨A2, e⟩ := (Classical.choose_spec (key s)).2.1 A1 a
    have fr := rl_frA (fr_X7_passes 45 t n (nI s) A1) e
    exact ⟨A2, e, br_15 (iv_tt h) a fr, fr⟩
  · obtain ⟨B2, e⟩ := (Classical.choose_spec (key s)).2.2 B1 b
    have fr := rl_frB (fr_X10_passes 0 n (nI s) B1) e
    exact ⟨B2, e, agB_32 b fr, fr⟩
