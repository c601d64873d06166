/-! sets of forks: who swings it, whom to touch -/
def ag (I : Nat → Nat → Prop) (M N : fm_M) : Prop := ∀ q k, I q k → N.1 q k = M.1 q k
theorem ag_rf {I : Nat → Nat → Prop} {M : fm_M} : ag I M M := fun _ _ _ => rfl
theorem ag_tr {I : Nat → Nat → Prop} {M N P : fm_M} (h : ag I M N) (g : ag I N P) : ag I M P := fun q k z => by rw [g q k z, h q k z]
theorem agB_32 {M N P : fm_M} (h : ag iv_pB M N) (g : ∀ q k, (q ≠ 76 ∨ k ≠ 32) → P.1 q k = N.1 q k) : ag iv_pB M P := fun q k z => by rw [g q k (by unfold iv_pB at z; omega), h q k z]
theorem agA_15 {M N P : fm_M} {t : Nat} (ht : fm_isTd t = true) (h : ag iv_pA M N) (g : ∀ q k, q ≠ t + 15 → P.1 q k = N.1 q k) : ag iv_pA M P := fun q k z => by
  have := fm_td ht
  rw [g q k (by unfold iv_pA at z; omega), h q k z]
def hv_ok (A B : fm_M) (t nf : Nat) (n : Int32) (hv : Nat → Nat) : Prop := ∀ f, f < nf → ∀ A1 B1 : fm_M, ag iv_pA A A1 → ag iv_pB B B1 → ∃ A2 B2 : fm_M, F_X7_humOf 38 t (nI f) n A1 = some (nI (hv f), A2) ∧ F_X10_humOf 0 (nI f) n B1 = some (nI (hv f), B2) ∧ (∀ q k, q ≠ t + 15 → A2.1 q k = A1.1 q k) ∧ (∀ q k, (q ≠ 76 ∨ k ≠ 32) → B2.1 q k = B1.1 q k)
theorem hv_ok_ag {A B A1 B1 : fm_M} {t nf : Nat} {n : Int32} {hv : Nat → Nat} (h : hv_ok A B t nf n hv) (a : ag iv_pA A A1) (b : ag iv_pB B B1) : hv_ok A1 B1 t nf n hv := fun f hf A2 B2 a2 b2 => h f hf A2 B2 (ag_tr a a2) (ag_tr b b2)
theorem iv_det {A B : fm_M} {t nf nm kd km f : Nat} (h : iv_all A B t nf nm kd km) (hf : f < nf) (n : Int32) : ∃ v : Nat, v ≤ 99 ∧ ∀ A1 B1 : fm_M, ag iv_pA A A1 → ag iv_pB B B1 → ∃ A2 B2 : fm_M, F_X7_humOf 38 t (nI f) n A1 = some (nI v, A2) ∧ F_X10_humOf 0 (nI f) n B1 = some (nI v, B2) ∧ (∀ q k, q ≠ t + 15 → A2.1 q k = A1.1 q k) ∧ (∀ q k, (q ≠ 76 ∨ k ≠ 32) → B2.1 q k = B1.1 q k) := by
  obtain ⟨_, _, A2, B2, e1, e2, ⟨v, hv, rfl, rfl⟩, -⟩ := iv_hum h hf n
  refine ⟨v, hv, fun A1 B1 a b => ?_⟩
  obtain ⟨_, _, A3, B3, g1, g2, ⟨v2, hv2, rfl, rfl⟩, -⟩ := iv_hum (iv_cg h a (fun _ _ _ => rfl)) hf n
  obtain ⟨_, _, A4, B4, k1, k2, ⟨v3, hv3, rfl, rfl⟩, -⟩ := iv_hum (iv_cg h (fun _ _ _ => rfl) b) hf n
  have q1 : nI v = nI v2 := congrArg Prod.fst (Option.some.inj (e2.symm.trans g2))
  have q2 : nI v = nI v3 := congrArg Prod.fst (Option.some.inj (e1.symm.trans k1))
  rw [← q1] at g1
  rw [← q2] at k2
  exact ⟨A3, B4, g1, k2, rl_frA (fr_X7_humOf 38 t (nI f) n A1) g1, rl_frB (fr_X10_humOf 0 (nI f) n B1) k2⟩
theorem iv_hv {A B : fm_M} {t nf nm kd km : Nat} (h : iv_all A B t nf nm kd km) (n : Int32) : ∃ hv : Nat → Nat, (∀ f, f < nf → hv f ≤ 99) ∧ hv_ok A B t nf n hv := by
  have key : ∀ f, ∃ v : Nat, f < nf → (v ≤ 99 ∧ ∀ A1 B1 : fm_M, ag iv_pA A A1 → ag iv_pB B B1 → ∃ A2 B2 : fm_M, F_X7_humOf 38 t (nI f) n A1 = some (nI v, A2) ∧ F_X10_humOf 0 (nI f) n B1 = some (nI v, B2) ∧ (∀ q k, q ≠ t + 15 → A2.1 q k = A1.1 q k) ∧ (∀ q k, (q ≠ 76 ∨ k ≠ 32) → B2.1 q k = B1.1 q k)) := by
    intro f
    by_cases hf : f < nf
    · obtain ⟨v, h1, h2⟩ := iv_det h hf n
      exact ⟨v, fun _ => ⟨h1, h2⟩⟩
    · exact ⟨0, fun z => absurd z hf⟩
  exact ⟨fun f => Classical.choose (key f), fun f hf => (Classical.choose_spec (key f) hf).1, fun f hf => (Classical.choose_spec (key f) hf).2⟩
theorem iv_listen {A B : fm_M} {t nf nm kd km : Nat} {n : Int32} {hv : Nat → Nat} (h : iv_all A B t nf nm kd km) (ok : hv_ok A B t nf n hv) : ∃ A2 : fm_M, F_X7_listen 38 t n A = some ((), A2) ∧ (∀ q k, q ≠ t + 15 → q ≠ 44 → A2.1 q k = A.1 q k) ∧ ∀ f, f < nf → A2.1 44 f = nI (hv f) := by
  have ht := fm_td (iv_tt h)
  obtain ⟨hn, h1, -⟩ := iv_nf h
  have lp : ∀ (m i fa : Nat) (A1 : fm_M), i + m = nf → m < fa → (∀ q k, q ≠ t + 15 → q ≠ 44 → A1.1 q k = A.1 q k) → (∀ f, f < i → A1.1 44 f = nI (hv f)) → ∃ A2 : fm_M, G_X7_listen_2 fa 38 t n (nI i) A1 = some (nI nf, A2) ∧ (∀ q k, q ≠ t + 15 → q ≠ 44 → A2.1 q k = A.1 q k) ∧ ∀ f, f < nf → A2.1 44 f = nI (hv f) := by
    intro m
    induction m with
    | zero =>
      intro i fa A1 hi hfa f1 f2
      obtain ⟨fa, rfl⟩ : ∃ z, fa = z + 1 := ⟨fa - 1, by omega⟩
      have : i = nf := by omega
      subst this
      rw [G_X7_listen_2, f1 t 0 (by omega) (by omega), h1, if_pos (nI_le (by omega) (by omega))]
      exact ⟨A1, rfl, f1, f2⟩
    | succ m ih =>
      intro i fa A1 hi hfa f1 f2
      obtain ⟨fa, rfl⟩ : ∃ z, fa = z + 1 := ⟨fa - 1, by omega⟩
      have a1 : ag iv_pA A A1 := fun q k z => f1 q k (by unfold iv_pA at z; omega) (by unfold iv_pA at z; omega)
      obtain ⟨A2, B2, e1, -, e3, -⟩ := ok i (by omega) A1 B a1 ag_rf
      rw [G_X7_listen_2, f1 t 0 (by omega) (by omega), h1, if_neg (nI_ge (by omega) (by omega)), e1, fm_bd_s, fm_gd_t (nu_inb (by omega) (by omega)), fm_lt, nI_clamp (by omega), nI_1]
      refine ih (i + 1) fa _ (by omega) (by omega) (fun q k z y => by rw [fm_up_ne (by omega), e3 q k z, f1 q k z y]) (fun f hf => ?_)
      by_cases c : f = i
      · subst c; rw [fm_up_get]
      · rw [fm_up_ne (by omega), e3 _ _ (by omega), f2 f (by omega)]
  obtain ⟨A2, e1, e2, e3⟩ := lp nf 0 fm_fuel A (by omega) (by unfold fm_fuel; omega) (fun _ _ _ _ => rfl) (fun f hf => by omega)
  exact ⟨A2, by rw [F_X7_listen, fm_gd_t (by decide), fm_gd_t (iv_tt h), show G_X7_listen_2 fm_fuel 38 t n 0 A = _ from e1, fm_bd_s], e2, e3⟩
def su (hv : Nat → Nat) (b : Nat → Bool) : Nat → Nat → Int32 → Int32
  | 0, _, acc => acc
  | m + 1, i, acc => su hv b m (i + 1) (if b i = true then acc + nI (hv i) else acc)
theorem su_cg {hv : Nat → Nat} {b c : Nat → Bool} : ∀ (m i : Nat) (acc : Int32), (∀ f, i ≤ f → f < i + m → b f = c f) → su hv b m i acc = su hv c m i acc := by
  intro m
  induction m with
  | zero => intro i acc _; rfl
  | succ m ih =>
    intro i acc h
    rw [su, su, h i (by omega) (by omega)]
    exact ih (i + 1) _ (fun f a b => h f (by omega) (by omega))
theorem iv_lst {A : fm_M} {nf : Nat} {hv : Nat → Nat} (hn : nf ≤ 8) (hl : ∀ f, f < nf → A.1 44 f = nI (hv f)) (set : Int32) : F_X7_listenedTo 38 set (nI nf) A = some (su hv (fun f => decide (rl_bit set f = 1)) nf 0 0, A) := by
  have lp : ∀ (m i fa : Nat) (acc : Int32), i + m = nf → m < fa → G_X7_listenedTo_5 fa 38 set (nI nf) acc (nI i) A = some ((su hv (fun f => decide (rl_bit set f = 1)) m i acc, nI nf), A) := by
    intro m
    induction m with
    | zero =>
      intro i fa acc hi hfa
      obtain ⟨fa, rfl⟩ : ∃ z, fa = z + 1 := ⟨fa - 1, by omega⟩
      have : i = nf := by omega
      subst this
      rw [G_X7_listenedTo_5, if_pos (nI_le (by omega) (by omega))]
      rfl
    | succ m ih =>
      intro i fa acc hi hfa
      obtain ⟨fa, rfl⟩ : ∃ z, fa = z + 1 := ⟨fa - 1, by omega⟩
      rw [G_X7_listenedTo_5, if_neg (nI_ge (by omega) (by omega)), if_neg (show ¬ (8 : Int32) ≤ nI i from nI_ge (b := 8) (by omega) (by omega)), F_X9_bitOf, fm_bd_s, nI_1, su]
      by_cases c : rl_bit set i = 1
      · rw [if_pos (show (set >>> (nI i &&& 31)) &&& 1 = 1 from c), fm_gd_t (nu_inb (by omega) (by omega)), fm_lt, nI_clamp (by omega), show A.1 (38 + 6) i = nI (hv i) from hl i (by omega), ih (i + 1) fa _ (by omega) (by omega), if_pos (decide_eq_true c)]
      · rw [if_neg (show ¬ (set >>> (nI i &&& 31)) &&& 1 = 1 from c), ih (i + 1) fa _ (by omega) (by omega), if_neg (fun z => c (of_decide_eq_true z))]
  rw [F_X7_listenedTo, fm_gd_t (by decide), show G_X7_listenedTo_5 fm_fuel 38 set (nI nf) 0 0 A = _ from lp nf 0 fm_fuel 0 (by omega) (by unfold fm_fuel; omega), fm_bd_s]
theorem md_sw {A B : fm_M} {t nf : Nat} {n : Int32} {hv : Nat → Nat} (hn : nf ≤ 8) (h2 : B.1 78 0 = nI nf) (ok : hv_ok A B t nf n hv) (l1 l3 l4 set : Int32) : ∀ (m i fb : Nat) (acc : Int32) (B1 : fm_M), i + m = nf → m < fb → ag iv_pB B B1 → ∃ B2 : fm_M, G_X10_swing_68 fb l1 n l3 l4 set acc (nI i) B1 = some ((su hv (fun f => decide (rl_bit set f = 1)) m i acc, nI nf), B2) ∧ ag iv_pB B B2 := by
  intro m
  induction m with
  | zero =>
    intro i fb acc B1 hi hfb ab
    obtain ⟨fb, rfl⟩ : ∃ z, fb = z + 1 := ⟨fb - 1, by omega⟩
    have : i = nf := by omega
    subst this
    rw [G_X10_swing_68, fm_gd_t (by decide), ck_0, ab 78 0 (by unfold iv_pB; omega), h2, if_pos (nI_le (by omega) (by omega))]
    exact ⟨B1, rfl, ab⟩
  | succ m ih =>
    intro i fb acc B1 hi hfb ab
    obtain ⟨fb, rfl⟩ : ∃ z, fb = z + 1 := ⟨fb - 1, by omega⟩
    rw [G_X10_swing_68, fm_gd_t (by decide), ck_0, ab 78 0 (by unfold iv_pB; omega), h2, if_neg (nI_ge (by omega) (by omega)), nI_1, su]
    simp only [fm_lt, Int32.add_zero]
    by_cases c : rl_bit set i = 1
    · obtain ⟨A2, B2, -, e2, -, e4⟩ := ok i (by omega) A B1 ag_rf ab
      rw [if_pos (show (set >>> (nI i &&& 31)) &&& 1 = 1 from c), e2, fm_bd_s, if_pos (decide_eq_true c)]
      exact ih (i + 1) fb _ B2 (by omega) (by omega) (agB_32 ab e4)
    · rw [if_neg (show ¬ (set >>> (nI i &&& 31)) &&& 1 = 1 from c), if_neg (fun z => c (of_decide_eq_true z))]
      exact ih (i + 1) fb _ B1 (by omega) (by omega) ab
theorem md_cs {A B : fm_M} {t nf : Nat} {n : Int32} {hv : Nat → Nat} (hn : nf ≤ 8) (h2 : B.1 78 0 = nI nf) (ok : hv_ok A B t nf n hv) (l2 set : Int32) : ∀ (m i fb : Nat) (acc : Int32) (B1 : fm_M), i + m = nf → m < fb → ag iv_pB B B1 → ∃ B2 : fm_M, G_X10_censure_55 fb n l2 set acc (nI i) B1 = some ((su hv (fun f => decide (rl_bit set f = 0)) m i acc, nI nf), B2) ∧ ag iv_pB B B2 := by
  intro m
  induction m with
  | zero =>
    intro i fb acc B1 hi hfb ab
    obtain ⟨fb, rfl⟩ : ∃ z, fb = z + 1 := ⟨fb - 1, by omega⟩
    have : i = nf := by omega
    subst this
    rw [G_X10_censure_55, fm_gd_t (by decide), ck_0, ab 78 0 (by unfold iv_pB; omega), h2, if_pos (nI_le (by omega) (by omega))]
    exact ⟨B1, rfl, ab⟩
  | succ m ih =>
    intro i fb acc B1 hi hfb ab
    obtain ⟨fb, rfl⟩ : ∃ z, fb = z + 1 := ⟨fb - 1, by omega⟩
    rw [G_X10_censure_55, fm_gd_t (by decide), ck_0, ab 78 0 (by unfold iv_pB; omega), h2, if_neg (nI_ge (by omega) (by omega)), nI_1, su]
    simp only [fm_lt, Int32.add_zero]
    by_cases c : rl_bit set i = 0
    · obtain ⟨A2, B2, -, e2, -, e4⟩ := ok i (by omega) A B1 ag_rf ab
      rw [if_pos (show (set >>> (nI i &&& 31)) &&& 1 = 0 from c), e2, fm_bd_s, if_pos (decide_eq_true c)]
      exact ih (i + 1) fb _ B2 (by omega) (by omega) (agB_32 ab e4)
    · rw [if_neg (show ¬ (set >>> (nI i &&& 31)) &&& 1 = 0 from c), if_neg (fun z => c (of_decide_eq_true z))]
      exact ih (i + 1) fb _ B1 (by omega) (by omega) ab
theorem shl_nf : ∀ z : Nat, z < 9 → (1 : Int32) <<< (nI z &&& 31) = nI (2 ^ z) := by decide +kernel
theorem pow_nf {nf : Nat} (hn : nf ≤ 8) : 2 ^ nf ≤ 256 := Nat.pow_le_pow_right (n := 2) (by omega) hn
theorem iv_swL {A B : fm_M} {t nf nm kd km : Nat} {n : Int32} {hv : Nat → Nat} (h : iv_all A B t nf nm kd km) (ok : hv_ok A B t nf n hv) (hl : ∀ f, f < nf → A.1 44 f = nI (hv f)) (g : Nat) (own : Int32) : ∀ (m i fa fb : Nat) (acc : Int32) (B1 : fm_M), i + m = 2 ^ nf → m < fa → m < fb → ag iv_pB B B1 → ∃ (r : Int32) (B2 : fm_M), G_X9_swing_49 fa (nI g) n own acc (nI i) A = some ((r, nI (2 ^ nf)), A) ∧ G_X10_swing_36 fb (nI g) n own acc (nI i) B1 = some ((r, nI (2 ^ nf)), B2) ∧ ag iv_pB B B2 := by
  obtain ⟨hn, h1, h2⟩ := iv_nf h
  have hp := pow_nf hn
  have htb := h.2.2.2.1.2.2.1.1
  intro m
  induction m with
  | zero =>
    intro i fa fb acc B1 hi hfa hfb ab
    obtain ⟨fa, rfl⟩ : ∃ z, fa = z + 1 := ⟨fa - 1, by omega⟩
    obtain ⟨fb, rfl⟩ : ∃ z, fb = z + 1 := ⟨fb - 1, by omega⟩
    have : i = 2 ^ nf := by omega
    subst this
    rw [G_X9_swing_49, fm_lt, iv_t h, fm_gd_t (iv_tt h), h1, shl_nf nf (by omega), if_pos (nI_le (by omega) (by omega)), G_X10_swing_36, fm_gd_t (by decide), ck_0, ab 78 0 (by unfold iv_pB; omega), h2, shl_nf nf (by omega), if_pos (nI_le (by omega) (by omega))]
    exact ⟨acc, B1, rfl, rfl, ab⟩
  | succ m ih =>
    intro i fa fb acc B1 hi hfa hfb ab
    obtain ⟨fa, rfl⟩ : ∃ z, fa = z + 1 := ⟨fa - 1, by omega⟩
    obtain ⟨fb, rfl⟩ : ∃ z, fb = z + 1 := ⟨fb - 1, by omega⟩
    rw [G_X9_swing_49, fm_lt, iv_t h, fm_gd_t (iv_tt h), h1, shl_nf nf (by omega), if_neg (nI_ge (by omega) (by omega)), G_X10_swing_36, fm_gd_t (by decide), ck_0, ab 78 0 (by unfold iv_pB; omega), h2, shl_nf nf (by omega), if_neg (nI_ge (by omega) (by omega)), F_X9_bitOf, fm_bd_s, nI_1]
    rcases rl_bit01 (nI i) g with c | c
    · rw [if_pos (show (nI i >>> (nI g &&& 31)) &&& 1 = 0 from c), if_neg (show ¬ (nI i >>> (nI g &&& 31)) &&& 1 = 1 from fun z => absurd (c.symm.trans z) (by decide))]
      obtain ⟨B2, e1, e2⟩ := md_sw hn h2 ok (nI g) own acc (nI i) nf 0 fm_fuel 0 B1 (by omega) (by unfold fm_fuel; omega) ab
      simp only [fm_lt]
      rw [iv_t h, fm_gd_t (iv_tt h), h1, iv_lst hn hl, fm_bd_s, iv_t h, fm_gd_t (iv_tt h), show G_X10_swing_68 fm_fuel (nI g) n own acc (nI i) 0 0 B1 = _ from e1, fm_bd_s, fm_gd_t (iv_tt h), fm_gd_t (show fm_inb 2 20 = true by decide), fm_gd_t (show fm_inb 2 20 = true by decide), ck_2, e2 78 2 (by unfold iv_pB; omega), htb]
      simp only [Int32.add_zero]
      generalize su hv (fun f => decide (rl_bit (nI i) f = 1)) nf 0 0 = s
      by_cases c1 : B.1 78 2 ≤ s
      · rw [if_pos c1, if_pos c1]; exact ih (i + 1) fa fb acc B2 (by omega) (by omega) (by omega) e2
      rw [if_neg c1, if_neg c1]
      by_cases c2 : s + own < B.1 78 2
      · rw [if_pos c2, if_pos c2]; exact ih (i + 1) fa fb acc B2 (by omega) (by omega) (by omega) e2
      · rw [if_neg c2, if_neg c2]; exact ih (i + 1) fa fb (acc + 1) B2 (by omega) (by omega) (by omega) e2
    · rw [if_neg (show ¬ (nI i >>> (nI g &&& 31)) &&& 1 = 0 from fun z => absurd (c.symm.trans z) (by decide)), if_pos (show (nI i >>> (nI g &&& 31)) &&& 1 = 1 from c)]
      exact ih (i + 1) fa fb acc B1 (by omega) (by omega) (by omega) ab
theorem pu_swing {A B : fm_M} {t nf nm kd km : Nat} (h : iv_all A B t nf nm kd km) (a1 a2 : Int32) : pu t nf nm kd km (F_X9_swing a1 a2 A) (F_X10_swing a1 a2 B) := by
  have h0 := iv_thr h 0
  rw [F_X9_swing, F_X10_swing]
  simp only [fm_lt]
  generalize fm_up B 76 0 0 = B1 at *
  have ht := fm_td (iv_tt h)
  rcases iv_isFork h0 a1 with ⟨e1, e2⟩ | ⟨f, hf, hf8, rfl, e1, e2⟩
  · rw [e1, e2, fm_bd_s, fm_bd_s, if_pos rfl, if_pos rfl]; exact rR_ret h0 rfl
  rw [e1, e2, fm_bd_s, fm_bd_s, if_neg n10, if_neg n10]
  rcases iv_isNote a2 with e3 | ⟨-, e3⟩
  · rw [(e3 A).1, (e3 B1).2, fm_bd_s, fm_bd_s, if_pos rfl, if_pos rfl]; exact rR_ret h0 rfl
  rw [(e3 A).1, (e3 B1).2, fm_bd_s, fm_bd_s, if_neg n10, if_neg n10]
  obtain ⟨hv, -, ok⟩ := iv_hv h0 a2
  obtain ⟨A2, B2, g1, g2, g3, g4⟩ := ok f hf A B1 ag_rf ag_rf
  have aA : ag iv_pA A A2 := agA_15 (iv_tt h) ag_rf g3
  have aB : ag iv_pB B1 B2 := agB_32 ag_rf g4
  have h2 := iv_cg h0 aA aB
  obtain ⟨A3, l1, l2, l3⟩ := iv_listen h2 (hv_ok_ag ok aA aB)
  have aA3 : ag iv_pA A2 A3 := fun q k z => l2 q k (by unfold iv_pA at z; omega) (by unfold iv_pA at z; omega)
  have h3 := iv_cg h2 aA3 ag_rf
  have hp := pow_nf (iv_nf h).1
  obtain ⟨r, B4, k1, k2, k3⟩ := iv_swL h3 (hv_ok_ag (hv_ok_ag ok aA aB) aA3 ag_rf) l3 f (nI (hv f)) (2 ^ nf) 0 fm_fuel fm_fuel 0 B2 (by omega) (by unfold fm_fuel; omega) (by unfold fm_fuel; omega) ag_rf
  rw [iv_t h0, fm_gd_t (iv_tt h), g1, fm_bd_s, iv_t h2, fm_gd_t (iv_tt h), l1, fm_bd_s, g2, fm_bd_s, show G_X9_swing_49 fm_fuel (nI f) a2 (nI (hv f)) 0 0 A3 = _ from k1, fm_bd_s, show G_X10_swing_36 fm_fuel (nI f) a2 (nI (hv f)) 0 0 B2 = _ from k2, fm_bd_s]
  exact rR_ret (iv_cg h3 ag_rf k3) rfl
/-! whom to touch -/
theorem cs_bits : ∀ nf : Nat, nf < 9 → ∀ s : Nat, s < 2 ^ nf → ∀ f : Nat, f < nf → (rl_bit ((nI (2 ^ nf) - 1) &&& (nI s ^^^ (-1))) f = 1 ↔ rl_bit (nI s) f = 0) := by decide +kernel
theorem iv_passes2 {A B : fm_M} {t nf nm kd km : Nat} (h : iv_all A B t nf nm kd km) (n s : Int32) : ∃ (v : Int32) (A2 B2 : fm_M), F_X7_passes 38 t n s A = some (v, A2) ∧ F_X10_passes 0 n s B = some (v, B2) ∧ (v = 0 ∨ v = 1) ∧ (∀ q k, q ≠ t + 15 → A2.1 q k = A.1 q k) ∧ (∀ q k, (q ≠ 76 ∨ k ≠ 32) → B2.1 q k = B.1 q k) := by
  obtain ⟨h1, h2⟩ := iv_dn h
  obtain ⟨v, A2, B2, e1, e2, e3⟩ := rl_passes (h1.h h2) h1.2.2.1.2.2.2.2.2.1 n s
  exact ⟨v, A2, B2, e1, e2, e3, rl_frA (fr_X7_passes 38 t n s A) e1, rl_frB (fr_X10_passes (nI 0) n s B) e2⟩
theorem iv_csL {A B : fm_M} {t nf nm kd km : Nat} {n : Int32} {hv : Nat → Nat} (h : iv_all A B t nf nm kd km) (ok : hv_ok A B t nf n hv) : ∀ (m i fa fb : Nat) (best : Int32) (A1 B1 : fm_M), i + m = 2 ^ nf → m < fa → m < fb → (best = -2 ∨ ∃ w : Nat, w < 256 ∧ best = nI w) → ag iv_pA A A1 → ag iv_pB B B1 → (∀ f, f < nf → A1.1 44 f = nI (hv f)) → ∃ (r x y : Int32) (A2 B2 : fm_M), G_X9_censure_39 fa n (nI (2 ^ nf) - 1) best (nI i) A1 = some ((r, x), A2) ∧ G_X10_censure_19 fb n best (nI i) B1 = some ((r, y), B2) ∧ ag iv_pA A A2 ∧ ag iv_pB B B2 := by
  obtain ⟨hn, h1, h2⟩ := iv_nf h
  have hp := pow_nf hn
  have ht := fm_td (iv_tt h)
  have h2p : 0 < 2 ^ nf := Nat.two_pow_pos nf
  have em : nI (2 ^ nf) - 1 = nI (2 ^ nf - 1) := pk_sub (a := 2 ^ nf) (b := 1) h2p
  intro m
  induction m with
  | zero =>
    intro i fa fb best A1 B1 hi hfa hfb hb aA aB hl
    obtain ⟨fa, rfl⟩ : ∃ z, fa = z + 1 := ⟨fa - 1, by omega⟩
    obtain ⟨fb, rfl⟩ : ∃ z, fb = z + 1 := ⟨fb - 1, by omega⟩
    rw [G_X9_censure_39, em, if_pos (nI_lt (by omega) (by omega)), G_X10_censure_19, fm_gd_t (by decide), ck_0, aB 78 0 (by unfold iv_pB; omega), h2, shl_nf nf (by omega), if_pos (nI_le (by omega) (by omega))]
    exact ⟨best, _, _, A1, B1, rfl, rfl, aA, aB⟩
  | succ m ih =>
    intro i fa fb best A1 B1 hi hfa hfb hb aA aB hl
    obtain ⟨fa, rfl⟩ : ∃ z, fa = z + 1 := ⟨fa - 1, by omega⟩
    obtain ⟨fb, rfl⟩ : ∃ z, fb = z + 1 := ⟨fb - 1, by omega⟩
    have hx := iv_cg h aA aB
    -- the part that looks at the set
    have look : ∃ (r x y : Int32) (A2 B2 : fm_M), J_X9_censure_63 (G_X9_censure_39 fa n (nI (2 ^ nf) - 1)) n (nI (2 ^ nf) - 1) best (nI i) A1 = some ((r, x), A2) ∧ J_X10_censure_49 (G_X10_censure_19 fb n) n best (nI i) B1 = some ((r, y), B2) ∧ ag iv_pA A A2 ∧ ag iv_pB B B2 := by
      rw [J_X9_censure_63, J_X10_censure_49]
      simp only [fm_lt]
      obtain ⟨B2, e1, e2⟩ := md_cs hn h2 ok best (nI i) nf 0 fm_fuel 0 B1 (by omega) (by unfold fm_fuel; omega) aB
      have es : su hv (fun f => decide (rl_bit ((nI (2 ^ nf) - 1) &&& (nI i ^^^ (-1))) f = 1)) nf 0 0 = su hv (fun f => decide (rl_bit (nI i) f = 0)) nf 0 0 := su_cg nf 0 0 (fun f _ hf => decide_eq_decide.mpr (cs_bits nf (by omega) i (by omega) f (by omega)))
      have hx2 := iv_cg h aA e2
      obtain ⟨v, A3, B3, g1, g2, g3, g4, g5⟩ := iv_passes2 hx2 n (su hv (fun f => decide (rl_bit (nI i) f = 0)) nf 0 0)
      rw [iv_t hx, fm_gd_t (iv_tt h), (iv_nf hx).2.1, iv_lst hn hl, fm_bd_s, iv_t hx, fm_gd_t (iv_tt h), es, g1, fm_bd_s, show G_X10_censure_55 fm_fuel n best (nI i) 0 0 B1 = _ from e1, fm_bd_s, g2, fm_bd_s, nI_1]
      have a3 := agA_15 (iv_tt h) aA g4
      have b3 := agB_32 e2 g5
      have l3 : ∀ f, f < nf → A3.1 44 f = nI (hv f) := fun f hf => by rw [g4 _ _ (by omega)]; exact hl f hf
      by_cases c : v = 0
      · rw [if_pos c, if_pos c]; exact ih (i + 1) fa fb (nI i) A3 B3 (by omega) (by omega) (by omega) (Or.inr ⟨i, by omega, rfl⟩) a3 b3 l3
      · rw [if_neg c, if_neg c]; exact ih (i + 1) fa fb best A3 B3 (by omega) (by omega) (by omega) hb a3 b3 l3
    rw [G_X9_censure_39, em, if_neg (nI_nlt (by omega) (by omega)), ← em, G_X10_censure_19, fm_gd_t (by decide), ck_0, aB 78 0 (by unfold iv_pB; omega), h2, shl_nf nf (by omega), if_neg (nI_ge (by omega) (by omega))]
    rcases hb with rfl | ⟨w, hw, rfl⟩
    · rw [if_pos rfl, if_pos (by decide)]; exact look
    · rw [if_neg (fun z => absurd (z ▸ nI_pos (show w < 2 ^ 31 by omega)) (by decide)), if_neg (nI_pos (by omega)), cl_bitCount, fm_bd_s, cl_bitCount, fm_bd_s, md_bitsOf, fm_bd_s, md_bitsOf, fm_bd_s, bc_all i (by omega), bc_all w hw, nI_1]
      by_cases c : md_bits 10 (nI w) 0 0 ≤ md_bits 10 (nI i) 0 0
      · rw [if_pos c, if_neg (Int32.not_lt.mpr c)]; exact ih (i + 1) fa fb (nI w) A1 B1 (by omega) (by omega) (by omega) (Or.inr ⟨w, hw, rfl⟩) aA aB hl
      · rw [if_neg c, if_pos (Int32.not_le.mp c)]; exact look
theorem pu_censure {A B : fm_M} {t nf nm kd km : Nat} (h : iv_all A B t nf nm kd km) (a1 : Int32) : pu t nf nm kd km (F_X9_censure a1 A) (F_X10_censure a1 B) := by
  have h0 := iv_thr h 0
  rw [F_X9_censure, F_X10_censure]
  simp only [fm_lt]
  generalize fm_up B 76 0 0 = B1 at *
  have ht := fm_td (iv_tt h)
  obtain ⟨hn, -, -⟩ := iv_nf h0
  rcases iv_isNote a1 with e3 | ⟨-, e3⟩
  · rw [(e3 A).1, (e3 B1).2, fm_bd_s, fm_bd_s, if_pos rfl, if_pos rfl]; exact rR_ret h0 rfl
  rw [(e3 A).1, (e3 B1).2, fm_bd_s, fm_bd_s, if_neg n10, if_neg n10]
  obtain ⟨hv, -, ok⟩ := iv_hv h0 a1
  obtain ⟨A3, l1, l2, l3⟩ := iv_listen h0 ok
  have aA3 : ag iv_pA A A3 := fun q k z => l2 q k (by unfold iv_pA at z; omega) (by unfold iv_pA at z; omega)
  have h3 := iv_cg h0 aA3 ag_rf
  have hp := pow_nf hn
  obtain ⟨r, x, y, A4, B4, k1, k2, k3, k4⟩ := iv_csL h3 (hv_ok_ag ok aA3 ag_rf) (2 ^ nf) 0 fm_fuel fm_fuel (-2) A3 B1 (by omega) (by unfold fm_fuel; omega) (by unfold fm_fuel; omega) (Or.inl rfl) ag_rf ag_rf l3
  rw [iv_t h0, fm_gd_t (iv_tt h), l1, fm_bd_s, iv_t h3, fm_gd_t (iv_tt h), (iv_nf h3).2.1, shl_nf nf (by omega), show G_X9_censure_39 fm_fuel a1 (nI (2 ^ nf) - 1) (-2) 0 A3 = _ from k1, fm_bd_s, show G_X10_censure_19 fm_fuel a1 (-2) 0 B1 = _ from k2, fm_bd_s]
  exact rR_ret (iv_cg h3 k3 k4) rfl
