/-! the reference's step -/
theorem fm_gd_t {β : Type} {b : Bool} {o : Option β} (h : b = true) : fm_gd b o = o := by subst h; rfl
theorem fm_up_get {M : fm_M} {p k : Nat} {v : Int32} : (fm_up M p k v).1 p k = v := fm_up_eq
theorem fm_up_ne {M : fm_M} {p k q j : Nat} {v : Int32} (h : q ≠ p ∨ j ≠ k) : (fm_up M p k v).1 q j = M.1 q j := by
  by_cases hq : q = p
  · subst hq
    have hj : j ≠ k := h.elim (fun z => absurd rfl z) id
    simp only [fm_up, fm_row_eq, upd, if_neg hj]
  · exact congrFun (fm_row_ne q hq).1 j
theorem fm_up_L {M : fm_M} {p k : Nat} {v : Int32} : (fm_up M p k v).2 = M.2 := rfl
theorem fm_upL_1 {M : fm_M} {p k : Nat} {v : Int64} : (fm_upL M p k v).1 = M.1 := rfl
theorem fm_upL_get {M : fm_M} {p k : Nat} {v : Int64} : (fm_upL M p k v).2 p k = v := by rw [fm_upL_eq]; simp only [vp_updL, if_true]
theorem fm_upL_ne2 {M : fm_M} {p k q j : Nat} {v : Int64} (h : q ≠ p ∨ j ≠ k) : (fm_upL M p k v).2 q j = M.2 q j := by
  by_cases hq : q = p
  · subst hq
    have hj : j ≠ k := h.elim (fun z => absurd rfl z) id
    rw [fm_upL_eq]; simp only [vp_updL, if_neg hj]
  · exact congrFun (fm_upL_ne q hq).2 j
theorem ev_le12 (x : Int64) : (1000000000000 < x ↔ 1000000000000 < x.toInt) ∧ (x < -1000000000000 ↔ x.toInt < -1000000000000) := by
  have a : (1000000000000 : Int64).toInt = 1000000000000 := by decide
  have b : (-1000000000000 : Int64).toInt = -1000000000000 := by decide
  exact ⟨by rw [Int64.lt_iff_toInt_lt, a], by rw [Int64.lt_iff_toInt_lt, b]⟩
theorem ev_407 {a : Int32} {b c z : Int64} {M : fm_M} {k : Nat} (hk : k < 64) (h : M.1 76 32 = nI (k + 1)) : (ev_bd z → J_X10_works_407 a b c z M = some (1, fm_upL M 93 k z)) ∧ (¬ ev_bd z → J_X10_works_407 a b c z M = some (0, fm_upL M 93 k z)) := by
  have e : J_X10_works_407 a b c z M = if 0 < lg_cmp z 1000000000000 then some (0, fm_upL M 93 k z) else if lg_cmp z (-1000000000000) < 0 then some (0, fm_upL M 93 k z) else some (1, fm_upL M 93 k z) := by
    rw [J_X10_works_407, h, nI_pred, fm_gd_t (nu_inb hk (by omega)), fm_lt, nI_clamp (by omega)]
  obtain ⟨q1, q2⟩ := ev_le12 z
  refine ⟨fun hb => ?_, fun hb => ?_⟩
  · unfold ev_bd at hb
    rw [e, if_neg (by rw [nu_cmpg, q1]; omega), if_neg (by rw [nu_cmpl, q2]; omega)]
  · unfold ev_bd at hb
    rw [e]
    by_cases h1 : 1000000000000 < z.toInt
    · rw [if_pos (by rw [nu_cmpg, q1]; exact h1)]
    · rw [if_neg (by rw [nu_cmpg, q1]; exact h1), if_pos (by rw [nu_cmpl, q2]; omega)]
theorem ev_is (a : Int32) (M : fm_M) : F_X10_is a M = some (if a = 0 then 0 else 1, M) := by
  rw [F_X10_is]
  by_cases h : a = 0
  · rw [if_pos h, if_pos h]
  · rw [if_neg h, if_neg h]
theorem ev_abs {x : Int64} (hx : ev_bd x) : (l_abs x).toInt = (x.toInt.natAbs : Int) := by
  unfold ev_bd at hx
  unfold l_abs
  by_cases h : 0 < x
  · rw [if_pos h]
    have := Int64.lt_iff_toInt_lt.mp h
    rw [ev_l01.1] at this
    omega
  · rw [if_neg h]
    have h2 : x.toInt ≤ 0 := by
      have := Int64.not_lt.mp h
      have := Int64.le_iff_toInt_le.mp this
      rw [ev_l01.1] at this
      exact this
    rw [Int64.toInt_neg, nu_bm (by omega) (by omega)]
    omega
theorem ev_mulc {x y : Int64} (hx : ev_bd x) (hy : ev_bd y) (h0 : ¬ x = 0) : (fm_nzl (l_abs x) = true) ∧ (lg_cmp (l_abs y) (1000000000000 / l_abs x) ≤ 0 ↔ (-1000000000000 ≤ x.toInt * y.toInt ∧ x.toInt * y.toInt ≤ 1000000000000)) := by
  have hx0 : x.toInt ≠ 0 := fun h => h0 (Int64.toInt_inj.mp (by rw [h]; rfl))
  have ax := ev_abs hx
  have ay := ev_abs hy
  refine ⟨decide_eq_true (fun h => ?_), ?_⟩
  · rw [h, ev_l01.1] at ax
    omega
  · have c12 : (1000000000000 : Int64).toInt = 1000000000000 := by decide
    have hq : (1000000000000 / l_abs x).toInt = ((1000000000000 / x.toInt.natAbs : Nat) : Int) := by
      rw [Int64.toInt_div, c12, ax]
      have e1 : (1000000000000 : Int).tdiv (x.toInt.natAbs : Int) = ((1000000000000 / x.toInt.natAbs : Nat) : Int) := by
        rw [show (1000000000000 : Int) = ((1000000000000 : Nat) : Int) from rfl, Int.ofNat_tdiv]
      rw [e1]
      have h9 : 1000000000000 / x.toInt.natAbs ≤ 1000000000000 := Nat.div_le_self _ _
      generalize 1000000000000 / x.toInt.natAbs = q9 at h9 ⊢
      exact nu_bm (by omega) (by omega)
    rw [nu_cmple, Int64.le_iff_toInt_le, ay, hq]
    have hn : (x.toInt * y.toInt).natAbs = x.toInt.natAbs * y.toInt.natAbs := Int.natAbs_mul _ _
    have hd := Nat.le_div_iff_mul_le (x := y.toInt.natAbs) (y := 1000000000000) (k := x.toInt.natAbs) (by omega)
    rw [Nat.mul_comm] at hd
    constructor
    · intro h
      have := hd.mp (by omega)
      omega
    · intro h
      have := hd.mpr (by omega)
      omega
theorem ev_works {t v : Int32} {B : fm_M} {k : Nat} (hk : k + 2 ≤ 64) (hh : B.1 76 32 = nI (k + 2)) (ho : ev_op t v) (hx : ev_bd (B.2 93 k)) (hy : ev_bd (B.2 93 (k + 1))) :
    ∃ g B2, F_X10_works v B = some (g, B2) ∧ B2.1 = (fm_up B 76 32 (nI (k + 1))).1 ∧ ((g = 1 ∧ ∃ z, ev_z v (B.2 93 k) (B.2 93 (k + 1)) = some z ∧ ev_bd z ∧ B2.2 = (fm_upL B 93 k z).2) ∨ (g = 0 ∧ ev_z v (B.2 93 k) (B.2 93 (k + 1)) = none)) := by
  generalize hX : B.2 93 k = x at hx
  generalize hY : B.2 93 (k + 1) = y at hy
  generalize hM : fm_up B 76 32 (nI (k + 1)) = M
  have h5 : M.1 76 32 = nI (k + 1) := by rw [← hM]; exact fm_up_eq
  have hM2 : ∀ z, (fm_upL M 93 k z).1 = M.1 ∧ (fm_upL M 93 k z).2 = (fm_upL B 93 k z).2 := fun z => ⟨rfl, by rw [← hM]; rfl⟩
  have s2 : nI (k + 2) - 2 = nI k := by rw [show (2 : Int32) = nI 2 from rfl, pk_sub (by omega)]; rfl
  have fin : ∀ (a : Int32) (b c z : Int64), (ev_z v x y = if -1000000000000 ≤ z.toInt ∧ z.toInt ≤ 1000000000000 then some z else none) → ∃ g B2, J_X10_works_407 a b c z M = some (g, B2) ∧ B2.1 = M.1 ∧ ((g = 1 ∧ ∃ z, ev_z v x y = some z ∧ ev_bd z ∧ B2.2 = (fm_upL B 93 k z).2) ∨ (g = 0 ∧ ev_z v x y = none)) := by
    intro a b c z hz
    obtain ⟨f1, f2⟩ := ev_407 (a := a) (b := b) (c := c) (z := z) (M := M) (k := k) (by omega) h5
    by_cases hb : ev_bd z
    · exact ⟨1, _, f1 hb, (hM2 z).1, Or.inl ⟨rfl, z, by rw [hz, if_pos (show -1000000000000 ≤ z.toInt ∧ z.toInt ≤ 1000000000000 from hb)], hb, (hM2 z).2⟩⟩
    · exact ⟨0, _, f2 hb, (hM2 z).1, Or.inr ⟨rfl, by rw [hz, if_neg (show ¬ (-1000000000000 ≤ z.toInt ∧ z.toInt ≤ 1000000000000) from hb)]⟩⟩
  have bz : ∀ (c : Prop) [Decidable c], ev_z v x y = ev_b c → ∀ (s : Int32), (if s = 0 then (0 : Int64) else 1) = (if c then 1 else 0) → ev_z v x y = if -1000000000000 ≤ (if s = 0 then (0 : Int64) else 1).toInt ∧ (if s = 0 then (0 : Int64) else 1).toInt ≤ 1000000000000 then some (if s = 0 then (0 : Int64) else 1) else none := by
    intro c _ h s hs
    rw [h, hs, ev_b]
    by_cases hc : c
    · rw [if_pos hc, if_pos (by rw [ev_l01.2]; omega)]
    · rw [if_neg hc, if_pos (by rw [ev_l01.1]; omega)]
  have main : F_X10_works v B = (if v = 260 then F_X10_works v B else (if v = 42 then (if (lg_cmp x 0) = 0 then J_X10_works_212 v y x M else fm_gd (fm_nzl (l_abs x)) (if (lg_cmp (l_abs y) (1000000000000 / (l_abs x))) ≤ 0 then J_X10_works_212 v y x M else some (0, M)))
      else if v = 43 then J_X10_works_407 v y x (x + y) M
      else if v = 45 then J_X10_works_407 v y x (x - y) M
      else if v = 47 then (if (lg_cmp y 0) = 0 then some (0, M) else fm_gd (fm_nzl y) (J_X10_works_407 v y x (x / y) M))
      else if v = 60 then (if 0 ≤ (lg_cmp x y) then J_X10_works_250 v y x 0 M else J_X10_works_250 v y x 1 M)
      else if v = 61 then (if (lg_cmp x y) = 0 then J_X10_works_290 v y x 1 M else J_X10_works_290 v y x 0 M)
      else if v = 62 then (if (lg_cmp x y) ≤ 0 then J_X10_works_270 v y x 0 M else J_X10_works_270 v y x 1 M)
      else if v = 256 then (if 0 < (lg_cmp x y) then J_X10_works_310 v y x 0 M else J_X10_works_310 v y x 1 M)
      else if v = 257 then (if (lg_cmp x y) = 0 then J_X10_works_350 v y x 0 M else J_X10_works_350 v y x 1 M)
      else if v = 258 then (if (lg_cmp x y) < 0 then J_X10_works_330 v y x 0 M else J_X10_works_330 v y x 1 M)
      else if v = 261 then (if (lg_cmp x 0) = 0 then J_X10_works_375 v y x M else if (lg_cmp y 0) = 0 then J_X10_works_375 v y x M else J_X10_works_376 v y x 1 M)
      else (if (lg_cmp x 0) = 0 then (if (lg_cmp y 0) = 0 then J_X10_works_402 v y x 0 M else J_X10_works_397 v y x M) else J_X10_works_397 v y x M))) := by
    by_cases h260 : v = 260
    · rw [if_pos h260]
    · rw [if_neg h260]
      rw [F_X10_works, hh, nI_pred, s2, fm_gd_t (nu_inb (by omega) (by omega)), fm_lt, nI_clamp (by omega), if_neg h260, fm_gd_t (nu_inb (by omega) (by omega)), fm_lt, nI_clamp (by omega), fm_lt, hX, hY, hM]
      rfl
  rw [main]
  rcases ho with ⟨rfl, rfl⟩ | ⟨rfl, rfl⟩ | ⟨rfl, rfl⟩ | ⟨rfl, rfl⟩ | ⟨rfl, rfl⟩ | ⟨rfl, rfl⟩ | ⟨rfl, rfl⟩ | ⟨rfl, rfl⟩ | ⟨rfl, rfl⟩ | ⟨rfl, rfl⟩ | ⟨rfl, rfl⟩ | ⟨rfl, rfl⟩
  · have e : ev_z 60 x y = ev_b (x < y) := rfl
    rw [if_neg (by decide), if_neg (by decide), if_neg (by decide), if_neg (by decide), if_neg (by decide), if_pos rfl]
    by_cases h : x < y
    · rw [if_neg (by rw [nu_cmpge]; exact Int64.not_le.mpr h), J_X10_works_250, ev_is]
      exact fin 60 y x _ (bz _ e 1 (by rw [if_pos h]; rfl))
    · rw [if_pos ((nu_cmpge x y).mpr (Int64.not_lt.mp h)), J_X10_works_250, ev_is]
      exact fin 60 y x _ (bz _ e 0 (by rw [if_neg h]; rfl))
  · have e : ev_z 256 x y = ev_b (x ≤ y) := rfl
    rw [if_neg (by decide), if_neg (by decide), if_neg (by decide), if_neg (by decide), if_neg (by decide), if_neg (by decide), if_neg (by decide), if_neg (by decide), if_pos rfl]
    by_cases h : x ≤ y
    · rw [if_neg (by rw [nu_cmpg]; exact Int64.not_lt.mpr h), J_X10_works_310, ev_is]
      exact fin 256 y x _ (bz _ e 1 (by rw [if_pos h]; rfl))
    · rw [if_pos ((nu_cmpg x y).mpr (Int64.not_le.mp h)), J_X10_works_310, ev_is]
      exact fin 256 y x _ (bz _ e 0 (by rw [if_neg h]; rfl))
  · have e : ev_z 61 x y = ev_b (x = y) := rfl
    rw [if_neg (by decide), if_neg (by decide), if_neg (by decide), if_neg (by decide), if_neg (by decide), if_neg (by decide), if_pos rfl]
    by_cases h : x = y
    · rw [if_pos ((nu_cmp0 x y).mpr h), J_X10_works_290, ev_is]
      exact fin 61 y x _ (bz _ e 1 (by rw [if_pos h]; rfl))
    · rw [if_neg (fun q => h ((nu_cmp0 x y).mp q)), J_X10_works_290, ev_is]
      exact fin 61 y x _ (bz _ e 0 (by rw [if_neg h]; rfl))
  · have e : ev_z 257 x y = ev_b (x ≠ y) := rfl
    rw [if_neg (by decide), if_neg (by decide), if_neg (by decide), if_neg (by decide), if_neg (by decide), if_neg (by decide), if_neg (by decide), if_neg (by decide), if_neg (by decide), if_pos rfl]
    by_cases h : x = y
    · rw [if_pos ((nu_cmp0 x y).mpr h), J_X10_works_350, ev_is]
      exact fin 257 y x _ (bz _ e 0 (by rw [show (if x ≠ y then (1 : Int64) else 0) = 0 from if_neg (fun q => q h)]; rfl))
    · rw [if_neg (fun q => h ((nu_cmp0 x y).mp q)), J_X10_works_350, ev_is]
      exact fin 257 y x _ (bz _ e 1 (by rw [if_pos h]; rfl))
  · have e : ev_z 258 x y = ev_b (y ≤ x) := rfl
    rw [if_neg (by decide), if_neg (by decide), if_neg (by decide), if_neg (by decide), if_neg (by decide), if_neg (by decide), if_neg (by decide), if_neg (by decide), if_neg (by decide), if_neg (by decide), if_pos rfl]
    by_cases h : y ≤ x
    · rw [if_neg (by rw [nu_cmpl]; exact Int64.not_lt.mpr h), J_X10_works_330, ev_is]
      exact fin 258 y x _ (bz _ e 1 (by rw [if_pos h]; rfl))
    · rw [if_pos ((nu_cmpl x y).mpr (Int64.not_le.mp h)), J_X10_works_330, ev_is]
      exact fin 258 y x _ (bz _ e 0 (by rw [if_neg h]; rfl))
  · have e : ev_z 62 x y = ev_b (y < x) := rfl
    rw [if_neg (by decide), if_neg (by decide), if_neg (by decide), if_neg (by decide), if_neg (by decide), if_neg (by decide), if_neg (by decide), if_pos rfl]
    by_cases h : y < x
    · rw [if_neg (by rw [nu_cmple]; exact Int64.not_le.mpr h), J_X10_works_270, ev_is]
      exact fin 62 y x _ (bz _ e 1 (by rw [if_pos h]; rfl))
    · rw [if_pos ((nu_cmple x y).mpr (Int64.not_lt.mp h)), J_X10_works_270, ev_is]
      exact fin 62 y x _ (bz _ e 0 (by rw [if_neg h]; rfl))
  · rw [if_neg (by decide), if_neg (by decide), if_pos rfl]
    exact fin _ _ _ _ rfl
  · rw [if_neg (by decide), if_neg (by decide), if_neg (by decide), if_pos rfl]
    exact fin _ _ _ _ rfl
  · have e : ev_z 42 x y = if -1000000000000 ≤ x.toInt * y.toInt ∧ x.toInt * y.toInt ≤ 1000000000000 then some (x * y) else none := rfl
    rw [if_neg (by decide), if_pos rfl]
    have go : (-1000000000000 ≤ x.toInt * y.toInt ∧ x.toInt * y.toInt ≤ 1000000000000) → ∃ g B2, J_X10_works_212 42 y x M = some (g, B2) ∧ B2.1 = M.1 ∧ ((g = 1 ∧ ∃ z, ev_z 42 x y = some z ∧ ev_bd z ∧ B2.2 = (fm_upL B 93 k z).2) ∨ (g = 0 ∧ ev_z 42 x y = none)) := by
      intro hb
      rw [J_X10_works_212, fm_lt]
      refine fin _ _ _ _ ?_
      have hm : (x * y).toInt = x.toInt * y.toInt := nu_lmul (by omega) (by omega)
      rw [e, hm]
    by_cases h0 : x = 0
    · rw [if_pos ((nu_cmp0 x 0).mpr h0)]
      refine go ?_
      rw [h0, ev_l01.1, Int.zero_mul]
      omega
    · obtain ⟨m1, m2⟩ := ev_mulc hx hy h0
      rw [if_neg (fun q => h0 ((nu_cmp0 x 0).mp q)), fm_gd_t m1]
      by_cases hb : -1000000000000 ≤ x.toInt * y.toInt ∧ x.toInt * y.toInt ≤ 1000000000000
      · rw [if_pos (m2.mpr hb)]
        exact go hb
      · rw [if_neg (fun q => hb (m2.mp q))]
        exact ⟨0, M, rfl, rfl, Or.inr ⟨rfl, by rw [e, if_neg hb]⟩⟩
  · have e : ev_z 47 x y = if y = 0 then none else ev_c (x / y) := rfl
    rw [if_neg (by decide), if_neg (by decide), if_neg (by decide), if_neg (by decide), if_pos rfl]
    by_cases h0 : y = 0
    · rw [if_pos ((nu_cmp0 y 0).mpr h0)]
      exact ⟨0, M, rfl, rfl, Or.inr ⟨rfl, by rw [e, if_pos h0]⟩⟩
    · rw [if_neg (fun q => h0 ((nu_cmp0 y 0).mp q)), fm_gd_t (show fm_nzl y = true from decide_eq_true h0)]
      exact fin _ _ _ _ (by rw [e, if_neg h0]; rfl)
  · have e : ev_z 262 x y = ev_b (x ≠ 0 ∨ y ≠ 0) := rfl
    rw [if_neg (by decide), if_neg (by decide), if_neg (by decide), if_neg (by decide), if_neg (by decide), if_neg (by decide), if_neg (by decide), if_neg (by decide), if_neg (by decide), if_neg (by decide), if_neg (by decide), if_neg (by decide)]
    by_cases h : x = 0
    · rw [if_pos ((nu_cmp0 x 0).mpr h)]
      by_cases h2 : y = 0
      · rw [if_pos ((nu_cmp0 y 0).mpr h2), J_X10_works_402, ev_is]
        exact fin 262 y x _ (bz _ e 0 (by rw [show (if x ≠ 0 ∨ y ≠ 0 then (1 : Int64) else 0) = 0 from if_neg (fun q => q.elim (fun z => z h) (fun z => z h2))]; rfl))
      · rw [if_neg (fun q => h2 ((nu_cmp0 y 0).mp q)), J_X10_works_397, J_X10_works_402, ev_is]
        exact fin 262 y x _ (bz _ e 1 (by rw [show (if x ≠ 0 ∨ y ≠ 0 then (1 : Int64) else 0) = 1 from if_pos (Or.inr h2)]; rfl))
    · rw [if_neg (fun q => h ((nu_cmp0 x 0).mp q)), J_X10_works_397, J_X10_works_402, ev_is]
      exact fin 262 y x _ (bz _ e 1 (by rw [show (if x ≠ 0 ∨ y ≠ 0 then (1 : Int64) else 0) = 1 from if_pos (Or.inl h)]; rfl))
  · have e : ev_z 261 x y = ev_b (x ≠ 0 ∧ y ≠ 0) := rfl
    rw [if_neg (by decide), if_neg (by decide), if_neg (by decide), if_neg (by decide), if_neg (by decide), if_neg (by decide), if_neg (by decide), if_neg (by decide), if_neg (by decide), if_neg (by decide), if_neg (by decide), if_pos rfl]
    by_cases h : x = 0
    · rw [if_pos ((nu_cmp0 x 0).mpr h), J_X10_works_375, J_X10_works_376, ev_is]
      exact fin 261 y x _ (bz _ e 0 (by rw [show (if x ≠ 0 ∧ y ≠ 0 then (1 : Int64) else 0) = 0 from if_neg (fun q => q.1 h)]; rfl))
    · rw [if_neg (fun q => h ((nu_cmp0 x 0).mp q))]
      by_cases h2 : y = 0
      · rw [if_pos ((nu_cmp0 y 0).mpr h2), J_X10_works_375, J_X10_works_376, ev_is]
        exact fin 261 y x _ (bz _ e 0 (by rw [show (if x ≠ 0 ∧ y ≠ 0 then (1 : Int64) else 0) = 0 from if_neg (fun q => q.2 h2)]; rfl))
      · rw [if_neg (fun q => h2 ((nu_cmp0 y 0).mp q)), J_X10_works_376, ev_is]
        exact fin 261 y x _ (bz _ e 1 (by rw [show (if x ≠ 0 ∧ y ≠ 0 then (1 : Int64) else 0) = 1 from if_pos ⟨h, h2⟩]; rfl))
