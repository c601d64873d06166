/-! the whole expression: both walk the knots side by side -/
theorem fm_bd_s {α β : Type} {v : α} {M : fm_M} {k : α → fm_M → Option β} : fm_bd (some (v, M)) k = k v M := rfl
def ev_tok (A B : fm_M) (w i : Nat) : Prop :=
  (A.1 (w + 3) i = 2 ∧ B.1 90 i = 0 ∧ B.1 91 i = A.1 (w + 4) i)
  ∨ (∃ j : Nat, j < 7 ∧ A.1 (w + 3) i = nI (32 + j) ∧ B.1 90 i = 1 ∧ B.1 91 i = nI j)
  ∨ (A.1 (w + 3) i = 31 ∧ B.1 90 i = 2 ∧ B.1 91 i = 260)
  ∨ (B.1 90 i = 2 ∧ ev_op (A.1 (w + 3) i) (B.1 91 i))
/-- the height of the values ahead of each knot -/
def ev_ht (B : fm_M) (ht : Nat → Nat) (s e : Nat) : Prop := ht s = 0 ∧ ht e = 1 ∧ ∀ i, s ≤ i → i < e → (B.1 90 i ≠ 2 → ht (i + 1) = ht i + 1) ∧ (B.1 90 i = 2 → B.1 91 i = 260 → 1 ≤ ht i ∧ ht (i + 1) = ht i) ∧ (B.1 90 i = 2 → B.1 91 i ≠ 260 → 2 ≤ ht i ∧ ht (i + 1) + 1 = ht i)
theorem ev_ht_le {B : fm_M} {ht : Nat → Nat} {s e : Nat} (h : ev_ht B ht s e) : ∀ n, s + n ≤ e → ht (s + n) ≤ n := by
  intro n
  induction n with
  | zero => intro _; rw [Nat.add_zero, h.1]; omega
  | succ n ih =>
    intro hn
    have h1 := ih (by omega)
    obtain ⟨a, b, c⟩ := h.2.2 (s + n) (by omega) (by omega)
    rw [show s + (n + 1) = s + n + 1 by omega]
    by_cases h2 : B.1 90 (s + n) = 2
    · by_cases h3 : B.1 91 (s + n) = 260
      · have := b h2 h3; omega
      · have := c h2 h3; omega
    · have := a h2; omega
/-- what both hold of the values: the first h are the same, and within bounds -/
def ev_st (A B : fm_M) (w h : Nat) : Prop := ∀ j, j < h → A.2 (w + 6) j = B.2 93 j ∧ ev_bd (B.2 93 j)
theorem ev_bd32 (x : Int32) : ev_bd x.toInt64 := by
  unfold ev_bd
  have h1 := Int32.toInt_lt x
  have h2 := Int32.le_toInt x
  rw [Int32.toInt_toInt64]
  omega
theorem ev_stp {A B : fm_M} {w h : Nat} {z : Int64} (hs : ev_st A B w h) (hz : ev_bd z) {A2 B2 : fm_M} (k : Nat) (hA : A2.2 = (fm_upL A (w + 6) k z).2) (hB : ∀ j, B2.2 93 j = (fm_upL B 93 k z).2 93 j) (h2 : Nat) (hk : k < h2) (hh : h2 ≤ h + 1) (hk2 : h2 = h + 1 → k = h) : ev_st A2 B2 w h2 := by
  intro j hj
  rw [hA, hB]
  by_cases e : j = k
  · subst e
    rw [fm_upL_get, fm_upL_get]
    exact ⟨rfl, hz⟩
  · rw [fm_upL_ne2 (Or.inr e), fm_upL_ne2 (Or.inr e)]
    exact hs j (by omega)
theorem ev_loop {A B : fm_M} {w r s e : Nat} {ht : Nat → Nat} (hr : r < 3) (he : e ≤ 64) (hA2 : A.1 (w + 2) r = nI e) (hB2 : B.1 89 r = nI e) (htok : ∀ i, s ≤ i → i < e → ev_tok A B w i) (hht : ev_ht B ht s e) (hnm : ∀ j, j < 7 → (A.1 (w + 5) j).toInt64 = B.2 92 j) :
    ∀ (n i fa fb : Nat) (A2 B2 : fm_M), i + n = e → s ≤ i → n < fa → n < fb → A2.1 = A.1 → (∀ q k, (q ≠ 76 ∨ k ≠ 32) → B2.1 q k = B.1 q k) → B2.1 76 32 = nI (ht i) → B2.2 92 = B.2 92 → ev_st A2 B2 w (ht i) →
    ∃ xa xb, G_X3_valueOf_21 fa w (nI r) (nI (ht i)) (nI i) A2 = some xa ∧ G_X10_goes_12 fb (nI r) (nI i) B2 = some xb ∧ ((xa.1 = .inr (-9223372036854775808) ∧ xb.1 = .inr 0) ∨ (xa.1 = .inl (1, nI e) ∧ xb.1 = .inl (nI e) ∧ xa.2.2 (w + 6) 0 = xb.2.2 93 0 ∧ ev_bd (xb.2.2 93 0))) := by
  intro n
  induction n with
  | zero =>
    intro i fa fb A2 B2 hi hsi hfa hfb hA hB hh h92 hst
    have hie : i = e := by omega
    subst hie
    obtain ⟨fa, rfl⟩ : ∃ z, fa = z + 1 := ⟨fa - 1, by omega⟩
    obtain ⟨fb, rfl⟩ : ∃ z, fb = z + 1 := ⟨fb - 1, by omega⟩
    refine ⟨(.inl (nI (ht i), nI i), A2), (.inl (nI i), B2), ?_, ?_, Or.inr ⟨?_, rfl, ?_⟩⟩
    · rw [G_X3_valueOf_21, fm_gd_t (nu_inb hr (by omega)), nI_clamp (by omega), hA, hA2, if_pos (nI_le (Nat.le_refl _) (by omega))]
    · rw [G_X10_goes_12, fm_gd_t (nu_inb (by omega) (by omega)), nI_clamp (by omega), hB 89 r (Or.inl (by omega)), hB2, if_pos (nI_le (Nat.le_refl _) (by omega))]
    · rw [hht.2.1]; rfl
    · have := hst 0 (by rw [hht.2.1]; omega)
      exact this
  | succ n ih =>
    intro i fa fb A2 B2 hi hsi hfa hfb hA hB hh h92 hst
    have hlt : i < e := by omega
    obtain ⟨fa, rfl⟩ : ∃ z, fa = z + 1 := ⟨fa - 1, by omega⟩
    obtain ⟨fb, rfl⟩ : ∃ z, fb = z + 1 := ⟨fb - 1, by omega⟩
    have hle : ht i ≤ i - s := by
      have := ev_ht_le hht (i - s) (by omega)
      rwa [show s + (i - s) = i by omega] at this
    obtain ⟨t1, t2, t3⟩ := hht.2.2 i hsi hlt
    have b90 : B2.1 90 i = B.1 90 i := hB 90 i (Or.inl (by omega))
    have b91 : B2.1 91 i = B.1 91 i := hB 91 i (Or.inl (by omega))
    have ca : G_X3_valueOf_21 (fa + 1) w (nI r) (nI (ht i)) (nI i) A2 = (if A.1 (w + 3) i = 2 then J_X3_valueOf_52 (G_X3_valueOf_21 fa w (nI r)) w (nI r) (nI (ht i)) (nI i) (A.1 (w + 3) i) A2
        else if A.1 (w + 3) i < 32 then (if A.1 (w + 3) i = 31 then (if 1 ≤ nI (ht i) then fm_gd (fm_inb (nI (ht i) - 1) 64) (if (lg_cmp (A2.2 (w + 6) (Int32.toNatClampNeg (nI (ht i) - 1))) 0) = 0 then fm_gd (fm_inb (nI (ht i) - 1) 64) (G_X3_valueOf_21 fa w (nI r) (nI (ht i)) (nI i + 1) (fm_upL A2 (w + 6) (Int32.toNatClampNeg (nI (ht i) - 1)) 1)) else fm_gd (fm_inb (nI (ht i) - 1) 64) (G_X3_valueOf_21 fa w (nI r) (nI (ht i)) (nI i + 1) (fm_upL A2 (w + 6) (Int32.toNatClampNeg (nI (ht i) - 1)) 0))) else some (.inr (-9223372036854775808), A2))
          else (if 2 ≤ nI (ht i) then fm_gd (fm_inb ((nI (ht i) + (-1)) - 1) 64) (fm_gd (fm_inb (nI (ht i) + (-1)) 64) (fm_bd (F_X3_joined (A.1 (w + 3) i) (A2.2 (w + 6) (Int32.toNatClampNeg ((nI (ht i) + (-1)) - 1))) (A2.2 (w + 6) (Int32.toNatClampNeg (nI (ht i) + (-1)))) A2) (fun v16 M17 => if 0 < (lg_cmp v16 1000000000000) then some (.inr (-9223372036854775808), M17) else if 0 ≤ (lg_cmp v16 (-1000000000000)) then fm_gd (fm_inb ((nI (ht i) + (-1)) - 1) 64) (G_X3_valueOf_21 fa w (nI r) (nI (ht i) + (-1)) (nI i + 1) (fm_upL M17 (w + 6) (Int32.toNatClampNeg ((nI (ht i) + (-1)) - 1)) v16)) else some (.inr (-9223372036854775808), M17)))) else some (.inr (-9223372036854775808), A2)))
        else J_X3_valueOf_52 (G_X3_valueOf_21 fa w (nI r)) w (nI r) (nI (ht i)) (nI i) (A.1 (w + 3) i) A2) := by
      rw [G_X3_valueOf_21, fm_gd_t (nu_inb hr (by omega)), nI_clamp (by omega), hA, hA2, if_neg (nI_ge hlt (by omega)), fm_gd_t (nu_inb (by omega) (by omega)), nI_clamp (by omega)]
      rfl
    have cb : G_X10_goes_12 (fb + 1) (nI r) (nI i) B2 = (if B.1 90 i = 2 then fm_bd (F_X10_works (B.1 91 i) B2) (fun v14 M15 => if v14 = 0 then some (.inr 0, M15) else G_X10_goes_12 fb (nI r) (nI i + 1) M15)
        else if B.1 90 i = 0 then J_X10_goes_85 (G_X10_goes_12 fb (nI r)) (nI r) (nI i) (nI (ht i)) (Int32.toInt64 (B.1 91 i)) B2
        else fm_gd (fm_inb (B.1 91 i) 7) (J_X10_goes_85 (G_X10_goes_12 fb (nI r)) (nI r) (nI i) (nI (ht i)) (B2.2 92 (Int32.toNatClampNeg (B.1 91 i))) B2)) := by
      rw [G_X10_goes_12, fm_gd_t (nu_inb (by omega) (by omega)), nI_clamp (by omega), hB 89 r (Or.inl (by omega)), hB2, if_neg (nI_ge hlt (by omega)), fm_gd_t (nu_inb (by omega) (by omega)), nI_clamp (by omega), b90, b91, hh, fm_gd_t (nu_inb (by omega) (by omega)), fm_gd_t (nu_inb (by omega) (by omega)), fm_gd_t (nu_inb (by omega) (by omega)), fm_gd_t (nu_inb (by omega) (by omega))]
    -- a value is laid on
    have push : ∀ (z : Int64), ev_bd z → ht (i + 1) = ht i + 1 → ∃ xa xb, G_X3_valueOf_21 fa w (nI r) (nI (ht i) + 1) (nI i + 1) (fm_upL A2 (w + 6) (ht i) z) = some xa ∧ J_X10_goes_85 (G_X10_goes_12 fb (nI r)) (nI r) (nI i) (nI (ht i)) z B2 = some xb ∧ ((xa.1 = .inr (-9223372036854775808) ∧ xb.1 = .inr 0) ∨ (xa.1 = .inl (1, nI e) ∧ xb.1 = .inl (nI e) ∧ xa.2.2 (w + 6) 0 = xb.2.2 93 0 ∧ ev_bd (xb.2.2 93 0))) := by
      intro z hz hp
      rw [J_X10_goes_85, fm_gd_t (nu_inb (by omega) (by omega)), fm_lt, fm_lt, nI_clamp (by omega), fm_upL_1, hh, nI_1, nI_1, ← hp]
      refine ih (i + 1) fa fb _ _ (by omega) (by omega) (by omega) (by omega) ?_ ?_ ?_ ?_ ?_
      · rw [fm_upL_1]; exact hA
      · intro q k hq
        rw [fm_up_ne hq, fm_upL_1]
        exact hB q k hq
      · exact fm_up_get
      · rw [fm_up_L, (fm_upL_ne 92 (by omega)).2]; exact h92
      · exact ev_stp hst hz (ht i) rfl (fun j => rfl) _ (by omega) (by omega) (by omega)
    rcases htok i hsi hlt with ⟨a1, a2, a3⟩ | ⟨j, hj, a1, a2, a3⟩ | ⟨a1, a2, a3⟩ | ⟨a2, a1⟩
    · have hp := t1 (by rw [a2]; decide)
      rw [ca, cb, if_pos a1, if_neg (by rw [a2]; decide), if_pos a2, J_X3_valueOf_52, if_pos (show nI (ht i) < 64 from nI_lt (a := ht i) (b := 64) (by omega) (by omega)), if_pos a1, fm_gd_t (nu_inb (by omega) (by omega)), fm_gd_t (nu_inb (by omega) (by omega)), fm_lt, nI_clamp (by omega), nI_clamp (by omega), hA, a3]
      exact push _ (ev_bd32 _) hp
    · have hp := t1 (by rw [a2]; decide)
      have e1 : nI (32 + j) - 32 = nI j := by rw [show (32 : Int32) = nI 32 from rfl, pk_sub (by omega)]; congr 1; omega
      have e2 : i_rem (nI (32 + j) - 32) 7 = nI j := by
        rw [e1]
        unfold i_rem
        rw [show (7 : Int32) = nI 7 from rfl, pk_rem (by omega) (by omega) (by omega), Nat.mod_eq_of_lt hj]
      have n2 : ¬ A.1 (w + 3) i = 2 := by
        rw [a1, show (2 : Int32) = nI 2 from rfl, nI_eq (by omega) (by omega)]; omega
      have n32 : ¬ A.1 (w + 3) i < 32 := by
        rw [a1, show (32 : Int32) = nI 32 from rfl]; exact nI_nlt (by omega) (by omega)
      rw [ca, cb, if_neg n2, if_neg n32, if_neg (by rw [a2]; decide), if_neg (by rw [a2]; decide), a3, fm_gd_t (nu_inb hj (by omega)), nI_clamp (by omega), J_X3_valueOf_52, if_pos (show nI (ht i) < 64 from nI_lt (a := ht i) (b := 64) (by omega) (by omega)), if_neg n2, a1, e2, fm_gd_t (nu_inb hj (by omega)), fm_gd_t (nu_inb (by omega) (by omega)), fm_lt, nI_clamp (by omega), nI_clamp (by omega), hA, h92, ← hnm j hj]
      exact push _ (ev_bd32 _) hp
    · obtain ⟨h1, h2⟩ := t2 a2 a3
      obtain ⟨k, hk⟩ : ∃ k, ht i = k + 1 := ⟨ht i - 1, by omega⟩
      have n2 : ¬ A.1 (w + 3) i = 2 := by rw [a1]; decide
      have n32 : A.1 (w + 3) i < 32 := by rw [a1]; decide
      have hs0 := hst k (by omega)
      have hw : F_X10_works 260 B2 = some (1, fm_upL B2 93 k (if B2.2 93 k = 0 then 1 else 0)) := by
        rw [F_X10_works, hh, hk, nI_pred, fm_gd_t (nu_inb (by omega) (by omega)), fm_lt, nI_clamp (by omega), if_pos rfl]
        by_cases hc : B2.2 93 k = 0
        · rw [if_pos ((nu_cmp0 _ _).mpr hc), if_pos hc, ev_is]
          show fm_gd (fm_inb (nI k) 64) _ = _
          rw [fm_gd_t (nu_inb (by omega) (by omega))]
          rfl
        · rw [if_neg (fun q => hc ((nu_cmp0 _ _).mp q)), if_neg hc, ev_is]
          show fm_gd (fm_inb (nI k) 64) _ = _
          rw [fm_gd_t (nu_inb (by omega) (by omega))]
          rfl
      have hz : ev_bd (if B2.2 93 k = 0 then (1 : Int64) else 0) := by
        by_cases hc : B2.2 93 k = 0
        · rw [if_pos hc]; unfold ev_bd; rw [ev_l01.2]; omega
        · rw [if_neg hc]; unfold ev_bd; rw [ev_l01.1]; omega
      have key : ∃ xa xb, G_X3_valueOf_21 fa w (nI r) (nI (ht i)) (nI i + 1) (fm_upL A2 (w + 6) k (if B2.2 93 k = 0 then 1 else 0)) = some xa ∧ G_X10_goes_12 fb (nI r) (nI i + 1) (fm_upL B2 93 k (if B2.2 93 k = 0 then 1 else 0)) = some xb ∧ ((xa.1 = .inr (-9223372036854775808) ∧ xb.1 = .inr 0) ∨ (xa.1 = .inl (1, nI e) ∧ xb.1 = .inl (nI e) ∧ xa.2.2 (w + 6) 0 = xb.2.2 93 0 ∧ ev_bd (xb.2.2 93 0))) := by
        rw [nI_1, ← h2]
        refine ih (i + 1) fa fb _ _ (by omega) (by omega) (by omega) (by omega) ?_ ?_ ?_ ?_ ?_
        · rw [fm_upL_1]; exact hA
        · intro q k hq
          rw [fm_upL_1]
          exact hB q k hq
        · rw [fm_upL_1, hh, h2]
        · rw [(fm_upL_ne 92 (by omega)).2]; exact h92
        · exact ev_stp hst hz k rfl (fun j => rfl) _ (by omega) (by omega) (by omega)
      rw [ca, cb, if_neg n2, if_pos n32, if_pos a1, if_pos a2, a3, hw, if_pos (show (1 : Int32) ≤ nI (ht i) from nI_le (a := 1) (by omega) (by omega)), hk, nI_pred, fm_gd_t (nu_inb (by omega) (by omega)), nI_clamp (by omega), hs0.1, ← hk]
      rw [fm_bd_s, if_neg (show ¬ (1 : Int32) = 0 by decide)]
      by_cases hc : B2.2 93 k = 0
      · rw [if_pos ((nu_cmp0 _ _).mpr hc), fm_gd_t (nu_inb (by omega) (by omega))]
        rw [if_pos hc] at key ⊢
        exact key
      · rw [if_neg (fun q => hc ((nu_cmp0 _ _).mp q)), fm_gd_t (nu_inb (by omega) (by omega))]
        rw [if_neg hc] at key ⊢
        exact key
    · have n260 : B.1 91 i ≠ 260 := by
        rcases a1 with ⟨-, h⟩ | ⟨-, h⟩ | ⟨-, h⟩ | ⟨-, h⟩ | ⟨-, h⟩ | ⟨-, h⟩ | ⟨-, h⟩ | ⟨-, h⟩ | ⟨-, h⟩ | ⟨-, h⟩ | ⟨-, h⟩ | ⟨-, h⟩ <;> rw [h] <;> decide
      have n2 : ¬ A.1 (w + 3) i = 2 := by
        rcases a1 with ⟨h, -⟩ | ⟨h, -⟩ | ⟨h, -⟩ | ⟨h, -⟩ | ⟨h, -⟩ | ⟨h, -⟩ | ⟨h, -⟩ | ⟨h, -⟩ | ⟨h, -⟩ | ⟨h, -⟩ | ⟨h, -⟩ | ⟨h, -⟩ <;> rw [h] <;> decide
      have n32 : A.1 (w + 3) i < 32 := by
        rcases a1 with ⟨h, -⟩ | ⟨h, -⟩ | ⟨h, -⟩ | ⟨h, -⟩ | ⟨h, -⟩ | ⟨h, -⟩ | ⟨h, -⟩ | ⟨h, -⟩ | ⟨h, -⟩ | ⟨h, -⟩ | ⟨h, -⟩ | ⟨h, -⟩ <;> rw [h] <;> decide
      have n31 : ¬ A.1 (w + 3) i = 31 := by
        rcases a1 with ⟨h, -⟩ | ⟨h, -⟩ | ⟨h, -⟩ | ⟨h, -⟩ | ⟨h, -⟩ | ⟨h, -⟩ | ⟨h, -⟩ | ⟨h, -⟩ | ⟨h, -⟩ | ⟨h, -⟩ | ⟨h, -⟩ | ⟨h, -⟩ <;> rw [h] <;> decide
      obtain ⟨h1, h2⟩ := t3 a2 n260
      obtain ⟨k, hk⟩ : ∃ k, ht i = k + 2 := ⟨ht i - 2, by omega⟩
      have hs0 := hst k (by omega)
      have hs1 := hst (k + 1) (by omega)
      have m1 : nI (k + 2) + (-1) = nI (k + 1) := pk_m1 (k + 1)
      obtain ⟨jv, ej, hj⟩ := ev_joined A2 a1 hs0.2 hs1.2
      obtain ⟨g, B3, ew, w1, hw⟩ := ev_works (B := B2) (k := k) (by omega) (by rw [hh, hk]) a1 hs0.2 hs1.2
      rw [ca, cb, if_neg n2, if_pos n32, if_neg n31, if_pos a2, ew, if_pos (show (2 : Int32) ≤ nI (ht i) from nI_le (a := 2) (by omega) (by omega)), hk, m1, nI_pred, fm_gd_t (nu_inb (by omega) (by omega)), fm_gd_t (nu_inb (by omega) (by omega)), nI_clamp (by omega), nI_clamp (by omega), hs0.1, hs1.1, ej]
      show ∃ xa xb, (if 0 < lg_cmp jv 1000000000000 then some (.inr (-9223372036854775808), A2) else if 0 ≤ lg_cmp jv (-1000000000000) then fm_gd (fm_inb (nI k) 64) (G_X3_valueOf_21 fa w (nI r) (nI (k + 1)) (nI i + 1) (fm_upL A2 (w + 6) k jv)) else some (.inr (-9223372036854775808), A2)) = some xa ∧ (if g = 0 then some (.inr 0, B3) else G_X10_goes_12 fb (nI r) (nI i + 1) B3) = some xb ∧ _
      obtain ⟨l1, l2⟩ := ev_le12 jv
      rcases hw with ⟨g1, z, hz, hzb, w2⟩ | ⟨g0, hz⟩
      · rcases hj with ⟨e1, e2⟩ | ⟨e1, -⟩
        · have ezj : z = jv := by rw [hz] at e1; exact Option.some.inj e1
          subst ezj
          rw [if_neg (show ¬ 0 < lg_cmp z 1000000000000 by rw [nu_cmpg, l1]; unfold ev_bd at hzb; omega), if_pos (show 0 ≤ lg_cmp z (-1000000000000) by rw [nu_cmpge, ← Int64.not_lt, l2]; unfold ev_bd at hzb; omega), fm_gd_t (nu_inb (by omega) (by omega)), g1, if_neg (show ¬ (1 : Int32) = 0 by decide), nI_1, show k + 1 = ht (i + 1) by omega]
          refine ih (i + 1) fa fb _ _ (by omega) (by omega) (by omega) (by omega) ?_ ?_ ?_ ?_ ?_
          · rw [fm_upL_1]; exact hA
          · intro q k hq
            rw [w1, fm_up_ne hq]
            exact hB q k hq
          · rw [w1, fm_up_get, show ht (i + 1) = k + 1 by omega]
          · rw [w2, (fm_upL_ne 92 (by omega)).2]; exact h92
          · exact ev_stp hst hzb k rfl (fun j => by rw [w2]) _ (by omega) (by omega) (by omega)
        · rw [hz] at e1; cases e1
      · rcases hj with ⟨e1, -⟩ | ⟨-, e2⟩
        · rw [hz] at e1; cases e1
        · rw [g0, if_pos rfl]
          unfold ev_bd at e2
          by_cases hc : 1000000000000 < jv.toInt
          · rw [if_pos (by rw [nu_cmpg, l1]; exact hc)]
            exact ⟨_, _, rfl, rfl, Or.inl ⟨rfl, rfl⟩⟩
          · rw [if_neg (by rw [nu_cmpg, l1]; exact hc), if_neg (by rw [nu_cmpge, ← Int64.not_lt, l2]; omega)]
            exact ⟨_, _, rfl, rfl, Or.inl ⟨rfl, rfl⟩⟩
