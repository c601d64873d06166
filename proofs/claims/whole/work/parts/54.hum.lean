/-! a law in class and reference; how loud a fork hums -/
def ev_law (A B : fm_M) (w r : Nat) : Prop := ∃ (s e : Nat) (ht : Nat → Nat), A.1 (w + 1) r = nI s ∧ A.1 (w + 2) r = nI e ∧ B.1 88 r = nI s ∧ B.1 89 r = nI e ∧ s ≤ 64 ∧ e ≤ 64 ∧ (s < e → (∀ i, s ≤ i → i < e → ev_tok A B w i) ∧ ev_ht B ht s e)
theorem ev_law_cg {A B A2 B2 : fm_M} {w r : Nat} (h : ev_law A B w r) (hA : ∀ q k, w + 1 ≤ q → q ≤ w + 4 → A2.1 q k = A.1 q k) (hB : ∀ q k, 88 ≤ q → q ≤ 91 → B2.1 q k = B.1 q k) : ev_law A2 B2 w r := by
  obtain ⟨s, e, ht, h1, h2, h3, h4, h5, h6, h7⟩ := h
  refine ⟨s, e, ht, by rw [hA _ _ (by omega) (by omega)]; exact h1, by rw [hA _ _ (by omega) (by omega)]; exact h2, by rw [hB _ _ (by omega) (by omega)]; exact h3, by rw [hB _ _ (by omega) (by omega)]; exact h4, h5, h6, fun hs => ?_⟩
  obtain ⟨k1, k2, k3, k4⟩ := h7 hs
  refine ⟨fun i a b => ?_, k2, k3, fun i a b => ?_⟩
  · have := k1 i a b
    unfold ev_tok at this ⊢
    rw [hA (w + 3) i (by omega) (by omega), hA (w + 4) i (by omega) (by omega), hB 90 i (by omega) (by omega), hB 91 i (by omega) (by omega)]
    exact this
  · rw [hB 90 i (by omega) (by omega), hB 91 i (by omega) (by omega)]
    exact k4 i a b
theorem ev_val {A B : fm_M} {w r : Nat} (hw : fm_isLw w = true) (hr : r < 3) (hl : ev_law A B w r) :
    (F_X3_has w (nI r) A = some (0, A) ∧ F_X10_hasLaw (nI r) B = some (0, B)) ∨
    (F_X3_has w (nI r) A = some (1, A) ∧ F_X10_hasLaw (nI r) B = some (1, B) ∧ ((∀ j, j < 7 → (A.1 (w + 5) j).toInt64 = B.2 92 j) → ∃ v A2 g B2, F_X3_valueOf w (nI r) A = some (v, A2) ∧ F_X10_goes (nI r) B = some (g, B2) ∧ ((v = -9223372036854775808 ∧ g = 0) ∨ (g = 1 ∧ v = B2.2 93 0 ∧ ev_bd v)))) := by
  obtain ⟨s, e, ht, h1, h2, h3, h4, h5, h6, h7⟩ := hl
  have ehas : F_X3_has w (nI r) A = if nI e ≤ nI s then some (0, A) else some (1, A) := by
    rw [F_X3_has, fm_gd_t hw, if_neg (nI_pos (by omega)), if_neg (show ¬ (3 : Int32) ≤ nI r from nI_ge (a := r) (b := 3) hr (by omega)), fm_gd_t (nu_inb hr (by omega)), fm_gd_t (nu_inb hr (by omega)), nI_clamp (by omega), h1, h2]
  have emas : F_X10_hasLaw (nI r) B = if nI e ≤ nI s then some (0, B) else some (1, B) := by
    rw [F_X10_hasLaw, fm_gd_t (nu_inb (by omega) (by omega)), fm_gd_t (nu_inb (by omega) (by omega)), nI_clamp (by omega), h3, h4]
  by_cases hse : s < e
  · refine Or.inr ⟨by rw [ehas, if_neg (nI_ge hse (by omega))], by rw [emas, if_neg (nI_ge hse (by omega))], fun hnm => ?_⟩
    obtain ⟨k1, k2⟩ := h7 hse
    have e1 : F_X3_has w (nI r) A = some (1, A) := by rw [ehas, if_neg (nI_ge hse (by omega))]
    obtain ⟨xa, xb, ea, eb, hx⟩ := ev_loop (A := A) (B := B) (w := w) (s := s) hr h6 h2 h4 k1 k2 hnm (e - s) s fm_fuel fm_fuel A (fm_up B 76 32 0) (by omega) (Nat.le_refl _) (by unfold fm_fuel; omega) (by unfold fm_fuel; omega) rfl (fun q k hq => fm_up_ne hq) (by rw [fm_up_get, k2.1]; rfl) rfl (by intro j hj; rw [k2.1] at hj; omega)
    rw [k2.1] at ea
    have va : F_X3_valueOf w (nI r) A = fm_bs (some xa) (fun w25 M26 => if w25.1 = 1 then fm_gd (fm_inb 0 64) (some ((M26.2 (w + 6) (Int32.toNatClampNeg 0)), M26)) else some ((-9223372036854775808), M26)) (fun r28 M => some (r28, M)) := by
      rw [F_X3_valueOf, fm_gd_t hw, e1, fm_bd_s, if_neg (show ¬ (1 : Int32) = 0 by decide), fm_gd_t (nu_inb hr (by omega)), fm_lt, nI_clamp (by omega), h1, ← ea]
      rfl
    have vb : F_X10_goes (nI r) B = fm_bs (some xb) (fun w16 M17 => some (1, M17)) (fun r18 M => some (r18, M)) := by
      rw [F_X10_goes, fm_lt, fm_gd_t (nu_inb (by omega) (by omega)), fm_lt, nI_clamp (by omega), fm_up_ne (Or.inl (by omega)), h3, ← eb]
    rcases xa with ⟨xa, A2⟩
    rcases xb with ⟨xb, B2⟩
    rcases hx with ⟨q1, q2⟩ | ⟨q1, q2, q3, q4⟩
    · simp only at q1 q2
      subst q1; subst q2
      exact ⟨_, A2, _, B2, va, vb, Or.inl ⟨rfl, rfl⟩⟩
    · simp only at q1 q2 q3 q4
      subst q1; subst q2
      refine ⟨A2.2 (w + 6) 0, A2, 1, B2, ?_, vb, Or.inr ⟨rfl, q3, by rw [q3]; exact q4⟩⟩
      rw [va]
      show (if (1 : Int32) = 1 then fm_gd (fm_inb 0 64) (some ((A2.2 (w + 6) (Int32.toNatClampNeg 0)), A2)) else some ((-9223372036854775808), A2)) = _
      rw [if_pos rfl, fm_gd_t (by decide)]
      rfl
  · exact Or.inl ⟨by rw [ehas, if_pos (nI_le (by omega) (by omega))], by rw [emas, if_pos (nI_le (by omega) (by omega))]⟩
theorem ck_0 : Int32.toNatClampNeg 0 = 0 := rfl
theorem ck_1 : Int32.toNatClampNeg 1 = 1 := rfl
theorem ck_2 : Int32.toNatClampNeg 2 = 2 := rfl
theorem ck_3 : Int32.toNatClampNeg 3 = 3 := rfl
theorem ck_4 : Int32.toNatClampNeg 4 = 4 := rfl
theorem ck_5 : Int32.toNatClampNeg 5 = 5 := rfl
theorem ck_6 : Int32.toNatClampNeg 6 = 6 := rfl
theorem ck_7 : Int32.toNatClampNeg 7 = 7 := rfl
theorem ck_8 : Int32.toNatClampNeg 8 = 8 := rfl
theorem ck_9 : Int32.toNatClampNeg 9 = 9 := rfl
theorem ck_10 : Int32.toNatClampNeg 10 = 10 := rfl
theorem ck_11 : Int32.toNatClampNeg 11 = 11 := rfl
theorem ck_12 : Int32.toNatClampNeg 12 = 12 := rfl
theorem ck_13 : Int32.toNatClampNeg 13 = 13 := rfl
theorem ck_14 : Int32.toNatClampNeg 14 = 14 := rfl
theorem ck_15 : Int32.toNatClampNeg 15 = 15 := rfl
theorem ck_16 : Int32.toNatClampNeg 16 = 16 := rfl
theorem ck_17 : Int32.toNatClampNeg 17 = 17 := rfl
theorem ck_18 : Int32.toNatClampNeg 18 = 18 := rfl
theorem ck_19 : Int32.toNatClampNeg 19 = 19 := rfl
/-! the reference's own words of a day -/
def md_wet (B : fm_M) (d : Int32) : Int32 := if B.1 78 3 = 0 then 0 else B.1 87 (i_rem d (B.1 78 3)).toNatClampNeg
def md_damp (B : fm_M) (c : Nat) : Int32 := if B.1 76 43 = 1 then 0 else if B.1 76 45 = -1 then md_wet B (B.1 94 c) else B.1 76 45
def md_width (B : fm_M) (f : Nat) : Int32 := if nI f = B.1 76 46 then B.1 76 47 else B.1 81 f
/-- the days and wets are such that they can be asked for -/
def md_ok (B : fm_M) (c : Nat) : Prop := c < 23 ∧ (∃ nw : Nat, nw ≤ 8 ∧ B.1 78 3 = nI nw) ∧ ∃ dd : Nat, dd < 100000 ∧ B.1 94 c = nI dd
theorem md_wet_ok {B : fm_M} {nw dd : Nat} (h1 : nw ≤ 8) (h2 : B.1 78 3 = nI nw) (h3 : dd < 100000) : F_X10_wetAt (nI dd) B = some (md_wet B (nI dd), B) := by
  rw [F_X10_wetAt, fm_gd_t (by decide), show Int32.toNatClampNeg 3 = 3 from rfl]
  unfold md_wet
  by_cases h0 : B.1 78 3 = 0
  · rw [if_pos h0, if_pos h0]
  · have hn : nw ≠ 0 := fun z => h0 (by rw [h2, z]; rfl)
    have hr : i_rem (nI dd) (B.1 78 3) = nI (dd % nw) := by unfold i_rem; rw [h2, pk_rem (by omega) (by omega) (by omega)]
    have hm : dd % nw < nw := Nat.mod_lt _ (by omega)
    rw [if_neg h0, if_neg h0, fm_gd_t (by decide), fm_gd_t (show fm_nz (B.1 78 3) = true from decide_eq_true h0), hr, fm_gd_t (nu_inb (by omega) (by omega))]
theorem md_damp_ok {B : fm_M} {c : Nat} (h : md_ok B c) : F_X10_dampIn (nI c) B = some (md_damp B c, B) := by
  obtain ⟨h1, ⟨nw, h2, h3⟩, dd, h4, h5⟩ := h
  rw [F_X10_dampIn]
  unfold md_damp
  by_cases a : B.1 76 43 = 1
  · rw [if_pos a, if_pos a]
  · rw [if_neg a, if_neg a]
    by_cases b : B.1 76 45 = -1
    · rw [if_pos b, if_pos b, fm_gd_t (nu_inb h1 (by omega)), nI_clamp (by omega), h5, md_wet_ok h2 h3 h4, fm_bd_s]
    · rw [if_neg b, if_neg b]
theorem md_wp_ok {B : fm_M} {c : Nat} (h : md_ok B c) (x : Int32) : F_X10_wetPitch (nI c) x B = some (i_max 1 (x - md_damp B c), B) := by
  rw [F_X10_wetPitch, md_damp_ok h, fm_bd_s]
def md_beats (s n : Int32) : Int32 := i_min (i_abs (s - n)) (i_min (i_abs (2 * s - n)) (i_abs (s - 2 * n)))
theorem md_beats_ok {B : fm_M} {c : Nat} (h : md_ok B c) (x n : Int32) : F_X10_beatsOf (nI c) x n B = some (md_beats (i_max 1 (x - md_damp B c)) n, B) := by
  rw [F_X10_beatsOf, md_wp_ok h, fm_bd_s]
  rfl
theorem i_min_assoc (a b c : Int32) : i_min (i_min a b) c = i_min a (i_min b c) := by
  unfold i_min
  by_cases h1 : b < a
  · rw [if_pos h1]
    by_cases h2 : c < b
    · rw [if_pos h2, if_pos (show c < a from Int32.lt_iff_toInt_lt.mpr (by have := Int32.lt_iff_toInt_lt.mp h1; have := Int32.lt_iff_toInt_lt.mp h2; omega))]
    · rw [if_neg h2, if_pos h1]
  · rw [if_neg h1]
    by_cases h2 : c < b
    · rw [if_pos h2]
    · rw [if_neg h2, if_neg h1, if_neg (fun h3 => ?_)]
      have a1 := Int32.lt_iff_toInt_lt.mp h3
      have a2 : ¬ b.toInt < a.toInt := fun z => h1 (Int32.lt_iff_toInt_lt.mpr z)
      have a3 : ¬ c.toInt < b.toInt := fun z => h2 (Int32.lt_iff_toInt_lt.mpr z)
      omega
theorem cl_beats (s n : Int32) (M : fm_M) : F_X7_beatsOf s n M = some (md_beats s n, M) := by
  rw [F_X7_beatsOf, fm_lt, i_min_assoc]
  rfl
theorem md_width_ok {B : fm_M} {f : Nat} (hf : f < 8) : F_X10_widthIn (nI f) B = some (md_width B f, B) := by
  rw [F_X10_widthIn]
  unfold md_width
  by_cases a : nI f = B.1 76 46
  · rw [if_pos a, if_pos a]
  · rw [if_neg a, if_neg a, fm_gd_t (nu_inb (by omega) (by omega)), nI_clamp (by omega)]
/-- the reference's names for a law, laid one by one -/
def md_nm (B : fm_M) (c : Nat) (a b d l e : Int32) : fm_M := fm_upL (fm_upL (fm_upL (fm_upL (fm_upL (fm_upL (fm_upL B 92 0 a.toInt64) 92 1 b.toInt64) 92 2 d.toInt64) 92 3 l.toInt64) 92 4 e.toInt64) 92 5 (md_damp B c).toInt64) 92 6 (B.1 94 c).toInt64
theorem md_calls_ok {B : fm_M} {c : Nat} (h : md_ok B c) (a b d l e : Int32) : F_X10_calls (nI c) a b d l e B = some ((), md_nm B c a b d l e) := by
  rw [F_X10_calls, fm_gd_t (by decide), fm_lt, fm_gd_t (by decide), fm_lt, fm_gd_t (by decide), fm_lt, fm_gd_t (by decide), fm_lt, fm_gd_t (by decide), fm_lt, ck_0, ck_1, ck_2, ck_3, ck_4, ck_5, ck_6]
  rw [md_damp_ok (B := fm_upL (fm_upL (fm_upL (fm_upL (fm_upL B 92 0 a.toInt64) 92 1 b.toInt64) 92 2 d.toInt64) 92 3 l.toInt64) 92 4 e.toInt64) h, fm_bd_s, fm_gd_t (by decide), fm_lt, fm_gd_t (nu_inb h.1 (by omega)), fm_gd_t (by decide), fm_lt, nI_clamp (by have := h.1; omega)]
  rfl
