/-! two functions side by side -/
def rR {α β : Type} (I : fm_M → fm_M → Prop) (P : α → β → Prop) (oA : Option (α × fm_M)) (oB : Option (β × fm_M)) : Prop := ∃ a b A B, oA = some (a, A) ∧ oB = some (b, B) ∧ P a b ∧ I A B
theorem rR_ret {α β : Type} {I : fm_M → fm_M → Prop} {P : α → β → Prop} {a : α} {b : β} {A B : fm_M} (hI : I A B) (hP : P a b) : rR I P (some (a, A)) (some (b, B)) := ⟨a, b, A, B, rfl, rfl, hP, hI⟩
theorem rR_bd {α β γ δ : Type} {I J : fm_M → fm_M → Prop} {P : α → β → Prop} {Q : γ → δ → Prop} {oA : Option (α × fm_M)} {oB : Option (β × fm_M)} {kA : α → fm_M → Option (γ × fm_M)} {kB : β → fm_M → Option (δ × fm_M)} (h : rR I P oA oB) (k : ∀ a b A B, P a b → I A B → rR J Q (kA a A) (kB b B)) : rR J Q (fm_bd oA kA) (fm_bd oB kB) := by
  obtain ⟨a, b, A, B, rfl, rfl, hP, hI⟩ := h
  exact k a b A B hP hI
theorem rR_mono {α β : Type} {I J : fm_M → fm_M → Prop} {P Q : α → β → Prop} {oA : Option (α × fm_M)} {oB : Option (β × fm_M)} (h : rR I P oA oB) (hI : ∀ A B, I A B → J A B) (hP : ∀ a b, P a b → Q a b) : rR J Q oA oB := by
  obtain ⟨a, b, A, B, rfl, rfl, h1, h2⟩ := h
  exact rR_ret (hI _ _ h2) (hP _ _ h1)
theorem n10 : ¬ (1 : Int32) = 0 := by decide
/-- the same natural number, within a bound -/
def eqN (n : Nat) (a b : Int32) : Prop := ∃ v : Nat, v ≤ n ∧ a = nI v ∧ b = nI v
def eq01 (a b : Int32) : Prop := a = b ∧ (a = 0 ∨ a = 1)
theorem iv_t {A B : fm_M} {t nf nm kd km : Nat} (h : iv_all A B t nf nm kd km) : Int32.toNatClampNeg (A.1 0 1) = t := by
  have := fm_td h.2.2.2.1.1.1
  rw [h.1.1, nI_clamp (by omega)]
theorem iv_tt {A B : fm_M} {t nf nm kd km : Nat} (h : iv_all A B t nf nm kd km) : fm_isTd t = true := h.2.2.2.1.1.1
theorem iv_thr {A B : fm_M} {t nf nm kd km : Nat} (h : iv_all A B t nf nm kd km) (x : Int32) : iv_all A (fm_up B 76 0 x) t nf nm kd km := iv_cg h (fun _ _ _ => rfl) (fun q k z => fm_up_ne (by unfold iv_pB at z; omega))
theorem iv_dn {A B : fm_M} {t nf nm kd km : Nat} (h : iv_all A B t nf nm kd km) : rl_d A B 38 t 0 nf nm ∧ A.1 38 1 = md_damp B 0 := iv_d h.2.2.2.1 h.2.2.2.2.1 h.2.2.2.2.2.1 h.2.2.2.2.2.2.2.2.2 rfl (by omega)
theorem iv_fr {A B A2 B2 : fm_M} {t nf nm kd km : Nat} (h : iv_all A B t nf nm kd km) (fA : ∀ q k, q ≠ t + 15 → A2.1 q k = A.1 q k) (fB : ∀ q k, (q ≠ 76 ∨ k ≠ 32) → B2.1 q k = B.1 q k) : iv_all A2 B2 t nf nm kd km := by
  have := fm_td (iv_tt h)
  exact iv_cg h (fun q k z => fA q k (by unfold iv_pA at z; omega)) (fun q k z => fB q k (by unfold iv_pB at z; omega))
theorem iv_hum {A B : fm_M} {t nf nm kd km f : Nat} (h : iv_all A B t nf nm kd km) (hf : f < nf) (n : Int32) : rR (fun A B => iv_all A B t nf nm kd km) (eqN 99) (F_X7_humOf 38 t (nI f) n A) (F_X10_humOf 0 (nI f) n B) := by
  obtain ⟨h1, h2⟩ := iv_dn h
  obtain ⟨v, A2, B2, e1, e2, e3, e4⟩ := rl_hum (h1.h h2) hf n
  obtain ⟨k, hk, rfl⟩ := nI_of2 (M := 99) (n := 99) rfl (Int32.not_lt.mpr e3) e4
  exact ⟨_, _, A2, B2, e1, e2, ⟨k, hk, rfl, rfl⟩, iv_fr h (rl_frA (fr_X7_humOf 38 t (nI f) n A) e1) (rl_frB (fr_X10_humOf (nI 0) (nI f) n B) e2)⟩
theorem iv_humAll {A B : fm_M} {t nf nm kd km : Nat} (h : iv_all A B t nf nm kd km) (n : Int32) : rR (fun A B => iv_all A B t nf nm kd km) (eqN 792) (F_X7_humOfAll 38 t n A) (F_X10_humAll 0 n B) := by
  obtain ⟨h1, h2⟩ := iv_dn h
  obtain ⟨v, A2, B2, e1, e2, e3⟩ := rl_humAll (h1.h h2) h1.2.2.1.1 h1.2.2.1.2.1 n
  exact ⟨_, _, A2, B2, e1, e2, ⟨v, e3, rfl, rfl⟩, iv_fr h (rl_frA (fr_X7_humOfAll 38 t n A) e1) (rl_frB (fr_X10_humAll (nI 0) n B) e2)⟩
theorem iv_passes {A B : fm_M} {t nf nm kd km : Nat} (h : iv_all A B t nf nm kd km) (n s : Int32) : rR (fun A B => iv_all A B t nf nm kd km) eq01 (F_X7_passes 38 t n s A) (F_X10_passes 0 n s B) := by
  obtain ⟨h1, h2⟩ := iv_dn h
  obtain ⟨v, A2, B2, e1, e2, e3⟩ := rl_passes (h1.h h2) h1.2.2.1.2.2.2.2.2.1 n s
  exact ⟨_, _, A2, B2, e1, e2, ⟨rfl, e3⟩, iv_fr h (rl_frA (fr_X7_passes 38 t n s A) e1) (rl_frB (fr_X10_passes (nI 0) n s B) e2)⟩
theorem iv_isFork {A B : fm_M} {t nf nm kd km : Nat} (h : iv_all A B t nf nm kd km) (a : Int32) : (F_X9_isFork a A = some (0, A) ∧ F_X10_isFork a B = some (0, B)) ∨ ∃ f, f < nf ∧ f < 8 ∧ a = nI f ∧ F_X9_isFork a A = some (1, A) ∧ F_X10_isFork a B = some (1, B) := by
  obtain ⟨a1, a2, a3, a4, a5, a6, a7⟩ := h.2.2.2.1.1
  rw [F_X9_isFork, F_X10_isFork]
  by_cases ha : a < 0
  · rw [if_pos ha, if_pos ha]; exact Or.inl ⟨rfl, rfl⟩
  · obtain ⟨j, hj, rfl⟩ := nI_of ha
    rw [if_neg ha, if_neg ha, fm_lt, iv_t h, fm_gd_t a1, a4, fm_gd_t (by decide), ck_0, a5]
    by_cases hc : nf ≤ j
    · rw [if_pos (nI_le hc hj), if_pos (nI_le hc hj)]; exact Or.inl ⟨rfl, rfl⟩
    · rw [if_neg (nI_ge (by omega) (by omega)), if_neg (nI_ge (by omega) (by omega))]; exact Or.inr ⟨j, by omega, by omega, rfl, rfl, rfl⟩
theorem iv_isMotion {A B : fm_M} {t nf nm kd km : Nat} (h : iv_all A B t nf nm kd km) (a : Int32) : (F_X9_isMotion a A = some (0, A) ∧ F_X10_isMotion a B = some (0, B)) ∨ ∃ f, f < nm ∧ f < 10 ∧ a = nI f ∧ F_X9_isMotion a A = some (1, A) ∧ F_X10_isMotion a B = some (1, B) := by
  obtain ⟨a1, a2, a3, a4, a5, a6, a7⟩ := h.2.2.2.1.1
  rw [F_X9_isMotion, F_X10_isMotion]
  by_cases ha : a < 0
  · rw [if_pos ha, if_pos ha]; exact Or.inl ⟨rfl, rfl⟩
  · obtain ⟨j, hj, rfl⟩ := nI_of ha
    rw [if_neg ha, if_neg ha, fm_lt, iv_t h, fm_gd_t a1, a6, fm_gd_t (by decide), ck_1, a7]
    by_cases hc : nm ≤ j
    · rw [if_pos (nI_le hc hj), if_pos (nI_le hc hj)]; exact Or.inl ⟨rfl, rfl⟩
    · rw [if_neg (nI_ge (by omega) (by omega)), if_neg (nI_ge (by omega) (by omega))]; exact Or.inr ⟨j, by omega, by omega, rfl, rfl, rfl⟩
theorem iv_isNote (a : Int32) : (∀ M, F_X9_isNote a M = some (0, M) ∧ F_X10_isNote a M = some (0, M)) ∨ ((∃ z : Nat, 100 ≤ z ∧ z ≤ 999 ∧ a = nI z) ∧ ∀ M, F_X9_isNote a M = some (1, M) ∧ F_X10_isNote a M = some (1, M)) := by
  by_cases ha : a < 100
  · exact Or.inl fun M => by rw [F_X9_isNote, F_X10_isNote, if_pos ha]; exact ⟨rfl, rfl⟩
  · by_cases hb : 999 < a
    · exact Or.inl fun M => by rw [F_X9_isNote, F_X10_isNote, if_neg ha, if_pos hb]; exact ⟨rfl, rfl⟩
    · refine Or.inr ⟨?_, fun M => by rw [F_X9_isNote, F_X10_isNote, if_neg ha, if_neg hb]; exact ⟨rfl, rfl⟩⟩
      have h1 : ¬ a.toInt < 100 := fun z => ha (Int32.lt_iff_toInt_lt.mpr (by rw [show (100 : Int32).toInt = 100 from rfl]; exact z))
      have h2 : ¬ 999 < a.toInt := fun z => hb (Int32.lt_iff_toInt_lt.mpr (by rw [show (999 : Int32).toInt = 999 from rfl]; exact z))
      refine ⟨a.toInt.toNat, by omega, by omega, Int32.toInt_inj.mp ?_⟩
      rw [nI_toInt (by omega)]
      omega
abbrev pu {α : Type} (t nf nm kd km : Nat) (oA oB : Option (α × fm_M)) : Prop := rR (fun A B => iv_all A B t nf nm kd km) Eq oA oB
theorem pu_fault {A B : fm_M} {t nf nm kd km : Nat} (h : iv_all A B t nf nm kd km) (a1 : Int32) : pu t nf nm kd km (F_X9_fault a1 A) (F_X10_fault a1 B) := by
  have h0 := iv_thr h 0
  rw [F_X9_fault, F_X10_fault, fm_lt]
  by_cases c0 : a1 = 0
  · rw [if_pos c0, if_pos c0]; exact rR_ret h0 h0.2.2.1.1
  · rw [if_neg c0, if_neg c0]
    by_cases c1 : a1 = 1
    · rw [if_pos c1, if_pos c1]; exact rR_ret h0 h0.2.2.1.2
    · rw [if_neg c1, if_neg c1]; exact rR_ret h0 rfl
theorem rl_bit01 (x : Int32) (f : Nat) : rl_bit x f = 0 ∨ rl_bit x f = 1 := by
  unfold rl_bit
  obtain ⟨j, hj, e⟩ := pk_andE (x >>> (nI f &&& 31)) (m := 1) 1 rfl
  rw [e]
  rcases (show j = 0 ∨ j = 1 by omega) with rfl | rfl
  · exact Or.inl rfl
  · exact Or.inr rfl
theorem pu_fork {A B : fm_M} {t nf nm kd km : Nat} (h : iv_all A B t nf nm kd km) (a1 a2 : Int32) : pu t nf nm kd km (F_X9_fork a1 a2 A) (F_X10_fork a1 a2 B) := by
  have h0 := iv_thr h 0
  have ht := iv_tt h
  rw [F_X9_fork, F_X10_fork, fm_lt]
  generalize fm_up B 76 0 0 = B1 at *
  rcases iv_isFork h0 a1 with ⟨e1, e2⟩ | ⟨f, hf, hf8, rfl, e1, e2⟩
  · rw [e1, e2, fm_bd_s, fm_bd_s, if_pos rfl, if_pos rfl]; exact rR_ret h0 rfl
  · rw [e1, e2, fm_bd_s, fm_bd_s, if_neg n10, if_neg n10]
    obtain ⟨x1, x2, x3, x4, x5, x6, x7⟩ := h0.2.2.2.1.2.2.2.2.1 f hf
    have ic : Int32.toNatClampNeg (nI f) = f := nI_clamp (by omega)
    have b8 : fm_inb (nI f) 8 = true := nu_inb hf8 (by omega)
    have b16 : fm_inb (nI f) 16 = true := nu_inb (by omega) (by omega)
    have b184 : fm_inb (nI f) 184 = true := nu_inb (by omega) (by omega)
    by_cases c0 : a2 = 0
    · rw [if_pos c0, if_pos c0, fm_gd_t b8, fm_gd_t b184, ic]
      refine rR_ret h0 ?_
      have := h0.2.2.2.2.1.2.1 f hf
      simpa only [Nat.mul_zero, Nat.zero_add] using this
    rw [if_neg c0, if_neg c0]
    by_cases c1 : a2 = 1
    · rw [if_pos c1, if_pos c1, fm_lt, iv_t h0, fm_gd_t ht, fm_gd_t b8, fm_gd_t b16, ic]; exact rR_ret h0 x3
    rw [if_neg c1, if_neg c1]
    by_cases c2 : a2 = 2
    · rw [if_pos c2, if_pos c2, fm_lt, iv_t h0, fm_gd_t ht, fm_gd_t b8, fm_gd_t b16, ic]; exact rR_ret h0 x4
    rw [if_neg c2, if_neg c2]
    by_cases c3 : a2 = 3
    · rw [if_pos c3, if_pos c3, fm_lt, iv_t h0, fm_gd_t ht, fm_gd_t b8, fm_gd_t b16, ic]; exact rR_ret h0 x5
    rw [if_neg c3, if_neg c3]
    by_cases c4 : a2 = 4
    · rw [if_pos c4, if_pos c4, fm_lt, iv_t h0, fm_gd_t ht, F_X9_bitOf, fm_bd_s, F_X10_isCracked, h0.2.2.2.2.2.2.2.2.2.1, if_neg (by decide), fm_gd_t (by decide), ck_9, h0.2.2.2.1.2.2.1.2.2.2.2.1]
      rcases rl_bit01 (B1.1 78 9) f with z | z
      · rw [show (B1.1 78 9 >>> (nI f &&& 31)) &&& 1 = 0 from z, if_neg (by decide), fm_bd_s, if_pos rfl]; exact rR_ret h0 rfl
      · rw [show (B1.1 78 9 >>> (nI f &&& 31)) &&& 1 = 1 from z, if_pos rfl, fm_bd_s, if_neg n10]; exact rR_ret h0 rfl
    rw [if_neg c4, if_neg c4]
    by_cases c5 : a2 = 5
    · rw [if_pos c5, if_pos c5, F_X9_bitOf, fm_bd_s, fm_gd_t (by decide), ck_0, h0.2.2.2.2.1.1.2.2.2]; exact rR_ret h0 rfl
    rw [if_neg c5, if_neg c5]
    exact rR_ret h0 rfl
theorem pu_wet {A B : fm_M} {t nf nm kd km : Nat} (h : iv_all A B t nf nm kd km) (a1 : Int32) : pu t nf nm kd km (F_X9_wet a1 A) (F_X10_wet a1 B) := by
  have h0 := iv_thr h 0
  rw [F_X9_wet, F_X10_wet]
  simp only [fm_lt]
  generalize fm_up B 76 0 0 = B1 at *
  by_cases ha : a1 < 0
  · rw [if_pos ha, if_pos ha]; exact rR_ret h0 rfl
  rw [if_neg ha, if_neg ha]
  by_cases hb : a1 ≤ 9999
  · obtain ⟨j, hj, rfl⟩ := nI_of2 (M := 9999) (n := 9999) rfl ha hb
    have hw := h0.2.2.2.1.2.1.1
    obtain ⟨nw, w1, w2, w3, w4⟩ := id hw
    rw [if_pos hb, if_neg (Int32.not_lt.mpr hb), iv_t h0, fm_gd_t (iv_tt h), rl_wetOn (iv_tt h) hw (by omega), fm_bd_s, md_wet_ok w1 w3 (by omega), fm_bd_s]
    exact rR_ret h0 rfl
  · rw [if_neg hb, if_pos (Int32.not_le.mp hb)]; exact rR_ret h0 rfl
theorem pu_beats {A B : fm_M} {t nf nm kd km : Nat} (h : iv_all A B t nf nm kd km) (a1 a2 : Int32) : pu t nf nm kd km (F_X9_beats a1 a2 A) (F_X10_beats a1 a2 B) := by
  have h0 := iv_thr h 0
  rw [F_X9_beats, F_X10_beats, fm_lt]
  generalize fm_up B 76 0 0 = B1 at *
  rcases iv_isFork h0 a1 with ⟨e1, e2⟩ | ⟨f, hf, hf8, rfl, e1, e2⟩
  · rw [e1, e2, fm_bd_s, fm_bd_s, if_pos rfl, if_pos rfl]; exact rR_ret h0 rfl
  rw [e1, e2, fm_bd_s, fm_bd_s, if_neg n10, if_neg n10]
  rcases iv_isNote a2 with e3 | ⟨-, e3⟩
  · rw [(e3 A).1, (e3 B1).2, fm_bd_s, fm_bd_s, if_pos rfl, if_pos rfl]; exact rR_ret h0 rfl
  rw [(e3 A).1, (e3 B1).2, fm_bd_s, fm_bd_s, if_neg n10, if_neg n10]
  obtain ⟨h1, h2⟩ := iv_dn h0
  have hp := h0.2.2.2.2.1.2.1 f hf
  simp only [Nat.mul_zero, Nat.zero_add] at hp
  rw [F_X7_beating, fm_gd_t (by decide), F_X7_soundOf, fm_gd_t (by decide), fm_gd_t (nu_inb hf8 (by omega)), nI_clamp (by omega), fm_bd_s, cl_beats, fm_bd_s, fm_bd_s, fm_gd_t (nu_inb (by omega) (by omega)), show F_X10_beatsOf 0 (B1.1 98 f) a2 B1 = _ from md_beats_ok h1.1.2.2.1 (B1.1 98 f) a2, fm_bd_s, hp, h2]
  exact rR_ret h0 rfl
theorem pu_hums {A B : fm_M} {t nf nm kd km : Nat} (h : iv_all A B t nf nm kd km) (a1 a2 : Int32) : pu t nf nm kd km (F_X9_hums a1 a2 A) (F_X10_hums a1 a2 B) := by
  have h0 := iv_thr h 0
  rw [F_X9_hums, F_X10_hums, fm_lt]
  generalize fm_up B 76 0 0 = B1 at *
  rcases iv_isFork h0 a1 with ⟨e1, e2⟩ | ⟨f, hf, hf8, rfl, e1, e2⟩
  · rw [e1, e2, fm_bd_s, fm_bd_s, if_pos rfl, if_pos rfl]; exact rR_ret h0 rfl
  rw [e1, e2, fm_bd_s, fm_bd_s, if_neg n10, if_neg n10]
  rcases iv_isNote a2 with e3 | ⟨-, e3⟩
  · rw [(e3 A).1, (e3 B1).2, fm_bd_s, fm_bd_s, if_pos rfl, if_pos rfl]; exact rR_ret h0 rfl
  rw [(e3 A).1, (e3 B1).2, fm_bd_s, fm_bd_s, if_neg n10, if_neg n10, fm_lt, iv_t h0, fm_gd_t (iv_tt h)]
  exact rR_bd (iv_hum h0 hf a2) (fun a b A B hP hI => rR_ret hI (by obtain ⟨v, -, rfl, rfl⟩ := hP; rfl))
