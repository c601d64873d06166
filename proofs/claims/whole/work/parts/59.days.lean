/-! a whole day, and days; class and reference -/
theorem fm_gd1 {β : Type} {o : Option β} : fm_gd true o = o := rfl
theorem rl_bit0 (f : Nat) : ¬ rl_bit 0 f = 1 := by
  unfold rl_bit
  rw [show (0 : Int32) >>> (nI f &&& 31) = 0 from Int32.zero_shiftRight]
  decide
def md_k (c q k : Nat) : Prop := (q = 76 ∧ k = 32) ∨ ((q = 94 ∨ q = 97) ∧ k = c) ∨ (q = 98 ∧ 8 * c ≤ k ∧ k < 8 * c + 8) ∨ ((q = 100 ∨ q = 101) ∧ 10 * c ≤ k ∧ k < 10 * c + 10)
theorem rl_st3 {p : Nat} (h : fm_isSt p = true) : p = 38 ∨ p = 45 ∨ p = 52 := by
  simp only [fm_isSt, Bool.or_eq_true, beq_iff_eq] at h
  omega
/-- touched by nobody, and a day later -/
theorem rl_d_day {A B : fm_M} {p t c nf nm dd : Nat} (h : rl_d A B p t c nf nm) (hdd : B.1 94 c = nI dd) (hd2 : dd + 1 < 100000) :
    rl_d (fm_up (fm_up A p 4 0) p 0 (nI (dd + 1))) (fm_up (fm_up B 97 c 0) 94 c (nI (dd + 1))) p t c nf nm := by
  obtain ⟨⟨hp, ht, ⟨o1, ⟨nw, o2, o3⟩, -, -, -⟩, hnf, hlw, hday⟩, hfk, ⟨c1, c2, c3, c4, c5, c6, c7, c8⟩, hmo⟩ := h
  have hp3 := rl_st3 hp
  have ht2 := fm_td ht
  have hA : ∀ q k, (q ≠ p ∨ (k ≠ 4 ∧ k ≠ 0)) → (fm_up (fm_up A p 4 0) p 0 (nI (dd + 1))).1 q k = A.1 q k := fun q k z => by rw [fm_up_ne (by omega), fm_up_ne (by omega)]
  have hB : ∀ q k, (q ≠ 97 ∧ q ≠ 94) → (fm_up (fm_up B 97 c 0) 94 c (nI (dd + 1))).1 q k = B.1 q k := fun q k z => by rw [fm_up_ne (by omega), fm_up_ne (by omega)]
  have a0 : (fm_up (fm_up A p 4 0) p 0 (nI (dd + 1))).1 p 0 = nI (dd + 1) := fm_up_get
  have a4 : (fm_up (fm_up A p 4 0) p 0 (nI (dd + 1))).1 p 4 = 0 := by rw [fm_up_ne (by omega), fm_up_get]
  have b94 : (fm_up (fm_up B 97 c 0) 94 c (nI (dd + 1))).1 94 c = nI (dd + 1) := fm_up_get
  have b97 : (fm_up (fm_up B 97 c 0) 94 c (nI (dd + 1))).1 97 c = 0 := by rw [fm_up_ne (by omega), fm_up_get]
  generalize fm_up (fm_up A p 4 0) p 0 (nI (dd + 1)) = A2 at *
  generalize fm_up (fm_up B 97 c 0) 94 c (nI (dd + 1)) = B2 at *
  refine ⟨⟨hp, ht, ⟨o1, ⟨nw, o2, by rw [hB _ _ (by omega)]; exact o3⟩, dd + 1, hd2, b94⟩, hnf, fun r hr => ev_law_cg (hlw r hr) (fun q k h1 h2 => hA q k (by omega)) (fun q k _ _ => hB q k (by omega)), by rw [a0, b94]⟩, fun f hf => ?_, ?_, fun m hmm => ?_⟩
  · have hw : md_width B2 f = md_width B f := by
      unfold md_width
      simp (disch := omega) only [hB]
    obtain ⟨y1, y2, y3, y4, y5, y6, y7⟩ := hfk f hf
    simp (disch := omega) only [hA, hB, hw, a4, b97]
    refine ⟨y1, y2, y3, y4, y5, ⟨fun z => absurd z (rl_bit0 f), fun z => absurd z.2 (rl_bit0 f)⟩, y7⟩
  · simp (disch := omega) only [hA, hB]
    exact ⟨c1, c2, c3, c4, c5, c6, c7, c8⟩
  · simp (disch := omega) only [hA, hB]
    exact hmo m hmm
theorem rl_day {A B : fm_M} {p t c nf nm dd : Nat} (h : rl_d A B p t c nf nm) (hv : rl_v A p nm) (hb : rl_pb A p t nf) (hd : A.1 p 1 = md_damp B c) (hdd : B.1 94 c = nI dd) (hd2 : dd + 1 < 100000) :
    ∃ A2 B2, F_X7_passDay p t A = some ((), A2) ∧ F_X10_dayGoes (nI c) B = some ((), B2) ∧ rl_d A2 B2 p t c nf nm ∧ rl_v A2 p nm ∧ rl_pb A2 p t nf ∧ B2.1 94 c = nI (dd + 1) ∧ B2.1 97 c = 0 ∧ A2.1 p 4 = 0 ∧ (∀ q k, ¬ md_k c q k → B2.1 q k = B.1 q k) := by
  obtain ⟨⟨hp, ht, hok, hnf, hlw, hday⟩, hfk, ⟨c1, c2, c3, c4, c5, c6, c7, c8⟩, hmo⟩ := id h
  have hp3 := rl_st3 hp
  have ht2 := fm_td ht
  have hc := hok.1
  obtain ⟨A1, B1, e1, e2, e3, e4, e5, e6, fA⟩ := rl_strikeLoop nm 0 fm_fuel fm_fuel A B h hd (by omega) (by unfold fm_fuel; omega) (by unfold fm_fuel; omega)
  have hb1 : rl_pb A1 p t nf := by
    refine ⟨fun f hf => ?_, ?_⟩
    · rw [fA _ _ (by omega) (by omega) (by omega)]; exact hb.1 f hf
    · rw [fA _ _ (by omega) (by omega) (by omega)]; exact hb.2
  obtain ⟨x, A2, B2, g1, g2, g3, g4, g5, gA⟩ := rl_rustLoop nf 0 fm_fuel fm_fuel A1 B1 e3 hb1 e4 (by omega) (by unfold fm_fuel; omega) (by unfold fm_fuel; omega)
  have hv1 := e6 hv
  have hdd2 : B2.1 94 c = nI dd := by
    rw [g5 _ _ (by unfold md_k2; omega), e5 _ _ (by unfold md_k1; omega)]; exact hdd
  have hda : A2.1 p 0 = nI dd := by rw [← hdd2]; exact g3.1.2.2.2.2.2
  refine ⟨fm_up (fm_up A2 p 4 0) p 0 (nI (dd + 1)), fm_up (fm_up B2 97 c 0) 94 c (nI (dd + 1)), ?_, ?_, rl_d_day g3 hdd2 hd2, ?_, ?_, fm_up_get, by rw [fm_up_ne (by omega), fm_up_get], by rw [fm_up_ne (by omega), fm_up_get], fun q k hq => ?_⟩
  · rw [F_X7_passDay, fm_gd_t hp, fm_gd_t ht, show G_X7_passDay_2 fm_fuel p t 0 A = some (nI nm, A1) from e1, fm_bd_s, show G_X7_passDay_89 fm_fuel p t 0 A1 = some (x, A2) from g1, fm_bd_s, fm_lt, fm_lt, fm_up_ne (by omega), hda, nI_1]
  · rw [F_X10_dayGoes, show G_X10_dayGoes_2 fm_fuel (nI c) 0 B = some (nI nm, B1) from e2, fm_bd_s, show G_X10_dayGoes_58 fm_fuel (nI c) 0 B1 = some (x, B2) from g2, fm_bd_s, fm_gd_t (nu_inb hc (by omega)), fm_lt, fm_gd_t (nu_inb hc (by omega)), fm_gd_t (nu_inb hc (by omega)), fm_lt, nI_clamp (by omega), fm_up_ne (by omega), hdd2, nI_1]
  · intro m hm
    simp (disch := omega) only [fm_up_ne, gA]
    exact hv1 m hm
  · refine ⟨fun f hf => ?_, ?_⟩
    · simp (disch := omega) only [fm_up_ne]; exact g4.1 f hf
    · simp (disch := omega) only [fm_up_ne]; exact g4.2
  · unfold md_k at hq
    rw [fm_up_ne (by omega), fm_up_ne (by omega), g5 _ _ (by unfold md_k2; omega), e5 _ _ (by unfold md_k1; omega)]
/-- the wets -/
def rl_w (A B : fm_M) (t : Nat) : Prop := ∃ nw : Nat, nw ≤ 8 ∧ A.1 t 11 = nI nw ∧ B.1 78 3 = nI nw ∧ ∀ k, k < nw → A.1 (t + 9) k = B.1 87 k
theorem rl_wetOn {A B : fm_M} {t dd : Nat} (ht : fm_isTd t = true) (h : rl_w A B t) (hd : dd < 100000) : F_X8_wetOn t (nI dd) A = some (md_wet B (nI dd), A) := by
  obtain ⟨nw, h1, h2, h3, h4⟩ := h
  unfold md_wet
  rw [F_X8_wetOn, fm_gd_t ht, h2, h3]
  by_cases h0 : nw = 0
  · subst h0
    rw [if_pos (by decide), if_pos (by decide)]
  · have hm : dd % nw < nw := Nat.mod_lt _ (by omega)
    have hr : i_rem (nI dd) (nI nw) = nI (dd % nw) := by unfold i_rem; rw [pk_rem (by omega) (by omega) (by omega)]
    rw [if_neg (show ¬ nI nw < 1 from nI_nlt (b := 1) (by omega) (by omega)), if_neg (show ¬ (8 : Int32) < nI nw from nI_nlt (a := 8) (by omega) (by omega)), if_pos (nI_pos' (by omega)), fm_gd_t (show fm_nz (nI nw) = true from decide_eq_true (nI_ne0 (by omega) (by omega))), hr, fm_gd_t (nu_inb (by omega) (by omega)), if_neg (nI_ne0 (by omega) (by omega)), nI_clamp (by omega), h4 _ hm]
