/-! the best order: a day, where some motions are never struck by the class -/
theorem rl_h_q {A B A2 B2 : fm_M} {t nf : Nat} (h : rl_h A B 45 t 1 nf) (hA : ∀ q k, q ≠ 46 → q ≠ t + 15 → q ≤ 47 → A2.1 q k = A.1 q k) (hB : ∀ q k, q ≠ 98 → (q ≠ 76 ∨ k ≠ 32) → q ≤ 97 → B2.1 q k = B.1 q k) (hp : ∀ f, f < nf → A2.1 46 f = B2.1 98 (8 + f)) : rl_h A2 B2 45 t 1 nf := by
  obtain ⟨hp0, ht, ⟨hc, ⟨nw, o2, o3⟩, dd, o4, o5⟩, hnf, hlw, hday, hdmp, hfk⟩ := h
  have ht2 := fm_td ht
  have hw : ∀ f, md_width B2 f = md_width B f := fun f => by
    unfold md_width
    rw [hB 76 46 (by omega) (by omega) (by omega), hB 76 47 (by omega) (by omega) (by omega), hB 81 f (by omega) (by omega) (by omega)]
  have hd : md_damp B2 1 = md_damp B 1 := by
    unfold md_damp md_wet
    rw [hB 76 43 (by omega) (by omega) (by omega), hB 76 45 (by omega) (by omega) (by omega), hB 78 3 (by omega) (by omega) (by omega), hB 94 1 (by omega) (by omega) (by omega), hB 87 _ (by omega) (by omega) (by omega)]
  refine ⟨hp0, ht, ⟨hc, ⟨nw, o2, by rw [hB _ _ (by omega) (by omega) (by omega)]; exact o3⟩, dd, o4, by rw [hB _ _ (by omega) (by omega) (by omega)]; exact o5⟩, hnf, fun r hr => ev_law_cg (hlw r hr) (fun q k h1 h2 => hA q k (by omega) (by omega) (by omega)) (fun q k h1 h2 => hB q k (by omega) (by omega) (by omega)), by rw [hA _ _ (by omega) (by omega) (by omega), hB _ _ (by omega) (by omega) (by omega)]; exact hday, by rw [hd, hA 45 1 (by omega) (by omega) (by omega)]; exact hdmp, fun f hf => ?_⟩
  obtain ⟨-, f2, f3, f4, f5, f6, f7⟩ := hfk f hf
  refine ⟨hp f hf, by rw [hw, hA (45 + 2) f (by omega) (by omega) (by omega)]; exact f2, ?_, ?_, ?_, ?_, ?_⟩
  · rw [hA (t + 4) f (by omega) (by omega) (by omega), hB 82 f (by omega) (by omega) (by omega)]; exact f3
  · rw [hB 82 f (by omega) (by omega) (by omega)]; exact f4
  · rw [hA 45 6 (by omega) (by omega) (by omega), hB 76 43 (by omega) (by omega) (by omega), hB 76 44 (by omega) (by omega) (by omega)]; exact f5
  · rw [hA 45 4 (by omega) (by omega) (by omega), hB 76 43 (by omega) (by omega) (by omega), hB 97 1 (by omega) (by omega) (by omega)]; exact f6
  · rw [hA 45 5 (by omega) (by omega) (by omega), hB 76 43 (by omega) (by omega) (by omega), hB 78 9 (by omega) (by omega) (by omega)]; exact f7
/-- the fork's part of the memory is the same -/
theorem rl_h_r {A B A2 B2 : fm_M} {t nf : Nat} (h : rl_h A B 45 t 1 nf) (hA : ∀ q k, q ≠ t + 15 → q ≤ 47 → A2.1 q k = A.1 q k) (hB : ∀ q k, (q ≠ 76 ∨ k ≠ 32) → q ≤ 98 → B2.1 q k = B.1 q k) : rl_h A2 B2 45 t 1 nf := by
  have ht := fm_td h.2.1
  refine rl_h_q h (fun q k _ b c => hA q k b c) (fun q k _ b c => hB q k b (by omega)) (fun f hf => ?_)
  rw [hA 46 f (by omega) (by omega), hB 98 _ (by omega) (by omega)]
  exact (h.2.2.2.2.2.2.2 f hf).1
/-- would the motion be carried now -/
def cva (t : Nat) (A : fm_M) (m : Nat) : Int32 := match F_X7_carries 45 t (A.1 (t + 7) m) A with
  | some v => v.1
  | none => 0
theorem cva_eq {A : fm_M} {t m : Nat} {v : Int32} {A2 : fm_M} (e : F_X7_carries 45 t (A.1 (t + 7) m) A = some (v, A2)) : cva t A m = v := by
  unfold cva
  rw [e]
theorem cva_cg {A A1 B : fm_M} {t nf m : Nat} (h : rl_h A B 45 t 1 nf) (h1 : A.1 t 0 = nI nf) (h2 : B.1 78 0 = nI nf) (h3 : A.1 t 13 = B.1 78 2) (hA : ∀ q k, q ≠ t + 15 → q ≤ 47 → A1.1 q k = A.1 q k) : cva t A1 m = cva t A m ∧ ∃ A2, F_X7_carries 45 t (A1.1 (t + 7) m) A1 = some (cva t A m, A2) ∧ (∀ q k, q ≠ t + 15 → A2.1 q k = A1.1 q k) ∧ (cva t A m = 0 ∨ cva t A m = 1) := by
  have ht := fm_td h.2.1
  have hh := rl_h_r (A2 := A1) (B2 := B) h hA (fun _ _ _ _ => rfl)
  have en : A1.1 (t + 7) m = A.1 (t + 7) m := hA _ _ (by omega) (by omega)
  obtain ⟨v, u, A2, B1, B2, e1, e2, e3, e4, e5, e6, e7⟩ := rl_carries h h1 h2 h3 (A.1 (t + 7) m)
  obtain ⟨v', u', A3, B3, B4, g1, g2, g3, g4, g5, g6, g7⟩ := rl_carries hh (by rw [hA _ _ (by omega) (by omega)]; exact h1) h2 (by rw [hA _ _ (by omega) (by omega)]; exact h3) (A.1 (t + 7) m)
  have q1 := Option.some.inj (e2.symm.trans g2)
  have q2 : u = u' := congrArg Prod.fst q1
  have q3 : B1 = B3 := congrArg Prod.snd q1
  subst q2; subst q3
  have q4 : v = v' := congrArg Prod.fst (Option.some.inj (e3.symm.trans g3))
  subst q4
  have c1 := cva_eq e1
  have c2 : cva t A1 m = v := cva_eq (by rw [en]; exact g1)
  exact ⟨by rw [c1, c2], A3, by rw [en, c1]; exact g1, g5, by rw [c1]; exact e4⟩
/-- the class strikes -/
theorem or_cl {A B : fm_M} {t nf i : Nat} (h : rl_h A B 45 t 1 nf) (h1 : A.1 t 0 = nI nf) (h2 : B.1 78 0 = nI nf) (h3 : A.1 t 13 = B.1 78 2) : ∃ (v : Nat) (A1 A2 : fm_M), F_X7_humOfAll 45 t (A.1 (t + 7) i) A = some (nI v, A1) ∧ (∀ q k, q ≠ t + 15 → A1.1 q k = A.1 q k) ∧ F_X7_passes 45 t (A.1 (t + 7) i) (nI v) (fm_up A1 50 i (nI v)) = some (cva t A i, A2) ∧ (∀ q k, q ≠ t + 15 → A2.1 q k = (fm_up A1 50 i (nI v)).1 q k) ∧ (cva t A i = 0 ∨ cva t A i = 1) := by
  have ht := fm_td h.2.1
  obtain ⟨v, A1, B1, e1, e2, -⟩ := rl_humAll h h1 h2 (A.1 (t + 7) i)
  have fA := rl_frA (fr_X7_humOfAll 45 t (A.1 (t + 7) i) A) e1
  have fB := rl_frB (fr_X10_humAll (nI 1) (A.1 (t + 7) i) B) e2
  have ha := rl_h_r (A2 := A1) (B2 := B1) h (fun q k a _ => fA q k a) (fun q k a _ => fB q k a)
  have hb := rl_h_r (A2 := fm_up A1 50 i (nI v)) (B2 := B1) h (fun q k a b => by rw [fm_up_ne (by omega)]; exact fA q k a) (fun q k a _ => fB q k a)
  have e13 : B1.1 78 2 = B.1 78 2 := fB _ _ (by omega)
  obtain ⟨g, A2, B2, g1, g2, g3⟩ := rl_passes ha (by rw [fA _ _ (by omega), e13]; exact h3) (A.1 (t + 7) i) (nI v)
  obtain ⟨g', A3, B3, k1, k2, k3⟩ := rl_passes hb (by rw [fm_up_ne (by omega), fA _ _ (by omega), e13]; exact h3) (A.1 (t + 7) i) (nI v)
  have q : g = g' := congrArg Prod.fst (Option.some.inj (g2.symm.trans k2))
  subst q
  have c : cva t A i = g := cva_eq (A2 := A2) (by rw [F_X7_carries, fm_gd_t (by decide), fm_gd_t h.2.1, e1, fm_bd_s, g1, fm_bd_s, fm_gd_t (show fm_z01 g = true from decide_eq_true g3)])
  rw [c]
  exact ⟨v, A1, A3, e1, fA, k1, rl_frA (fr_X7_passes 45 t _ _ _) k1, g3⟩
/-- the reference strikes -/
theorem or_md {A B : fm_M} {t nf i : Nat} (h : rl_h A B 45 t 1 nf) (h1 : A.1 t 0 = nI nf) (h2 : B.1 78 0 = nI nf) (h3 : A.1 t 13 = B.1 78 2) (hi : i < 10) (hn : A.1 (t + 7) i = B.1 85 i) : ∃ B2 : fm_M, F_X10_strikes 1 (nI i) B = some ((), B2) ∧ B2.1 100 (10 + i) = cva t A i ∧ (∀ q k, (q ≠ 76 ∨ k ≠ 32) → (q ≠ 100 ∨ k ≠ 10 + i) → (q ≠ 101 ∨ k ≠ 10 + i) → B2.1 q k = B.1 q k) := by
  have ht := fm_td h.2.1
  obtain ⟨v, u, A2, B1, B2, e1, e2, e3, e4, e5, e6, e7⟩ := rl_carries h h1 h2 h3 (A.1 (t + 7) i)
  have ha := rl_h_r (A2 := A) (B2 := B1) h (fun _ _ _ _ => rfl) (fun q k a _ => e6 q k a)
  have hb := rl_h_r (A2 := A) (B2 := fm_up B1 101 (10 + i) u) h (fun _ _ _ _ => rfl) (fun q k a b => by rw [fm_up_ne (by omega)]; exact e6 q k a)
  have e13 : B1.1 78 2 = B.1 78 2 := e6 _ _ (by omega)
  obtain ⟨g, A3, B3, g1, g2, g3⟩ := rl_passes ha (by rw [e13]; exact h3) (A.1 (t + 7) i) u
  obtain ⟨g', A4, B4, k1, k2, k3⟩ := rl_passes hb (by rw [fm_up_ne (by omega), e13]; exact h3) (A.1 (t + 7) i) u
  have q1 : g = g' := congrArg Prod.fst (Option.some.inj (g1.symm.trans k1))
  have q2 : v = g := congrArg Prod.fst (Option.some.inj (e3.symm.trans g2))
  subst q1; subst q2
  have fB := rl_frB (fr_X10_passes (nI 1) (A.1 (t + 7) i) u (fm_up B1 101 (10 + i) u)) k2
  have hx : (10 : Int32) * 1 + nI i = nI (10 + i) := nI_add 10 i
  refine ⟨fm_up B4 100 (10 + i) v, ?_, by rw [fm_up_get]; exact (cva_eq e1).symm, fun q k a b c => by rw [fm_up_ne b, fB q k a, fm_up_ne c, e6 q k a]⟩
  rw [F_X10_strikes, fm_lt, hx, fm_gd_t (nu_inb (by omega) (by omega)), nI_clamp (by omega), ← hn, show F_X10_humAll 1 (A.1 (t + 7) i) B = _ from e2, fm_bd_s, fm_gd_t (nu_inb (by omega) (by omega)), fm_lt, nI_clamp (by omega), fm_gd_t (nu_inb (by omega) (by omega)), fm_gd_t (nu_inb (by omega) (by omega)), fm_up_get, fm_up_ne (by omega), e6 85 i (by omega), ← hn, show F_X10_passes 1 (A.1 (t + 7) i) u (fm_up B1 101 (10 + i) u) = _ from k2, fm_bd_s, fm_gd_t (nu_inb (by omega) (by omega))]
  rcases e4 with rfl | rfl
  · rw [if_pos rfl]; rfl
  · rw [if_neg n10, fm_gd_t (nu_inb (by omega) (by omega))]; rfl
def ro (A B : fm_M) (t nf nm : Nat) (O : Nat → Prop) : Prop :=
  rl_h A B 45 t 1 nf ∧ (A.1 t 0 = nI nf ∧ B.1 78 0 = nI nf ∧ A.1 t 7 = nI nm ∧ B.1 78 1 = nI nm ∧ nm ≤ 10 ∧ A.1 t 13 = B.1 78 2 ∧ A.1 t 16 = B.1 78 6 ∧ A.1 45 7 = 1 ∧ B.1 76 43 = 0 ∧ B.1 76 45 = -1) ∧
  (∀ m, m < nm → A.1 (t + 7) m = B.1 85 m) ∧ (∀ m, m < nm → ¬ O m → A.1 48 m = B.1 99 (10 + m) ∧ A.1 49 m = B.1 100 (10 + m)) ∧ (∀ m, m < nm → O m → A.1 48 m = -1 ∧ A.1 49 m = -1)
theorem ro_cg {A B A2 B2 : fm_M} {t nf nm : Nat} {O : Nat → Prop} (h : ro A B t nf nm O) (hA : ∀ q k, q ≠ t + 15 → q ≤ 48 → A2.1 q k = A.1 q k) (hB : ∀ q k, (q ≠ 76 ∨ k ≠ 32) → q ≤ 99 → B2.1 q k = B.1 q k) (hm : ∀ m, m < nm → (¬ O m → A2.1 49 m = B2.1 100 (10 + m)) ∧ (O m → A2.1 49 m = -1)) : ro A2 B2 t nf nm O := by
  obtain ⟨h1, h2, h3, h4, h5⟩ := h
  have ht := fm_td h1.2.1
  refine ⟨rl_h_r h1 (fun q k a b => hA q k a (by omega)) (fun q k a b => hB q k a (by omega)), ?_, fun m hmm => ?_, fun m hmm ho => ⟨?_, (hm m hmm).1 ho⟩, fun m hmm ho => ⟨?_, (hm m hmm).2 ho⟩⟩
  · simp (disch := omega) only [hA, hB]; exact h2
  · simp (disch := omega) only [hA, hB]; exact h3 m hmm
  · rw [hA _ _ (by omega) (by omega), hB _ _ (by omega) (by omega)]; exact (h4 m hmm ho).1
  · rw [hA _ _ (by omega) (by omega)]; exact (h5 m hmm ho).1
theorem or_loop {A0 : fm_M} {t nf nm : Nat} {O : Nat → Prop} : ∀ (m i fa fb : Nat) (A B : fm_M), ro A B t nf nm O → (∀ q k, q ≠ t + 15 → q ≤ 47 → A.1 q k = A0.1 q k) → i + m = nm → m < fa → m < fb → ∃ (A2 B2 : fm_M), G_X7_passDay_2 fa 45 t (nI i) A = some (nI nm, A2) ∧ G_X10_dayGoes_2 fb 1 (nI i) B = some (nI nm, B2) ∧ ro A2 B2 t nf nm O ∧ (∀ q k, q ≠ 49 → q ≠ 50 → q ≠ t + 15 → A2.1 q k = A.1 q k) ∧ (∀ q k, ¬ md_k1 1 q k → B2.1 q k = B.1 q k) ∧ (∀ g, g < nm → O g → i ≤ g → (B.1 100 (10 + g) = -1 ∧ B.1 99 (10 + g) = B.1 94 1 → B2.1 100 (10 + g) = cva t A0 g) ∧ (¬ (B.1 100 (10 + g) = -1 ∧ B.1 99 (10 + g) = B.1 94 1) → B2.1 100 (10 + g) = B.1 100 (10 + g))) ∧ (∀ g, g < i → B2.1 100 (10 + g) = B.1 100 (10 + g)) := by
  intro m
  induction m with
  | zero =>
    intro i fa fb A B h hA hi hfa hfb
    obtain ⟨fa, rfl⟩ : ∃ z, fa = z + 1 := ⟨fa - 1, by omega⟩
    obtain ⟨fb, rfl⟩ : ∃ z, fb = z + 1 := ⟨fb - 1, by omega⟩
    have : i = nm := by omega
    subst this
    obtain ⟨-, ⟨c1, c2, c3, c4, c5, -⟩, -⟩ := id h
    rw [G_X7_passDay_2, c3, if_pos (nI_le (by omega) (by omega)), G_X10_dayGoes_2, fm_gd_t (by decide), ck_1, c4, if_pos (nI_le (by omega) (by omega))]
    exact ⟨A, B, rfl, rfl, h, fun _ _ _ _ _ => rfl, fun _ _ _ => rfl, fun g a _ b => by omega, fun _ _ => rfl⟩
  | succ m ih =>
    intro i fa fb A B h hA hi hfa hfb
    obtain ⟨fa, rfl⟩ : ∃ z, fa = z + 1 := ⟨fa - 1, by omega⟩
    obtain ⟨fb, rfl⟩ : ∃ z, fb = z + 1 := ⟨fb - 1, by omega⟩
    obtain ⟨hh, ⟨c1, c2, c3, c4, c5, c6, c7, c8, c9, c10⟩, h3, h4, h5⟩ := id h
    have ht := fm_td hh.2.1
    obtain ⟨-, -, dd, dd1, dd2⟩ := hh.2.2.1
    have hday : A.1 45 0 = B.1 94 1 := hh.2.2.2.2.2.1
    have hx : (10 : Int32) * 1 + nI i = nI (10 + i) := nI_add 10 i
    have ib : fm_inb (nI i) 10 = true := nu_inb (by omega) (by omega)
    have xb : fm_inb (nI (10 + i)) 230 = true := nu_inb (by omega) (by omega)
    have ic : Int32.toNatClampNeg (nI i) = i := nI_clamp (by omega)
    have xc : Int32.toNatClampNeg (nI (10 + i)) = 10 + i := nI_clamp (by omega)
    rw [G_X7_passDay_2, c3, if_neg (nI_ge (by omega) (by omega)), fm_gd_t ib, ic, G_X10_dayGoes_2, fm_gd_t (show fm_inb 1 20 = true by decide), ck_1, c4, if_neg (nI_ge (by omega) (by omega)), fm_lt, hx, fm_gd_t xb, fm_gd_t xb, fm_gd_t (show fm_inb 1 23 = true by decide), xc, nI_1, show A.1 (45 + 3) i = A.1 48 i from rfl, hday]
    have hA0 : rl_h A0 B 45 t 1 nf := rl_h_r hh (fun q k a b => (hA q k a b).symm) (fun _ _ _ _ => rfl)
    have cg : cva t A i = cva t A0 i := (cva_cg (m := i) hA0 (by rw [← hA t 0 (by omega) (by omega)]; exact c1) c2 (by rw [← hA t 13 (by omega) (by omega)]; exact c6) hA).1
    by_cases ho : O i
    · -- the class never strikes it
      obtain ⟨o1, o2⟩ := h5 i (by omega) ho
      rw [o1, if_neg (show ¬ (-1 : Int32) = B.1 94 1 from fun z => nI_nm1 (show dd < 2 ^ 31 by omega) (by rw [← dd2]; exact z.symm))]
      by_cases b1 : B.1 100 (10 + i) = -1
      · rw [if_pos b1]
        by_cases b2 : B.1 99 (10 + i) = B.1 94 1
        · rw [if_pos b2]
          obtain ⟨B1, e1, e2, e3⟩ := or_md hh c1 c2 c6 (by omega) (h3 i (by omega))
          rw [e1, fm_bd_s]
          obtain ⟨A2, B2, k1, k2, k3, k4, k5, k6, k7⟩ := ih (i + 1) fa fb A B1 (ro_cg h (fun _ _ _ _ => rfl) (fun q k a b => e3 q k a (by omega) (by omega)) (fun g hg => ⟨fun z => by
            have gi : g ≠ i := fun y => z (y ▸ ho)
            rw [e3 _ _ (by omega) (by omega) (by omega)]; exact (h4 g hg z).2, fun z => (h5 g hg z).2⟩)) hA (by omega) (by omega) (by omega)
          refine ⟨A2, B2, k1, k2, k3, k4, fun q k z => by rw [k5 q k z, e3 q k (by unfold md_k1 at z; omega) (by unfold md_k1 at z; omega) (by unfold md_k1 at z; omega)], fun g hg hO hig => ?_, fun g hg => by rw [k7 g (by omega), e3 _ _ (by omega) (by omega) (by omega)]⟩
          by_cases gi : g = i
          · subst gi
            exact ⟨fun _ => by rw [k7 g (by omega), e2, cg], fun z => absurd ⟨b1, b2⟩ z⟩
          · have := k6 g hg hO (by omega)
            rw [e3 100 _ (by omega) (by omega) (by omega), e3 99 _ (by omega) (by omega) (by omega), e3 94 _ (by omega) (by omega) (by omega)] at this
            exact this
        · rw [if_neg b2]
          obtain ⟨A2, B2, k1, k2, k3, k4, k5, k6, k7⟩ := ih (i + 1) fa fb A B h hA (by omega) (by omega) (by omega)
          refine ⟨A2, B2, k1, k2, k3, k4, k5, fun g hg hO hig => ?_, fun g hg => k7 g (by omega)⟩
          by_cases gi : g = i
          · subst gi
            exact ⟨fun z => absurd z.2 b2, fun _ => k7 g (by omega)⟩
          · exact k6 g hg hO (by omega)
      · rw [if_neg b1]
        obtain ⟨A2, B2, k1, k2, k3, k4, k5, k6, k7⟩ := ih (i + 1) fa fb A B h hA (by omega) (by omega) (by omega)
        refine ⟨A2, B2, k1, k2, k3, k4, k5, fun g hg hO hig => ?_, fun g hg => k7 g (by omega)⟩
        by_cases gi : g = i
        · subst gi
          exact ⟨fun z => absurd z.1 b1, fun _ => k7 g (by omega)⟩
        · exact k6 g hg hO (by omega)
    · obtain ⟨o1, o2⟩ := h4 i (by omega) ho
      have nx : ∀ A B, ro A B t nf nm O → (∀ q k, q ≠ t + 15 → q ≤ 47 → A.1 q k = A0.1 q k) → ∃ (A2 B2 : fm_M), G_X7_passDay_2 fa 45 t (nI (i + 1)) A = some (nI nm, A2) ∧ G_X10_dayGoes_2 fb 1 (nI (i + 1)) B = some (nI nm, B2) ∧ ro A2 B2 t nf nm O ∧ (∀ q k, q ≠ 49 → q ≠ 50 → q ≠ t + 15 → A2.1 q k = A.1 q k) ∧ (∀ q k, ¬ md_k1 1 q k → B2.1 q k = B.1 q k) ∧ (∀ g, g < nm → O g → i ≤ g → (B.1 100 (10 + g) = -1 ∧ B.1 99 (10 + g) = B.1 94 1 → B2.1 100 (10 + g) = cva t A0 g) ∧ (¬ (B.1 100 (10 + g) = -1 ∧ B.1 99 (10 + g) = B.1 94 1) → B2.1 100 (10 + g) = B.1 100 (10 + g))) ∧ (∀ g, g < i → B2.1 100 (10 + g) = B.1 100 (10 + g)) := by
        intro A B h hA
        obtain ⟨A2, B2, k1, k2, k3, k4, k5, k6, k7⟩ := ih (i + 1) fa fb A B h hA (by omega) (by omega) (by omega)
        exact ⟨A2, B2, k1, k2, k3, k4, k5, fun g hg hO hig => k6 g hg hO (by have : g ≠ i := fun y => ho (y ▸ hO); omega), fun g hg => k7 g (by omega)⟩
      rw [o1, show A.1 (45 + 4) i = A.1 49 i from rfl, o2]
      by_cases b2 : B.1 99 (10 + i) = B.1 94 1
      · rw [if_pos b2, fm_gd_t ib]
        by_cases b1 : B.1 100 (10 + i) = -1
        · rw [if_pos b1, if_pos b1, if_pos b2, fm_gd_t ib]
          obtain ⟨v, A1, A2, y1, y2, y3, y4, y5⟩ := or_cl (i := i) hh c1 c2 c6
          obtain ⟨B1, e1, e2, e3⟩ := or_md hh c1 c2 c6 (by omega) (h3 i (by omega))
          have f2 : ∀ q k, q ≠ t + 15 → (q ≠ 50 ∨ k ≠ i) → A2.1 q k = A.1 q k := fun q k a b => by rw [y4 q k a, fm_up_ne b, y2 q k a]
          have r2 : ro (fm_up A2 49 i (cva t A i)) B1 t nf nm O := ro_cg h (fun q k a b => by rw [fm_up_ne (by omega), f2 q k a (by omega)]) (fun q k a b => e3 q k a (by omega) (by omega)) (fun g hg => by
            by_cases gi : g = i
            · subst gi
              exact ⟨fun _ => by rw [fm_up_get, e2], fun z => absurd z ho⟩
            · rw [fm_up_ne (by omega), f2 _ _ (by omega) (by omega), e3 _ _ (by omega) (by omega) (by omega)]
              exact ⟨fun z => (h4 g hg z).2, fun z => (h5 g hg z).2⟩)
          obtain ⟨A3, B3, k1, k2, k3, k4, k5, k6, k7⟩ := nx (fm_up A2 49 i (cva t A i)) B1 r2 (fun q k a b => by rw [fm_up_ne (by omega), f2 q k a (by omega)]; exact hA q k a b)
          refine ⟨A3, B3, ?_, by rw [e1, fm_bd_s]; exact k2, k3, fun q k a b c => by rw [k4 q k a b c, fm_up_ne (by omega), f2 q k c (by omega)], fun q k z => by rw [k5 q k z, e3 q k (by unfold md_k1 at z; omega) (by unfold md_k1 at z; omega) (by unfold md_k1 at z; omega)], fun g hg hO hig => ?_, fun g hg => by rw [k7 g hg, e3 _ _ (by omega) (by omega) (by omega)]⟩
          · rw [y1, fm_bd_s, fm_gd_t ib, fm_lt, fm_gd_t ib, fm_gd_t ib, show (45 + 5 : Nat) = 50 from rfl, fm_up_get, fm_up_ne (by omega), y2 _ _ (by omega), y3, fm_bd_s, fm_gd_t ib, fm_gd_t ib, fm_lt, fm_lt]
            rcases y5 with q | q
            · rw [if_pos q]; rw [q] at k1; exact k1
            · rw [if_neg (by rw [q]; decide)]; rw [q] at k1; exact k1
          · have gi : g ≠ i := fun y => ho (y ▸ hO)
            have := k6 g hg hO hig
            rw [e3 100 _ (by omega) (by omega) (by omega), e3 99 _ (by omega) (by omega) (by omega), e3 94 _ (by omega) (by omega) (by omega)] at this
            exact this
        · rw [if_neg b1, if_neg b1]; exact nx A B h hA
      · rw [if_neg b2]
        by_cases b1 : B.1 100 (10 + i) = -1
        · rw [if_pos b1, if_neg b2]; exact nx A B h hA
        · rw [if_neg b1]; exact nx A B h hA
