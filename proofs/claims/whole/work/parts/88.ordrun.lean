/-! the best order: the class's days beside any of the reference's -/
theorem or_s98 {A B : fm_M} {t nf nm K d : Nat} {O : Nat → Prop} {od : Nat → Nat} (h : ro A B t nf nm O) (hK : K ≤ 4) (hd : d < 1000) (h2 : A.1 73 2 = nI K) (h4 : ∀ k, k < K → A.1 74 k = nI (od k) ∧ od k < nm) (l3 : Int32) : ∀ (m i fa : Nat) (A1 : fm_M), i + m = K → m < fa → (∀ q k, q ≠ t + 15 → q ≠ 75 → (q ≠ 73 ∨ k ≠ 3) → A1.1 q k = A.1 q k) → A1.1 73 3 = nI (cn (fun k => decide (A1.1 75 k ≠ -1)) K) → ∃ A2 : fm_M, G_X5_seek_98 fa t 45 l3 (nI d) (nI i) A1 = some (nI K, A2) ∧ (∀ q k, q ≠ t + 15 → q ≠ 75 → (q ≠ 73 ∨ k ≠ 3) → A2.1 q k = A.1 q k) ∧ A2.1 73 3 = nI (cn (fun k => decide (A2.1 75 k ≠ -1)) K) ∧ (∀ k, k < K → i ≤ k → (A1.1 75 k = -1 ∧ cva t A (od k) = 1 → A2.1 75 k = nI d) ∧ (¬ (A1.1 75 k = -1 ∧ cva t A (od k) = 1) → A2.1 75 k = A1.1 75 k)) ∧ (∀ k, k < i → A2.1 75 k = A1.1 75 k) := by
  obtain ⟨hh, ⟨c1, c2, c3, c4, c5, c6, c7, c8, c9, c10⟩, h3, -, -⟩ := id h
  have ht := fm_td hh.2.1
  intro m
  induction m with
  | zero =>
    intro i fa A1 hi hfa f1 f2
    obtain ⟨fa, rfl⟩ : ∃ z, fa = z + 1 := ⟨fa - 1, by omega⟩
    have : i = K := by omega
    subst this
    rw [G_X5_seek_98, f1 73 2 (by omega) (by omega) (by omega), h2, if_pos (nI_le (by omega) (by omega))]
    exact ⟨A1, rfl, f1, f2, fun k a b => by omega, fun _ _ => rfl⟩
  | succ m ih =>
    intro i fa A1 hi hfa f1 f2
    obtain ⟨fa, rfl⟩ : ∃ z, fa = z + 1 := ⟨fa - 1, by omega⟩
    obtain ⟨o1, o2⟩ := h4 i (by omega)
    have ib : fm_inb (nI i) 4 = true := nu_inb (by omega) (by omega)
    have ic : Int32.toNatClampNeg (nI i) = i := nI_clamp (by omega)
    rw [G_X5_seek_98, f1 73 2 (by omega) (by omega) (by omega), h2, if_neg (nI_ge (by omega) (by omega)), fm_gd_t ib, ic, nI_1]
    by_cases z : A1.1 75 i = -1
    · obtain ⟨-, A2, e1, e2, e3⟩ := cva_cg (m := od i) (A1 := A1) hh c1 c2 c6 (fun q k a b => f1 q k a (by omega) (by omega))
      rw [if_pos z, fm_gd_t ib, f1 74 i (by omega) (by omega) (by omega), o1, fm_gd_t (nu_inb (by omega) (by omega)), nI_clamp (by omega), e1, fm_bd_s]
      rcases e3 with v | v
      · rw [if_pos v]
        obtain ⟨A3, k1, k2, k3, k4, k5⟩ := ih (i + 1) fa A2 (by omega) (by omega) (fun q k a b c => by rw [e2 q k a, f1 q k a b c]) (by rw [e2 _ _ (by omega), f2]; congr 1; exact cn_cg K (fun k hk => by rw [e2 _ _ (by omega)]))
        refine ⟨A3, k1, k2, k3, fun k a b => ?_, fun k a => by rw [k5 k (by omega), e2 _ _ (by omega)]⟩
        by_cases y : k = i
        · subst y
          exact ⟨fun w => absurd (v.symm.trans w.2) (by decide), fun _ => by rw [k5 k (by omega), e2 _ _ (by omega)]⟩
        · have := k4 k a (by omega)
          rw [e2 _ _ (by omega)] at this
          exact this
      · rw [if_neg (by rw [v]; decide), fm_gd_t ib]
        simp only [fm_lt]
        have dn1 : ¬ nI d = -1 := nI_nm1 (by omega)
        obtain ⟨A3, k1, k2, k3, k4, k5⟩ := ih (i + 1) fa (fm_up (fm_up A2 75 i (nI d)) 73 3 ((fm_up A2 75 i (nI d)).1 73 3 + 1)) (by omega) (by omega) (fun q k a b c => by rw [fm_up_ne (by omega), fm_up_ne (by omega), e2 q k a, f1 q k a b c]) (by
          rw [fm_up_get, fm_up_ne (by omega), e2 _ _ (by omega), f2, nI_1]
          congr 1
          have := cn_upd (P := fun k => decide (A1.1 75 k ≠ -1)) (Q := fun k => decide ((fm_up (fm_up A2 75 i (nI d)) 73 3 (nI (cn (fun k => decide (A1.1 75 k ≠ -1)) K + 1))).1 75 k ≠ -1)) (g := i) K (by omega) (fun k a b => by rw [fm_up_ne (by omega), fm_up_ne (by omega), e2 _ _ (by omega)]) (decide_eq_false (fun w => w z))
          rw [this, if_pos (decide_eq_true (by rw [fm_up_ne (by omega), fm_up_get]; exact dn1))])
        refine ⟨A3, k1, k2, k3, fun k a b => ?_, fun k a => by rw [k5 k (by omega), fm_up_ne (by omega), fm_up_ne (by omega), e2 _ _ (by omega)]⟩
        by_cases y : k = i
        · subst y
          exact ⟨fun _ => by rw [k5 k (by omega), fm_up_ne (by omega), fm_up_get], fun w => absurd ⟨z, v⟩ w⟩
        · have := k4 k a (by omega)
          rw [fm_up_ne (by omega), fm_up_ne (by omega), e2 _ _ (by omega)] at this
          exact this
    · rw [if_neg z]
      obtain ⟨A3, k1, k2, k3, k4, k5⟩ := ih (i + 1) fa A1 (by omega) (by omega) f1 f2
      refine ⟨A3, k1, k2, k3, fun k a b => ?_, fun k a => k5 k (by omega)⟩
      by_cases y : k = i
      · subst y
        exact ⟨fun w => absurd w.1 z, fun _ => k5 k (by omega)⟩
      · exact k4 k a (by omega)
def or_R (A B : fm_M) (t nf nm dd : Nat) (O : Nat → Prop) : Prop := ro A B t nf nm O ∧ rl_pb A 45 t nf ∧ rl_w A B t ∧ B.1 94 1 = nI dd
def or_H (A : fm_M) (K nm : Nat) (od : Nat → Nat) : Prop := A.1 73 2 = nI K ∧ (∀ k, k < K → A.1 74 k = nI (od k) ∧ od k < nm) ∧ A.1 73 3 = nI (cn (fun k => decide (A.1 75 k ≠ -1)) K)
theorem or_run {t nf nm K n : Nat} {od : Nat → Nat} (hK : K ≤ 4) (hn : n ≤ 4) : ∀ (m d fa dd : Nat) (A B0 : fm_M), d + m = n → m < fa → dd + m < 100000 → or_H A K nm od → or_R A B0 t nf nm dd (fun g => ∃ k, k < K ∧ od k = g) → ∃ (cv : Nat → Nat → Int32) (x : Int32) (A2 : fm_M), (∀ k e, cv k e = 0 ∨ cv k e = 1) ∧ G_X5_seek_89 fa t 45 (nI n) (nI d) A = some (x, A2) ∧ (∀ q k, iv_pA q k → A2.1 q k = A.1 q k) ∧ or_H A2 K nm od ∧ (∀ k, k < K → (A.1 75 k ≠ -1 → A2.1 75 k = A.1 75 k) ∧ (A.1 75 k = -1 → (∃ e, d ≤ e ∧ e < n ∧ cv k e = 1 ∧ (∀ j, d ≤ j → j < e → cv k j = 0) ∧ A2.1 75 k = nI e) ∨ ((∀ j, d ≤ j → j < n → cv k j = 0) ∧ A2.1 75 k = -1))) ∧ (∀ g, g < nm → (∃ k, k < K ∧ od k = g) → A2.1 49 g = -1) ∧ (∀ g, A.1 49 g ≠ -1 → A2.1 49 g = A.1 49 g) ∧
    ∀ (fb : Nat) (B : fm_M), m < fb → or_R A B t nf nm dd (fun g => ∃ k, k < K ∧ od k = g) → ∃ (y : Int32) (B2 : fm_M), G_X10_goesOn_2 fb (nI n) (nI d) B = some (y, B2) ∧ (∀ q k, ¬ md_k 1 q k → B2.1 q k = B.1 q k) ∧ (∀ g, g < nm → ¬ (∃ k, k < K ∧ od k = g) → B2.1 100 (10 + g) = A2.1 49 g) ∧ (∀ k e, k < K → e < m → B.1 100 (10 + od k) = -1 → B.1 99 (10 + od k) = nI (dd + e) → B2.1 100 (10 + od k) = cv k (d + e)) ∧ (∀ g, g < nm → (∃ k, k < K ∧ od k = g) → B.1 100 (10 + g) ≠ -1 → B2.1 100 (10 + g) = B.1 100 (10 + g)) := by
  intro m
  induction m with
  | zero =>
    intro d fa dd A B0 hd hfa hdd hH hR
    obtain ⟨fa, rfl⟩ : ∃ z, fa = z + 1 := ⟨fa - 1, by omega⟩
    have : d = n := by omega
    subst this
    refine ⟨fun _ _ => 0, nI d, A, fun _ _ => Or.inl rfl, by rw [G_X5_seek_89, if_pos (nI_le (by omega) (by omega))], fun _ _ _ => rfl, hH, fun k hk => ⟨fun _ => rfl, fun z => Or.inr ⟨fun _ _ _ => rfl, z⟩⟩, fun g hg ho => (hR.1.2.2.2.2 g hg ho).2, fun _ _ => rfl, fun fb B hfb hB => ?_⟩
    obtain ⟨fb, rfl⟩ : ∃ z, fb = z + 1 := ⟨fb - 1, by omega⟩
    exact ⟨nI d, B, by rw [G_X10_goesOn_2, if_pos (nI_le (by omega) (by omega))], fun _ _ _ => rfl, fun g hg ho => (hB.1.2.2.2.1 g hg ho).2.symm, fun k e _ h => by omega, fun _ _ _ _ => rfl⟩
  | succ m ih =>
    intro d fa dd A B0 hd hfa hdd hH hR
    obtain ⟨fa, rfl⟩ : ∃ z, fa = z + 1 := ⟨fa - 1, by omega⟩
    obtain ⟨H1, H2, H3⟩ := id hH
    obtain ⟨r1, r2, r3, r4⟩ := id hR
    have ht := fm_td r1.1.2.1
    obtain ⟨A1, s1, s2, s3, s4, -⟩ := or_s98 (d := d) r1 hK (by omega) H1 H2 (nI n) K 0 fm_fuel A (by omega) (by unfold fm_fuel; omega) (fun _ _ _ _ _ => rfl) H3
    -- what the class works out on the way leaves the council alone
    have mv : ∀ B, or_R A B t nf nm dd (fun g => ∃ k, k < K ∧ od k = g) → or_R A1 B t nf nm dd (fun g => ∃ k, k < K ∧ od k = g) := by
      intro B ⟨q1, q2, q3, q4⟩
      refine ⟨ro_cg q1 (fun q k a b => s2 q k a (by omega) (by omega)) (fun _ _ _ _ => rfl) (fun g hg => ?_), rl_pb_cg q2 (fun q k z => s2 q k (by omega) (by omega) (by omega)), rl_w_cg q3 (fun q k z => s2 q k (by omega) (by omega) (by omega)) (fun _ _ _ => rfl), q4⟩
      rw [s2 49 g (by omega) (by omega) (by omega)]
      exact ⟨fun z => (q1.2.2.2.1 g hg z).2, fun z => (q1.2.2.2.2 g hg z).2⟩
    obtain ⟨p1, p2, p3, p4⟩ := mv B0 hR
    obtain ⟨A2, B2, w, e1, e2, e3, e4, e5, e6, e7, e8, e9, e10⟩ := or_day p1 p2 p3 p4 (by omega)
    have fA := fA_passDay e1
    have a3 : ∀ q k, 51 ≤ q → (fm_up A2 45 1 w).1 q k = A1.1 q k := fun q k z => by rw [fm_up_ne (by omega), fA q k (by omega) (by omega) (by omega) (by omega) (by omega)]
    have hH3 : or_H (fm_up A2 45 1 w) K nm od := ⟨by rw [a3 _ _ (by omega), s2 _ _ (by omega) (by omega) (by omega)]; exact H1, fun k hk => by rw [a3 _ _ (by omega), s2 _ _ (by omega) (by omega) (by omega)]; exact H2 k hk, by
      rw [a3 _ _ (by omega), s3]
      congr 1
      exact cn_cg K (fun k hk => by rw [a3 _ _ (by omega)])⟩
    obtain ⟨cv, x, A4, k1, k2, k3, k4, k5, k6, k7, k8⟩ := ih (d + 1) fa (dd + 1) (fm_up A2 45 1 w) B2 (by omega) (by omega) (by omega) hH3 ⟨e4, e5, e6, e7⟩
    have c01 : ∀ g, cva t A g = 0 ∨ cva t A g = 1 := fun g => by
      obtain ⟨hh, ⟨c1, c2, -, -, -, c6, -⟩, -⟩ := r1
      exact (cva_cg (m := g) (A1 := A) hh c1 c2 c6 (fun _ _ _ _ => rfl)).2.elim (fun _ z => z.2.2)
    have cA1 : ∀ g, cva t A1 g = cva t A g := fun g => by
      obtain ⟨hh, ⟨c1, c2, -, -, -, c6, -⟩, -⟩ := r1
      exact (cva_cg (m := g) (A1 := A1) hh c1 c2 c6 (fun q k a b => s2 q k a (by omega) (by omega))).1
    have cvd : ∀ k, (fun (k e : Nat) => if e = d then cva t A (od k) else cv k e) k d = cva t A (od k) := fun k => if_pos rfl
    have cvn : ∀ k e, e ≠ d → (fun (k e : Nat) => if e = d then cva t A (od k) else cv k e) k e = cv k e := fun k e z => if_neg z
    have c01' : ∀ k e, (fun (k e : Nat) => if e = d then cva t A (od k) else cv k e) k e = 0 ∨ (fun (k e : Nat) => if e = d then cva t A (od k) else cv k e) k e = 1 := fun k e => by
      by_cases z : e = d
      · subst z; rw [cvd]; exact c01 _
      · rw [cvn k e z]; exact k1 k e
    generalize (fun (k e : Nat) => if e = d then cva t A (od k) else cv k e) = cw at *
    refine ⟨cw, x, A4, c01', ?_, fun q k z => ?_, k4, fun k hk => ⟨fun z => ?_, fun z => ?_⟩, k6, fun g z => ?_, fun fb B hfb hB => ?_⟩
    · rw [G_X5_seek_89, if_neg (nI_ge (by omega) (by omega)), show G_X5_seek_98 fm_fuel t 45 (nI n) (nI d) 0 A = _ from s1, fm_bd_s, e1, fm_bd_s, e3, fm_bd_s, fm_lt, nI_1]
      exact k2
    · rw [k3 q k z, fm_up_ne (by unfold iv_pA at z; omega), fA q k (by unfold iv_pA at z; omega) (by unfold iv_pA at z; omega) (by unfold iv_pA at z; omega) (by unfold iv_pA at z; omega) (by unfold iv_pA at z; omega), s2 q k (by unfold iv_pA at z; omega) (by unfold iv_pA at z; omega) (by unfold iv_pA at z; omega)]
    · have u := (s4 k hk (by omega)).2 (fun y => z y.1)
      rw [(k5 k hk).1 (by rw [a3 _ _ (by omega), u]; exact z), a3 _ _ (by omega), u]
    · rcases c01 (od k) with v | v
      · have u := (s4 k hk (by omega)).2 (fun y => absurd (v.symm.trans y.2) (by decide))
        have u2 := (k5 k hk).2 (by rw [a3 _ _ (by omega), u]; exact z)
        rcases u2 with ⟨e, q1, q2, q3, q4, q5⟩ | ⟨q1, q2⟩
        · refine Or.inl ⟨e, by omega, q2, by rw [cvn k e (by omega)]; exact q3, fun j a b => ?_, q5⟩
          by_cases y : j = d
          · subst y; rw [cvd]; exact v
          · rw [cvn k j y]; exact q4 j (by omega) b
        · refine Or.inr ⟨fun j a b => ?_, q2⟩
          by_cases y : j = d
          · subst y; rw [cvd]; exact v
          · rw [cvn k j y]; exact q1 j (by omega) b
      · have u := (s4 k hk (by omega)).1 ⟨z, v⟩
        have nd : ¬ nI d = -1 := nI_nm1 (by omega)
        refine Or.inl ⟨d, by omega, by omega, by rw [cvd]; exact v, fun j a b => by omega, ?_⟩
        rw [(k5 k hk).1 (by rw [a3 _ _ (by omega), u]; exact nd), a3 _ _ (by omega), u]
    · have y1 : A1.1 49 g = A.1 49 g := s2 49 g (by omega) (by omega) (by omega)
      have y2 : (fm_up A2 45 1 w).1 49 g = A.1 49 g := by rw [fm_up_ne (by omega), e10 g (by rw [y1]; exact z), y1]
      rw [k7 g (by rw [y2]; exact z), y2]
    · obtain ⟨fb, rfl⟩ : ∃ z, fb = z + 1 := ⟨fb - 1, by omega⟩
      obtain ⟨q1, q2, q3, q4⟩ := mv B hB
      obtain ⟨A2', B2', w', f1, f2, f3, f4, f5, f6, f7, f8, f9, -⟩ := or_day q1 q2 q3 q4 (by omega)
      have eA : A2 = A2' := congrArg Prod.snd (Option.some.inj (e1.symm.trans f1))
      subst eA
      have ew : w = w' := congrArg Prod.fst (Option.some.inj (e3.symm.trans f3))
      subst ew
      obtain ⟨y, B3, g1, g2, g3, g4, g5⟩ := k8 fb B2' (by omega) ⟨f4, f5, f6, f7⟩
      refine ⟨y, B3, ?_, fun q k z => by rw [g2 q k z, f8 q k z], g3, fun k e hk he h1 h2 => ?_, fun g hg ho h1 => ?_⟩
      · rw [G_X10_goesOn_2, if_neg (nI_ge (by omega) (by omega)), f2, fm_bd_s, nI_1]
        exact g1
      · obtain ⟨u1, u2⟩ := H2 k hk
        by_cases z : e = 0
        · subst z
          have v := (f9 (od k) u2 ⟨k, hk, rfl⟩).1 ⟨h1, h2⟩
          rw [cA1] at v
          rw [g5 (od k) u2 ⟨k, hk, rfl⟩ (by rw [v]; rcases c01 (od k) with y | y <;> rw [y] <;> decide), v, Nat.add_zero, cvd]
        · have ne : ¬ (B.1 100 (10 + od k) = -1 ∧ B.1 99 (10 + od k) = nI dd) := fun y => by
            have := (nI_eq (by omega) (by omega)).mp (h2.symm.trans y.2)
            omega
          have v := (f9 (od k) u2 ⟨k, hk, rfl⟩).2 ne
          have := g4 k (e - 1) hk (by omega) (by rw [v]; exact h1) (by rw [f8 _ _ (by unfold md_k; omega), h2]; congr 1; omega)
          rw [this, show d + 1 + (e - 1) = d + e by omega, cvn k (d + e) (by omega)]
      · have v := (f9 g hg ho).2 (fun y => h1 y.1)
        rw [g5 g hg ho (by rw [v]; exact h1), v]
