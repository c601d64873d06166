/-! texts: the whole of one -/
def fB1 (q k : Nat) : Prop := (q = 78 ∧ k < 10) ∨ (79 ≤ q ∧ q ≤ 83 ∧ k < 8) ∨ (84 ≤ q ∧ q ≤ 86 ∧ k < 10) ∨ (q = 87 ∧ k < 8) ∨ ((q = 88 ∨ q = 89) ∧ k < 3) ∨ ((q = 90 ∨ q = 91) ∧ k < 64)
theorem ev_law_h {A B A2 B2 : fm_M} {w r : Nat} (h : ev_law A B w r) (hr : r < 3) (hA : ∀ q k, w + 1 ≤ q → q ≤ w + 4 → A2.1 q k = A.1 q k) (hB : ∀ q k, fB1 q k → B2.1 q k = B.1 q k) : ev_law A2 B2 w r := by
  unfold fB1 at hB
  obtain ⟨s, e, ht, h1, h2, h3, h4, h5, h6, h7⟩ := h
  refine ⟨s, e, ht, by rw [hA _ _ (by omega) (by omega)]; exact h1, by rw [hA _ _ (by omega) (by omega)]; exact h2, by rw [hB _ _ (by omega)]; exact h3, by rw [hB _ _ (by omega)]; exact h4, h5, h6, fun z => ?_⟩
  obtain ⟨g1, g2, g3, g4⟩ := h7 z
  refine ⟨fun i i1 i2 => ?_, g2, g3, fun i i1 i2 => ?_⟩
  · have := g1 i i1 i2
    unfold ev_tok at this ⊢
    rw [hA (w + 3) i (by omega) (by omega), hA (w + 4) i (by omega) (by omega), hB 90 i (by omega), hB 91 i (by omega)]; exact this
  · rw [hB 90 i (by omega), hB 91 i (by omega)]; exact g4 i i1 i2
theorem iv_td_h {A B A2 B2 : fm_M} {t nf nm : Nat} (h : iv_td A B t nf nm) (hA : ∀ q k, t ≤ q → q ≤ t + 14 → A2.1 q k = A.1 q k) (hB : ∀ q k, fB1 q k → B2.1 q k = B.1 q k) : iv_td A2 B2 t nf nm := by
  obtain ⟨⟨a1, a2, a3, a4, a5, a6, a7⟩, ⟨⟨nw, b1, b2, b3, b4⟩, b5⟩, c, d, e, f⟩ := h
  have hB' := hB
  unfold fB1 at hB
  refine ⟨⟨a1, a2, a3, by rw [hA _ _ (by omega) (by omega)]; exact a4, by rw [hB _ _ (by omega)]; exact a5, by rw [hA _ _ (by omega) (by omega)]; exact a6, by rw [hB _ _ (by omega)]; exact a7⟩, ⟨⟨nw, b1, by rw [hA _ _ (by omega) (by omega)]; exact b2, by rw [hB _ _ (by omega)]; exact b3, fun k hk => by rw [hA _ _ (by omega) (by omega), hB _ _ (by omega)]; exact b4 k hk⟩, fun r hr => ev_law_h (b5 r hr) hr (fun q k z1 z2 => hA q k (by omega) (by omega)) hB'⟩, ?_, ?_, fun f hf => ?_, fun m hm => ?_⟩
  · rw [hA t 13 (by omega) (by omega), hA t 14 (by omega) (by omega), hA t 15 (by omega) (by omega), hA t 16 (by omega) (by omega), hA t 6 (by omega) (by omega), hA (t + 10) 5 (by omega) (by omega), hB 78 2 (by omega), hB 78 4 (by omega), hB 78 5 (by omega), hB 78 6 (by omega), hB 78 9 (by omega), hB 78 8 (by omega)]; exact c
  · rw [hA t 13 (by omega) (by omega), hA t 15 (by omega) (by omega), hA t 16 (by omega) (by omega), hA t 6 (by omega) (by omega)]; exact d
  · rw [hA (t + 1) f (by omega) (by omega), hA (t + 2) f (by omega) (by omega), hA (t + 3) f (by omega) (by omega), hA (t + 4) f (by omega) (by omega), hA (t + 5) f (by omega) (by omega), hB 79 f (by omega), hB 80 f (by omega), hB 81 f (by omega), hB 82 f (by omega), hB 83 f (by omega)]; exact e f hf
  · rw [hA (t + 6) m (by omega) (by omega), hA (t + 7) m (by omega) (by omega), hA (t + 8) m (by omega) (by omega), hB 84 m (by omega), hB 85 m (by omega), hB 86 m (by omega)]; exact f m hm
theorem md_wet_h {B B2 : fm_M} {dd nw : Nat} (hd : dd ≤ 9900) (h1 : nw ≤ 8) (h2 : B.1 78 3 = nI nw) (hB : ∀ q k, fB1 q k → B2.1 q k = B.1 q k) : md_wet B2 (nI dd) = md_wet B (nI dd) := by
  unfold fB1 at hB
  unfold md_wet
  rw [hB 78 3 (by omega)]
  by_cases h0 : B.1 78 3 = 0
  · rw [if_pos h0, if_pos h0]
  · have hn : nw ≠ 0 := fun z => h0 (by rw [h2, z]; rfl)
    have hr : i_rem (nI dd) (B.1 78 3) = nI (dd % nw) := by unfold i_rem; rw [h2, pk_rem (by omega) (by omega) (by omega)]
    have hm : dd % nw < nw := Nat.mod_lt _ (by omega)
    rw [if_neg h0, if_neg h0, hr, nI_clamp (by omega), hB 87 (dd % nw) (by omega)]
theorem iv_so_h {A B A2 B2 : fm_M} {t p nf nm nw : Nat} (h : iv_so A B t p nf nm) (h1 : nw ≤ 8) (h2 : B.1 78 3 = nI nw) (hA : ∀ q k, (p ≤ q ∧ q ≤ p + 5) ∨ q = t ∨ q = t + 3 → A2.1 q k = A.1 q k) (hB : ∀ q k, fB1 q k → B2.1 q k = B.1 q k) : iv_so A2 B2 t p nf nm := by
  obtain ⟨a, b, c, d, ⟨dd, e1, e2, e3⟩, f⟩ := h
  refine ⟨by rw [hA p 5 (by omega), hA t 6 (by omega), hA p 6 (by omega), hA p 7 (by omega)]; exact a, fun f hf => by rw [hA _ _ (by omega), hA _ _ (by omega)]; exact b f hf, fun m hm => by rw [hA (p + 4) m (by omega), hA (p + 5) m (by omega)]; exact c m hm, fun f hf => by rw [hA _ _ (by omega)]; exact d f hf, ⟨dd, e1, by rw [hA _ _ (by omega)]; exact e2, by rw [hA _ _ (by omega), md_wet_h e1 h1 h2 hB]; exact e3⟩, by rw [hA _ _ (by omega)]; exact f⟩
/-- a text refused: the council stays as it was -/
theorem t_bad {A B A2 B2 : fm_M} {t nf nm kd km : Nat} (h : iv_all A B t nf nm kd km) (hA : ∀ q k, q ≠ 1 → (q < 25 - t ∨ 25 - t + 14 < q) → A2.1 q k = A.1 q k) (hA5 : A2.1 1 5 = A.1 1 5) (hA2 : A2.1 1 2 = 0) (hB : ∀ q k, ¬ twB q k → (q ≠ 76 ∨ (k ≠ 0 ∧ k ≠ 2 ∧ k ≠ 19 ∧ k ≠ 26 ∧ k ≠ 27)) → B2.1 q k = B.1 q k) (hB2 : B2.1 76 2 = 0) (h3 : A2.1 1 3 = B2.1 76 26) (h4 : A2.1 1 4 = B2.1 76 27) : iv_all A2 B2 t nf nm kd km := by
  obtain ⟨⟨a1, a2, a3⟩, b, c, d, e, f, ⟨g1, g2, g3⟩, i, j, k⟩ := h
  have ht := fm_td d.1.1
  obtain ⟨⟨nw, n1, n2, n3, n4⟩, -⟩ := d.2.1
  have fB : ∀ q k, fB1 q k → B2.1 q k = B.1 q k := fun q k z => hB q k (by unfold fB1 at z; unfold twB; omega) (by unfold fB1 at z; omega)
  refine ⟨⟨by rw [hA _ _ (by omega) (by omega)]; exact a1, by rw [hA5]; exact a2, fun i hi => by rw [hA _ _ (by omega) (by omega)]; exact a3 i hi⟩, ⟨0, by omega, hA2, hB2, fun i hi => absurd hi (by omega)⟩, ⟨h3, h4⟩, iv_td_h d (fun q k z1 z2 => hA q k (by omega) (by omega)) fB, iv_st_cg e d.1.2.1 d.1.2.2.1 (fun q k z1 z2 => hA q k (by omega) (by omega)) (fun q k z => hB q k (by unfold md_cc at z; unfold twB; omega) (by unfold md_cc at z; omega)), iv_so_h f n1 n3 (fun q k z => hA q k (by omega) (by omega)) fB, ⟨by rw [hA _ _ (by omega) (by omega)]; exact g1, by rw [hA _ _ (by omega) (by omega), hB _ _ (by unfold twB; omega) (by omega)]; exact g2, fun z => ?_⟩, iv_dd_cg i d.1.2.1 d.1.2.2.1 (fun q k z => hA q k (by omega) (by omega)) (fun q k z => hB q k (by unfold twB; omega) (by omega)), iv_mn_cg j (fun q k z => hA q k (by omega) (by omega)) (fun q k z => hB q k (by unfold twB; omega) (by omega)), ?_⟩
  · rw [hA _ _ (by omega) (by omega)] at z
    obtain ⟨z1, z2⟩ := g3 z
    exact ⟨iv_st_cg z1 d.1.2.1 d.1.2.2.1 (fun q k z1 z2 => hA q k (by omega) (by omega)) (fun q k z => hB q k (by unfold md_cc at z; unfold twB; omega) (by unfold md_cc at z; omega)), iv_so_h z2 n1 n3 (fun q k z => hA q k (by omega) (by omega)) fB⟩
  · obtain ⟨k1, k2, k3, k4⟩ := k
    exact ⟨by rw [hB _ _ (by unfold twB; omega) (by omega)]; exact k1, by rw [hB _ _ (by unfold twB; omega) (by omega)]; exact k2, by rw [hB _ _ (by unfold twB; omega) (by omega)]; exact k3, by rw [hB _ _ (by unfold twB; omega) (by omega)]; exact k4⟩
/-- a draft taken into force -/
theorem t_td {A B A2 B2 : fm_M} {u n lo L nf nm nw a b : Nat} (hu : fm_isTd u = true) (h : XR A B u n lo 0 L L) (hd : LDp A B u L nf nm nw a b) (hA : ∀ q k, u ≤ q → q ≤ u + 14 → A2.1 q k = A.1 q k) (hB : ∀ q k, 78 ≤ q → q < 92 → k < hh q → B2.1 q k = B.1 q (hh q + k)) : iv_td A2 B2 u nf nm := by
  obtain ⟨⟨⟨c1, c2, c3⟩, c4, c5, c6, c7, c8, c9⟩, ⟨⟨v1, v2, v3, v4, v5⟩, v6, v7, v8, v9⟩, dF, dM, dW, dT, dL⟩ := hd
  obtain ⟨-, -, ⟨l1, l2, l3, l4, l5, l6⟩, -, hx⟩ := h
  have b78 : ∀ k, k < 10 → B2.1 78 k = B.1 78 (10 + k) := fun k z => hB 78 k (by omega) (by omega) z
  have b8 : ∀ q k, 79 ≤ q ∧ q ≤ 83 → k < 8 → B2.1 q k = B.1 q (8 + k) := by
    intro q k z1 z2
    have e : hh q = 8 := by unfold hh; rw [if_neg (by omega), if_pos (by omega)]
    have := hB q k (by omega) (by omega) (by omega)
    rw [e] at this; exact this
  have b10 : ∀ q k, 84 ≤ q ∧ q ≤ 86 → k < 10 → B2.1 q k = B.1 q (10 + k) := by
    intro q k z1 z2
    have e : hh q = 10 := by unfold hh; rw [if_neg (by omega), if_neg (by omega), if_pos (by omega)]
    have := hB q k (by omega) (by omega) (by omega)
    rw [e] at this; exact this
  have b87 : ∀ k, k < 8 → B2.1 87 k = B.1 87 (8 + k) := fun k z => hB 87 k (by omega) (by omega) z
  have b88 : ∀ k, k < 3 → B2.1 88 k = B.1 88 (3 + k) ∧ B2.1 89 k = B.1 89 (3 + k) := fun k z => ⟨hB 88 k (by omega) (by omega) z, hB 89 k (by omega) (by omega) z⟩
  have b90 : ∀ k, k < 64 → B2.1 90 k = B.1 90 (64 + k) ∧ B2.1 91 k = B.1 91 (64 + k) := fun k z => ⟨hB 90 k (by omega) (by omega) z, hB 91 k (by omega) (by omega) z⟩
  refine ⟨⟨hu, c1, c2, by rw [hA _ _ (by omega) (by omega)]; exact c4, by rw [b78 0 (by omega)]; exact c5, by rw [hA _ _ (by omega) (by omega)]; exact c6, by rw [b78 1 (by omega)]; exact c7⟩, ⟨⟨nw, c3, by rw [hA _ _ (by omega) (by omega)]; exact c8, by rw [b78 3 (by omega)]; exact c9, fun k hk => by rw [hA _ _ (by omega) (by omega), b87 k (by omega)]; exact dW k hk⟩, fun r hr => ?_⟩, ?_, ?_, fun f hf => ?_, fun m hm => ?_⟩
  · obtain ⟨s, e, g1, g2, g3, g4, g5, g6, g7, g8⟩ := dL r hr
    have e1 : A2.1 (u + 10 + 1) r = nI s := by rw [show u + 10 + 1 = u + 11 from rfl, hA _ _ (by omega) (by omega)]; exact g1
    have e2 : A2.1 (u + 10 + 2) r = nI e := by rw [show u + 10 + 2 = u + 12 from rfl, hA _ _ (by omega) (by omega)]; exact g2
    have e3 : B2.1 88 r = nI s := by rw [(b88 r hr).1]; exact g3
    have e4 : B2.1 89 r = nI e := by rw [(b88 r hr).2]; exact g4
    by_cases c : s < e
    · obtain ⟨ht, w1, w2, w3⟩ := g7 c
      refine ⟨s, e, ht, e1, e2, e3, e4, by omega, by omega, fun _ => ⟨fun i i1 i2 => ?_, w1, w2, fun i i1 i2 => ?_⟩⟩
      · have := hx i (by omega)
        unfold xtk at this
        unfold ev_tok
        rw [show u + 10 + 3 = u + 13 from rfl, show u + 10 + 4 = u + 14 from rfl, hA (u + 13) i (by omega) (by omega), hA (u + 14) i (by omega) (by omega), (b90 i (by omega)).1, (b90 i (by omega)).2]; exact this
      · rw [(b90 i (by omega)).1, (b90 i (by omega)).2]; exact w3 i i1 i2
    · exact ⟨s, e, fun _ => 0, e1, e2, e3, e4, by omega, by omega, fun z => absurd z c⟩
  · rw [hA u 13 (by omega) (by omega), hA u 14 (by omega) (by omega), hA u 15 (by omega) (by omega), hA u 16 (by omega) (by omega), hA u 6 (by omega) (by omega), hA (u + 10) 5 (by omega) (by omega), b78 2 (by omega), b78 4 (by omega), b78 5 (by omega), b78 6 (by omega), b78 9 (by omega), b78 8 (by omega)]
    exact ⟨v1, v2, v3, v4, v5, l3.trans l2.symm⟩
  · rw [hA u 13 (by omega) (by omega), hA u 15 (by omega) (by omega), hA u 16 (by omega) (by omega), hA u 6 (by omega) (by omega)]; exact ⟨v6, v7, v8, v9⟩
  · rw [hA (u + 1) f (by omega) (by omega), hA (u + 2) f (by omega) (by omega), hA (u + 3) f (by omega) (by omega), hA (u + 4) f (by omega) (by omega), hA (u + 5) f (by omega) (by omega), b8 79 f (by omega) (by omega), b8 80 f (by omega) (by omega), b8 81 f (by omega) (by omega), b8 82 f (by omega) (by omega), b8 83 f (by omega) (by omega)]; exact dF f hf
  · rw [hA (u + 6) m (by omega) (by omega), hA (u + 7) m (by omega) (by omega), hA (u + 8) m (by omega) (by omega), b10 84 m (by omega) (by omega), b10 85 m (by omega) (by omega), b10 86 m (by omega) (by omega)]; exact dM m hm
