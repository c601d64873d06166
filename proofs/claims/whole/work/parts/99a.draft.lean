/-! lines: what the text has told so far -/
def gC (A B : fm_M) (u nf nm nw : Nat) : Prop := (nf ≤ 8 ∧ nm ≤ 10 ∧ nw ≤ 8) ∧ A.1 u 0 = nI nf ∧ B.1 78 10 = nI nf ∧ A.1 u 7 = nI nm ∧ B.1 78 11 = nI nm ∧ A.1 u 11 = nI nw ∧ B.1 78 13 = nI nw
def gV (A B : fm_M) (u : Nat) : Prop := (A.1 u 13 = B.1 78 12 ∧ A.1 u 14 = B.1 78 14 ∧ A.1 u 15 = B.1 78 15 ∧ A.1 u 16 = B.1 78 16 ∧ A.1 u 6 = B.1 78 19) ∧ (∃ z : Nat, z ≤ 99 ∧ A.1 u 13 = nI z) ∧ (∃ z : Nat, z ≤ 99 ∧ A.1 u 15 = nI z) ∧ (∃ z : Nat, z ≤ 9 ∧ A.1 u 16 = nI z) ∧ (∃ z : Nat, z < 256 ∧ A.1 u 6 = nI z)
def gF1 (A B : fm_M) (u f : Nat) : Prop := A.1 (u + 1) f = B.1 79 (8 + f) ∧ A.1 (u + 2) f = B.1 80 (8 + f) ∧ A.1 (u + 3) f = B.1 81 (8 + f) ∧ A.1 (u + 4) f = B.1 82 (8 + f) ∧ A.1 (u + 5) f = B.1 83 (8 + f) ∧ (0 ≤ B.1 82 (8 + f) ∧ B.1 82 (8 + f) ≤ 9) ∧ ∃ x : Nat, 100 ≤ x ∧ x ≤ 999 ∧ A.1 (u + 2) f = nI x
def gF (A B : fm_M) (u nf : Nat) : Prop := ∀ f, f < nf → gF1 A B u f
def gM1 (A B : fm_M) (u m : Nat) : Prop := A.1 (u + 6) m = B.1 84 (10 + m) ∧ A.1 (u + 7) m = B.1 85 (10 + m) ∧ A.1 (u + 8) m = B.1 86 (10 + m) ∧ ∃ x : Nat, x ≤ 99 ∧ A.1 (u + 8) m = nI x
def gM (A B : fm_M) (u nm : Nat) : Prop := ∀ m, m < nm → gM1 A B u m
def gW (A B : fm_M) (u nw : Nat) : Prop := ∀ k, k < nw → A.1 (u + 9) k = B.1 87 (8 + k)
def gT (A B : fm_M) (a b : Nat) : Prop := a < 256 ∧ b < 2 ^ 24 ∧ A.1 1 11 = nI a ∧ B.1 76 17 = nI b ∧ ∀ w, w = 3 ∨ (5 ≤ w ∧ w ≤ 7) → a.testBit w = b.testBit w
def gL1 (A B : fm_M) (u L b r : Nat) : Prop := ∃ s e : Nat, A.1 (u + 11) r = nI s ∧ A.1 (u + 12) r = nI e ∧ B.1 88 (3 + r) = nI s ∧ B.1 89 (3 + r) = nI e ∧ s ≤ e ∧ e ≤ L ∧ (s < e → seg B s e) ∧ (b.testBit (16 + r) = true ↔ s < e)
def gL (A B : fm_M) (u L b : Nat) : Prop := ∀ r, r < 3 → gL1 A B u L b r
def LDp (A B : fm_M) (u L nf nm nw a b : Nat) : Prop := gC A B u nf nm nw ∧ gV A B u ∧ gF A B u nf ∧ gM A B u nm ∧ gW A B u nw ∧ gT A B a b ∧ gL A B u L b
theorem gC_cg {A B A2 B2 : fm_M} {u nf nm nw : Nat} (h : gC A B u nf nm nw) (hA : ∀ q k, q = u ∧ (k = 0 ∨ k = 7 ∨ k = 11) → A2.1 q k = A.1 q k) (hB : ∀ q k, q = 78 ∧ (k = 10 ∨ k = 11 ∨ k = 13) → B2.1 q k = B.1 q k) : gC A2 B2 u nf nm nw := by
  unfold gC at h ⊢
  rw [hA u 0 (by omega), hA u 7 (by omega), hA u 11 (by omega), hB 78 10 (by omega), hB 78 11 (by omega), hB 78 13 (by omega)]; exact h
theorem gV_cg {A B A2 B2 : fm_M} {u : Nat} (h : gV A B u) (hA : ∀ q k, q = u ∧ (k = 6 ∨ (13 ≤ k ∧ k ≤ 16)) → A2.1 q k = A.1 q k) (hB : ∀ q k, q = 78 ∧ (k = 12 ∨ k = 14 ∨ k = 15 ∨ k = 16 ∨ k = 19) → B2.1 q k = B.1 q k) : gV A2 B2 u := by
  unfold gV at h ⊢
  rw [hA u 13 (by omega), hA u 14 (by omega), hA u 15 (by omega), hA u 16 (by omega), hA u 6 (by omega), hB 78 12 (by omega), hB 78 14 (by omega), hB 78 15 (by omega), hB 78 16 (by omega), hB 78 19 (by omega)]; exact h
theorem gF1_cg {A B A2 B2 : fm_M} {u f : Nat} (h : gF1 A B u f) (hA : ∀ q, u + 1 ≤ q ∧ q ≤ u + 5 → A2.1 q f = A.1 q f) (hB : ∀ q, 79 ≤ q ∧ q ≤ 83 → B2.1 q (8 + f) = B.1 q (8 + f)) : gF1 A2 B2 u f := by
  unfold gF1 at h ⊢
  rw [hA (u + 1) (by omega), hA (u + 2) (by omega), hA (u + 3) (by omega), hA (u + 4) (by omega), hA (u + 5) (by omega), hB 79 (by omega), hB 80 (by omega), hB 81 (by omega), hB 82 (by omega), hB 83 (by omega)]; exact h
theorem gM1_cg {A B A2 B2 : fm_M} {u f : Nat} (h : gM1 A B u f) (hA : ∀ q, u + 6 ≤ q ∧ q ≤ u + 8 → A2.1 q f = A.1 q f) (hB : ∀ q, 84 ≤ q ∧ q ≤ 86 → B2.1 q (10 + f) = B.1 q (10 + f)) : gM1 A2 B2 u f := by
  unfold gM1 at h ⊢
  rw [hA (u + 6) (by omega), hA (u + 7) (by omega), hA (u + 8) (by omega), hB 84 (by omega), hB 85 (by omega), hB 86 (by omega)]; exact h
theorem gF_cg {A B A2 B2 : fm_M} {u nf : Nat} (h : gF A B u nf) (hA : ∀ q k, u + 1 ≤ q ∧ q ≤ u + 5 ∧ k < nf → A2.1 q k = A.1 q k) (hB : ∀ q k, 79 ≤ q ∧ q ≤ 83 ∧ 8 ≤ k ∧ k < 8 + nf → B2.1 q k = B.1 q k) : gF A2 B2 u nf := fun f hf => gF1_cg (h f hf) (fun q z => hA q f (by omega)) (fun q z => hB q (8 + f) (by omega))
theorem gM_cg {A B A2 B2 : fm_M} {u nm : Nat} (h : gM A B u nm) (hA : ∀ q k, u + 6 ≤ q ∧ q ≤ u + 8 ∧ k < nm → A2.1 q k = A.1 q k) (hB : ∀ q k, 84 ≤ q ∧ q ≤ 86 ∧ 10 ≤ k ∧ k < 10 + nm → B2.1 q k = B.1 q k) : gM A2 B2 u nm := fun f hf => gM1_cg (h f hf) (fun q z => hA q f (by omega)) (fun q z => hB q (10 + f) (by omega))
theorem gW_cg {A B A2 B2 : fm_M} {u nw : Nat} (h : gW A B u nw) (hA : ∀ q k, q = u + 9 ∧ k < nw → A2.1 q k = A.1 q k) (hB : ∀ q k, q = 87 ∧ 8 ≤ k ∧ k < 8 + nw → B2.1 q k = B.1 q k) : gW A2 B2 u nw := fun f hf => by rw [hA _ _ (by omega), hB _ _ (by omega)]; exact h f hf
theorem gT_cg {A B A2 B2 : fm_M} {a b : Nat} (h : gT A B a b) (hA : A2.1 1 11 = A.1 1 11) (hB : B2.1 76 17 = B.1 76 17) : gT A2 B2 a b := by
  unfold gT at h ⊢
  rw [hA, hB]; exact h
theorem gL1_cg {A B A2 B2 : fm_M} {u L b r L2 b2 : Nat} (h : gL1 A B u L b r) (hL : L ≤ L2) (hb : b2.testBit (16 + r) = b.testBit (16 + r)) (hA : A2.1 (u + 11) r = A.1 (u + 11) r ∧ A2.1 (u + 12) r = A.1 (u + 12) r) (hB : B2.1 88 (3 + r) = B.1 88 (3 + r) ∧ B2.1 89 (3 + r) = B.1 89 (3 + r)) (hc : ∀ i, i < L → B2.1 90 (64 + i) = B.1 90 (64 + i) ∧ B2.1 91 (64 + i) = B.1 91 (64 + i)) : gL1 A2 B2 u L2 b2 r := by
  obtain ⟨s, e, h1, h2, h3, h4, h5, h6, h7, h8⟩ := h
  exact ⟨s, e, by rw [hA.1]; exact h1, by rw [hA.2]; exact h2, by rw [hB.1]; exact h3, by rw [hB.2]; exact h4, h5, by omega, fun z => seg_cg (h7 z) (fun i _ y => hc i (by omega)), by rw [hb]; exact h8⟩
theorem gL_cg {A B A2 B2 : fm_M} {u L b b2 : Nat} (h : gL A B u L b) (hb : ∀ r, r < 3 → b2.testBit (16 + r) = b.testBit (16 + r)) (hA : ∀ q k, q = u + 11 ∨ q = u + 12 → A2.1 q k = A.1 q k) (hB : ∀ q k, ((q = 88 ∨ q = 89) ∧ 3 ≤ k) ∨ ((q = 90 ∨ q = 91) ∧ 64 ≤ k) → B2.1 q k = B.1 q k) : gL A2 B2 u L b2 := fun r hr => gL1_cg (h r hr) (Nat.le_refl _) (hb r hr) ⟨hA _ _ (by omega), hA _ _ (by omega)⟩ ⟨hB _ _ (by omega), hB _ _ (by omega)⟩ (fun i _ => ⟨hB _ _ (by omega), hB _ _ (by omega)⟩)
theorem LDp_cg {A B A2 B2 : fm_M} {u L nf nm nw a b : Nat} (h : LDp A B u L nf nm nw a b) (hA : ∀ q k, (q = 1 ∧ k = 11) ∨ (u ≤ q ∧ q ≤ u + 9) ∨ q = u + 11 ∨ q = u + 12 → A2.1 q k = A.1 q k) (hB : ∀ q k, (q = 76 ∧ k = 17) ∨ (q = 78 ∧ 10 ≤ k ∧ k ≠ 18) ∨ (79 ≤ q ∧ q ≤ 89) ∨ ((q = 90 ∨ q = 91) ∧ 64 ≤ k) → B2.1 q k = B.1 q k) : LDp A2 B2 u L nf nm nw a b := by
  obtain ⟨h1, h2, h3, h4, h5, h6, h7⟩ := h
  exact ⟨gC_cg h1 (fun q k z => hA q k (by omega)) (fun q k z => hB q k (by omega)), gV_cg h2 (fun q k z => hA q k (by omega)) (fun q k z => hB q k (by omega)), gF_cg h3 (fun q k z => hA q k (by omega)) (fun q k z => hB q k (by omega)), gM_cg h4 (fun q k z => hA q k (by omega)) (fun q k z => hB q k (by omega)), gW_cg h5 (fun q k z => hA q k (by omega)) (fun q k z => hB q k (by omega)), gT_cg h6 (hA _ _ (by omega)) (hB _ _ (by omega)), gL_cg h7 (fun _ _ => rfl) (fun q k z => hA q k (by omega)) (fun q k z => hB q k (by omega))⟩
/-- what the reading of a text writes -/
def twA (u q k : Nat) : Prop := (q = 1 ∧ (k = 3 ∨ k = 4 ∨ 7 ≤ k)) ∨ (u ≤ q ∧ q ≤ u + 14)
def twB (q k : Nat) : Prop := (q = 76 ∧ ((17 ≤ k ∧ k ≤ 18) ∨ (20 ≤ k ∧ k ≤ 25) ∨ k = 28 ∨ k = 29)) ∨ (q = 78 ∧ 10 ≤ k) ∨ (79 ≤ q ∧ q ≤ 83 ∧ 8 ≤ k) ∨ (84 ≤ q ∧ q ≤ 86 ∧ 10 ≤ k) ∨ (q = 87 ∧ 8 ≤ k) ∨ ((q = 88 ∨ q = 89) ∧ 3 ≤ k) ∨ ((q = 90 ∨ q = 91) ∧ 64 ≤ k)
def tfA (u : Nat) (A A2 : fm_M) : Prop := ∀ q k, ¬ twA u q k → A2.1 q k = A.1 q k
def tfB (B B2 : fm_M) : Prop := ∀ q k, ¬ twB q k → B2.1 q k = B.1 q k
def LO (A B A2 B2 : fm_M) (u n lo : Nat) : Prop := tfA u A A2 ∧ tfB B B2 ∧ (DF A2 B2 ∨ ∃ L2 nf nm nw a b : Nat, XR A2 B2 u n (lo + 1) 0 L2 L2 ∧ LDp A2 B2 u L2 nf nm nw a b ∧ B2.1 76 18 = B.1 76 18 + 1)
theorem or_tb (b w i : Nat) : (b ||| 2 ^ w).testBit i = (b.testBit i || decide (w = i)) := by rw [Nat.testBit_or, Nat.testBit_two_pow]
/-- the first word of a line is told -/
theorem l_word {A B A1 : fm_M} {u n lo L nf nm nw a b a1 w : Nat} (hb : xb A B u n) (h : XR A B u n lo 0 L L) (hd : LDp A B u L nf nm nw a b) (hw : w ≤ 8) (ht : ¬ A.1 1 8 = 0) (hA1 : (A1 = A ∧ a1 = a ∧ ¬ (w = 3 ∨ (5 ≤ w ∧ w ≤ 7))) ∨ (w < 8 ∧ A1 = fm_up A 1 11 (A.1 1 11 ||| ((1 : Int32) <<< (nI w &&& 31))) ∧ a1 = a ||| 2 ^ w)) : ∃ A2 B2 : fm_M, F_X6_advance A1 = some ((), A2) ∧ F_X10_token (fm_up B 76 17 (B.1 76 17 ||| ((1 : Int32) <<< (nI w &&& 31)))) = some ((), B2) ∧ xb A2 B2 u n ∧ XR A2 B2 u n (lo + 1) 0 L L ∧ LDp A2 B2 u L nf nm nw a1 (b ||| 2 ^ w) ∧ (∀ q k, (q ≠ 1 ∨ k < 7) → A2.1 q k = A.1 q k) ∧ (∀ q k, (q ≠ 76 ∨ k < 17 ∨ (17 < k ∧ k < 20) ∨ 23 < k) → B2.1 q k = B.1 q k) := by
  obtain ⟨B1, eB⟩ : ∃ z, z = fm_up B 76 17 (B.1 76 17 ||| ((1 : Int32) <<< (nI w &&& 31))) := ⟨_, rfl⟩
  rw [← eB]
  have hu := fm_td hb.1
  have fA : ∀ q k, (q ≠ 1 ∨ k ≠ 11) → A1.1 q k = A.1 q k := by
    intro q k z
    rcases hA1 with ⟨e, -⟩ | ⟨-, e, -⟩
    · rw [e]
    · rw [e, fm_up_ne (by omega)]
  have fB : ∀ q k, (q ≠ 76 ∨ k ≠ 17) → B1.1 q k = B.1 q k := fun q k z => by rw [eB, fm_up_ne (by omega)]
  have hb1 : xb A1 B1 u n := xb_cg hb (fun q k z => Or.inr (fA q k (by unfold cA at z; omega))) (fun q k z => Or.inr (fB q k (by unfold cB at z; omega)))
  have h1 : XR A1 B1 u n lo 0 L L := XR_cg h (fun q k z => fA q k (by unfold cA at z; omega)) (fun q k z => fB q k (by unfold cB at z; omega))
  obtain ⟨A2, B2, x1, x2, x3, -, x4, x5⟩ := l_adv hb1 h1
  have gA : ∀ q k, (q ≠ 1 ∨ k < 7) → A2.1 q k = A.1 q k := fun q k z => by rw [x4 q k (by omega), fA q k (by omega)]
  have gB : ∀ q k, (q ≠ 76 ∨ k < 17 ∨ (17 < k ∧ k < 20) ∨ 23 < k) → B2.1 q k = B.1 q k := fun q k z => by rw [x5 q k (by omega), fB q k (by omega)]
  refine ⟨A2, B2, x1, x2, xb_cg hb1 (fun q k z => by unfold cA sA at *; by_cases c : (q = 1 ∧ 7 ≤ k ∧ k ≤ 10); exact Or.inl (by omega); exact Or.inr (x4 q k (by omega))) (fun q k z => by unfold cB sB at *; by_cases c : (q = 76 ∧ 20 ≤ k ∧ k ≤ 23); exact Or.inl (by omega); exact Or.inr (x5 q k (by omega))), x3 (by rw [fA 1 8 (by omega)]; exact ht), ?_, gA, gB⟩
  obtain ⟨d1, d2, d3, d4, d5, ⟨e1, e2, e3, e4, e5⟩, d7⟩ := hd
  have p8 : (2 : Nat) ^ w < 2 ^ 24 := Nat.pow_lt_pow_right (by omega) (by omega)
  refine ⟨gC_cg d1 (fun q k z => gA q k (by omega)) (fun q k z => gB q k (by omega)), gV_cg d2 (fun q k z => gA q k (by omega)) (fun q k z => gB q k (by omega)), gF_cg d3 (fun q k z => gA q k (by omega)) (fun q k z => gB q k (by omega)), gM_cg d4 (fun q k z => gA q k (by omega)) (fun q k z => gB q k (by omega)), gW_cg d5 (fun q k z => gA q k (by omega)) (fun q k z => gB q k (by omega)), ?_, gL_cg d7 (fun r hr => by rw [or_tb, decide_eq_false (by omega), Bool.or_false]) (fun q k z => gA q k (by omega)) (fun q k z => gB q k (by omega))⟩
  have eB2 : B2.1 76 17 = nI (b ||| 2 ^ w) := by rw [x5 _ _ (by omega), eB, fm_up_get, e4, (wd_sh w (by omega)).2, wd_or e2 p8]
  rcases hA1 with ⟨q1, q2, q3⟩ | ⟨q0, q1, q2⟩
  · exact ⟨by rw [q2]; exact e1, Nat.or_lt_two_pow e2 p8, by rw [x4 _ _ (by omega), q1, q2]; exact e3, eB2, fun i hi => by rw [or_tb, decide_eq_false (by omega), Bool.or_false, q2]; exact e5 i hi⟩
  · have p7 : (2 : Nat) ^ w < 2 ^ 8 := Nat.pow_lt_pow_right (by omega) q0
    exact ⟨by rw [q2]; exact Nat.or_lt_two_pow (n := 8) e1 p7, Nat.or_lt_two_pow e2 p8, by rw [x4 _ _ (by omega), q1, fm_up_get, q2, e3, (wd_sh w (by omega)).2, wd_or (by omega) p8], eB2, fun i hi => by rw [q2, or_tb, or_tb, e5 i hi]⟩
theorem xb_eu {A B : fm_M} {u n : Nat} (h : xb A B u n) : Int32.toNatClampNeg (A.1 1 5) = u := by
  have hu := fm_td h.1
  rw [h.2.2, nI_clamp (by omega)]
/-- a number, and where it goes -/
theorem l_nw {A B : fm_M} {u n lo L K : Nat} {P : Prop} (hb : xb A B u n) (h : DF A B ∨ (XR A B u n lo 0 L K ∧ P)) (a b c i q j : Nat) {a' b' : Int32} (ea : a' = nI a) (eb : b' = nI b) (ha : a < 2 ^ 31) (hbb : b < 2 ^ 31) (hc : u ≤ c ∧ c ≤ u + 9) (hq : 78 ≤ q ∧ q ≤ 87 ∧ (q ≠ 78 ∨ j ≠ 18)) : ∃ (x y : Int32) (A1 B1 A2 B2 : fm_M), F_X6_number a' b' A = some (x, A1) ∧ F_X10_numeral a' b' B = some (y, B1) ∧ fm_up A1 c i x = A2 ∧ fm_up B1 q j y = B2 ∧ xb A2 B2 u n ∧ (∀ r k, ¬ sA r k → (r ≠ c ∨ k ≠ i) → A2.1 r k = A.1 r k) ∧ (∀ r k, ¬ sB r k → (r ≠ q ∨ k ≠ j) → B2.1 r k = B.1 r k) ∧ A2.1 c i = x ∧ B2.1 q j = y ∧ (DF A2 B2 ∨ (XR A2 B2 u n lo 0 L K ∧ P ∧ ∃ z : Nat, a ≤ z ∧ z ≤ b ∧ x = nI z ∧ y = nI z)) := by
  subst ea eb
  have hu := fm_td hb.1
  obtain ⟨x, y, A1, B1, x1, x2, x3, x4, x5⟩ := l_num hb h a b ha hbb
  refine ⟨x, y, A1, B1, _, _, x1, x2, rfl, rfl, xb_cg (xb_s hb x3 x4) (fun r k z => Or.inr (fm_up_ne (by unfold cA at z; omega))) (fun r k z => Or.inr (fm_up_ne (by unfold cB at z; omega))), fun r k z1 z2 => by rw [fm_up_ne (by omega), x3 r k z1], fun r k z1 z2 => by rw [fm_up_ne (by omega), x4 r k z1], fm_up_get, fm_up_get, ?_⟩
  rcases x5 with x5 | ⟨y1, y2⟩
  · exact Or.inl (DF_cg x5 (fun k z => fm_up_ne (by omega)) (fun k z z2 => fm_up_ne (by omega)))
  · exact Or.inr ⟨XR_cg y1 (fun r k z => fm_up_ne (by unfold cA at z; omega)) (fun r k z => fm_up_ne (by unfold cB at z; omega)), y2⟩
theorem md_fr (i : Nat) (hi : i < 10) (B : fm_M) : F_X10_fresher (nI i) B = some (B.1 78 (10 + i), B) := by
  rw [F_X10_fresher, show (10 + nI i : Int32) = nI (10 + i) from nI_add 10 i, fm_gd_t (nu_inb (by omega) (by omega)), nI_clamp (by omega)]
theorem md_rd (i : Nat) (hi : i < 10) (v : Int32) (B : fm_M) : F_X10_reads (nI i) v B = some ((), fm_up B 78 (10 + i) v) := by
  rw [F_X10_reads, show (10 + nI i : Int32) = nI (10 + i) from nI_add 10 i, fm_gd_t (nu_inb (by omega) (by omega)), nI_clamp (by omega), fm_lt]
