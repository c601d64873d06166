/-! expressions: what both hold while they read one -/
def xwA (u q k : Nat) : Prop := (q = 1 ∧ (k = 3 ∨ k = 4 ∨ (7 ≤ k ∧ k ≤ 10))) ∨ (q = u + 10 ∧ (k = 4 ∨ k = 5)) ∨ q = u + 13 ∨ q = u + 14
def xwB (q k : Nat) : Prop := (q = 76 ∧ ((20 ≤ k ∧ k ≤ 25) ∨ k = 28 ∨ k = 29)) ∨ (q = 78 ∧ k = 18) ∨ (q = 90 ∧ 64 ≤ k) ∨ (q = 91 ∧ 64 ≤ k)
def xfA (u : Nat) (A A2 : fm_M) : Prop := ∀ q k, ¬ xwA u q k → A2.1 q k = A.1 q k
def xfB (B B2 : fm_M) : Prop := ∀ q k, ¬ xwB q k → B2.1 q k = B.1 q k
theorem xfA_rf {u : Nat} {A : fm_M} : xfA u A A := fun _ _ _ => rfl
theorem xfB_rf {A : fm_M} : xfB A A := fun _ _ _ => rfl
theorem xfA_tr {u : Nat} {A B C : fm_M} (h : xfA u A B) (g : xfA u B C) : xfA u A C := fun q k z => by rw [g q k z, h q k z]
theorem xfB_tr {A B C : fm_M} (h : xfB A B) (g : xfB B C) : xfB A C := fun q k z => by rw [g q k z, h q k z]
def xb (A B : fm_M) (u n : Nat) : Prop := fm_isTd u = true ∧ tb A B n ∧ A.1 1 5 = nI u
theorem xb_fr {A B A2 B2 : fm_M} {u n : Nat} (h : xb A B u n) (a : xfA u A A2) (b : xfB B B2) : xb A2 B2 u n := by
  obtain ⟨h1, h2, h3⟩ := h
  have hu := fm_td h1
  exact ⟨h1, tb_cg h2 (fun q k z => a q k (by unfold xwA; omega)) (fun q k z => b q k (by unfold xwB; omega)), by rw [a 1 5 (by unfold xwA; omega)]; exact h3⟩
def tkS (A B : fm_M) (n lo : Nat) : Prop := ∃ p k : Nat, lo ≤ p ∧ p ≤ k ∧ k ≤ n ∧ A.1 1 7 = nI k ∧ B.1 76 20 = nI k ∧ A.1 1 9 = nI p ∧ B.1 76 21 = nI p ∧ tkr (A.1 1 8) (A.1 1 10) (B.1 76 22) (B.1 76 23) ∧ (¬ A.1 1 8 = 0 → p < k)
def xtk (A B : fm_M) (u i : Nat) : Prop :=
  (A.1 (u + 13) i = 2 ∧ B.1 90 (64 + i) = 0 ∧ B.1 91 (64 + i) = A.1 (u + 14) i)
  ∨ (∃ j : Nat, j < 7 ∧ A.1 (u + 13) i = nI (32 + j) ∧ B.1 90 (64 + i) = 1 ∧ B.1 91 (64 + i) = nI j)
  ∨ (A.1 (u + 13) i = 31 ∧ B.1 90 (64 + i) = 2 ∧ B.1 91 (64 + i) = 260)
  ∨ (B.1 90 (64 + i) = 2 ∧ ev_op (A.1 (u + 13) i) (B.1 91 (64 + i)))
def xst (B : fm_M) (ht : Nat → Nat) (i : Nat) : Prop := (B.1 90 (64 + i) ≠ 2 → ht (i + 1) = ht i + 1) ∧ (B.1 90 (64 + i) = 2 → B.1 91 (64 + i) = 260 → 1 ≤ ht i ∧ ht (i + 1) = ht i) ∧ (B.1 90 (64 + i) = 2 → B.1 91 (64 + i) ≠ 260 → 2 ≤ ht i ∧ ht (i + 1) + 1 = ht i)
def seg (B : fm_M) (a b : Nat) : Prop := ∃ ht : Nat → Nat, ht a = 0 ∧ ht b = 1 ∧ ∀ i, a ≤ i → i < b → xst B ht i
theorem seg_cg {B B2 : fm_M} {a b : Nat} (h : seg B a b) (hB : ∀ i, a ≤ i → i < b → B2.1 90 (64 + i) = B.1 90 (64 + i) ∧ B2.1 91 (64 + i) = B.1 91 (64 + i)) : seg B2 a b := by
  obtain ⟨ht, h1, h2, h3⟩ := h
  refine ⟨ht, h1, h2, fun i x y => ?_⟩
  have := h3 i x y
  unfold xst at this ⊢
  rw [(hB i x y).1, (hB i x y).2]; exact this
theorem seg_leaf {B : fm_M} {a : Nat} (h : B.1 90 (64 + a) ≠ 2) : seg B a (a + 1) := by
  obtain ⟨hn, n1⟩ : ∃ hn : Nat → Nat, ∀ i, hn i = i - a := ⟨fun i => i - a, fun _ => rfl⟩
  refine ⟨hn, by rw [n1]; omega, by rw [n1]; omega, fun i x y => ⟨fun _ => by rw [n1, n1]; omega, fun z => ?_, fun z => ?_⟩⟩
  · have : i = a := by omega
    subst this; exact absurd z h
  · have : i = a := by omega
    subst this; exact absurd z h
theorem seg_not {B : fm_M} {a b : Nat} (h : seg B a b) (hab : a ≤ b) (h1 : B.1 90 (64 + b) = 2) (h2 : B.1 91 (64 + b) = 260) : seg B a (b + 1) := by
  obtain ⟨ht, e1, e2, e3⟩ := h
  obtain ⟨hn, n1, n2⟩ : ∃ hn : Nat → Nat, (∀ i, i ≤ b → hn i = ht i) ∧ (∀ i, b < i → hn i = 1) := ⟨fun i => if i ≤ b then ht i else 1, fun i h => if_pos h, fun i h => if_neg (by omega)⟩
  refine ⟨hn, by rw [n1 a hab]; exact e1, n2 _ (by omega), fun i x y => ?_⟩
  by_cases c : i = b
  · subst c
    unfold xst
    rw [n1 i (Nat.le_refl _), n2 (i + 1) (by omega)]
    exact ⟨fun z => absurd h1 z, fun _ _ => by omega, fun _ z => absurd h2 z⟩
  · have := e3 i x (by omega)
    unfold xst at this ⊢
    rw [n1 i (by omega), n1 (i + 1) (by omega)]
    exact this
theorem seg_bin {B : fm_M} {a b c : Nat} (h : seg B a b) (g : seg B b c) (hab : a ≤ b) (hbc : b < c) (h1 : B.1 90 (64 + c) = 2) (h2 : B.1 91 (64 + c) ≠ 260) : seg B a (c + 1) := by
  obtain ⟨ht, e1, e2, e3⟩ := h
  obtain ⟨hu, f1, f2, f3⟩ := g
  obtain ⟨hn, n1, n2, n3⟩ : ∃ hn : Nat → Nat, (∀ i, i ≤ b → hn i = ht i) ∧ (∀ i, b < i → i ≤ c → hn i = 1 + hu i) ∧ (∀ i, c < i → hn i = 1) := ⟨fun i => if i ≤ b then ht i else if i ≤ c then 1 + hu i else 1, fun i h => if_pos h, fun i h k => by show (if i ≤ b then ht i else if i ≤ c then 1 + hu i else 1) = _; rw [if_neg (by omega), if_pos k], fun i h => by show (if i ≤ b then ht i else if i ≤ c then 1 + hu i else 1) = _; rw [if_neg (by omega), if_neg (by omega)]⟩
  refine ⟨hn, by rw [n1 a hab]; exact e1, n3 _ (by omega), fun i x y => ?_⟩
  by_cases d : i = c
  · subst d
    unfold xst
    rw [n2 i (by omega) (Nat.le_refl _), n3 (i + 1) (by omega)]
    exact ⟨fun z => absurd h1 z, fun _ z => absurd z h2, fun _ _ => by omega⟩
  · by_cases z : i < b
    · have := e3 i x z
      unfold xst at this ⊢
      rw [n1 i (by omega), n1 (i + 1) (by omega)]
      exact this
    · have := f3 i (by omega) (by omega)
      unfold xst at this ⊢
      have hi : hn i = 1 + hu i := by
        by_cases w : i ≤ b
        · have : i = b := by omega
          subst this
          rw [n1 i w, e2, f1]
        · exact n2 i (by omega) (by omega)
      rw [hi, n2 (i + 1) (by omega) (by omega)]
      obtain ⟨q1, q2, q3⟩ := this
      exact ⟨fun w => by have := q1 w; omega, fun w v => by have := q2 w v; omega, fun w v => by have := q3 w v; omega⟩
def XR (A B : fm_M) (u n lo d L K : Nat) : Prop := (A.1 1 3 = 0 ∧ B.1 76 24 = 0 ∧ A.1 1 4 = B.1 76 25) ∧ tkS A B n lo ∧ (A.1 (u + 10) 4 = nI L ∧ B.1 78 18 = nI L ∧ A.1 (u + 10) 5 = nI K ∧ B.1 76 29 = nI K ∧ L ≤ K ∧ K ≤ 64) ∧ (B.1 76 28 = nI d ∧ d ≤ 8) ∧ ∀ i, i < L → xtk A B u i
def XF (A B : fm_M) (u : Nat) : Prop := ∃ f : Nat, 1 ≤ f ∧ f ≤ 4 ∧ A.1 1 3 = nI f ∧ B.1 76 24 = nI f ∧ A.1 1 4 = B.1 76 25 ∧ ∃ L : Nat, L ≤ 64 ∧ A.1 (u + 10) 4 = nI L
theorem XF.a {A B : fm_M} {u : Nat} (h : XF A B u) : ¬ A.1 1 3 = 0 := by obtain ⟨f, h1, h2, h3, -⟩ := h; rw [h3]; exact nI_ne0 (by omega) (by omega)
theorem XF.b {A B : fm_M} {u : Nat} (h : XF A B u) : ¬ B.1 76 24 = 0 := by obtain ⟨f, h1, h2, -, h3, -⟩ := h; rw [h3]; exact nI_ne0 (by omega) (by omega)
/-- the code laid so far stays -/
def xk (A B A2 B2 : fm_M) (u L : Nat) : Prop := ∀ i, i < L → A2.1 (u + 13) i = A.1 (u + 13) i ∧ A2.1 (u + 14) i = A.1 (u + 14) i ∧ B2.1 90 (64 + i) = B.1 90 (64 + i) ∧ B2.1 91 (64 + i) = B.1 91 (64 + i)
theorem xk_tr {A B A2 B2 A3 B3 : fm_M} {u L M : Nat} (h : xk A B A2 B2 u L) (g : xk A2 B2 A3 B3 u M) (hm : L ≤ M) : xk A B A3 B3 u L := fun i hi => by
  obtain ⟨a, b, c, d⟩ := h i hi
  obtain ⟨e, f, k, l⟩ := g i (by omega)
  exact ⟨by rw [e, a], by rw [f, b], by rw [k, c], by rw [l, d]⟩
theorem xtk_cg {A B A2 B2 : fm_M} {u i : Nat} (h : xtk A B u i) (g : A2.1 (u + 13) i = A.1 (u + 13) i ∧ A2.1 (u + 14) i = A.1 (u + 14) i ∧ B2.1 90 (64 + i) = B.1 90 (64 + i) ∧ B2.1 91 (64 + i) = B.1 91 (64 + i)) : xtk A2 B2 u i := by
  unfold xtk at h ⊢
  rw [g.1, g.2.1, g.2.2.1, g.2.2.2]; exact h
def XO (A B A2 B2 : fm_M) (u n lo d L K : Nat) : Prop := xfA u A A2 ∧ xfB B B2 ∧ (XF A2 B2 u ∨ ∃ L2 K2 : Nat, XR A2 B2 u n lo d L2 K2 ∧ L < L2 ∧ K2 + L = K + L2 ∧ seg B2 L L2 ∧ xk A B A2 B2 u L)
def XC (u n d : Nat) (fA fB : fm_M → Option (Unit × fm_M)) : Prop :=
  (∀ (A B : fm_M) (lo L K : Nat), xb A B u n → XR A B u n lo d L K → ∃ A2 B2 : fm_M, fA A = some ((), A2) ∧ fB B = some ((), B2) ∧ XO A B A2 B2 u n lo d L K) ∧
  (∀ A B : fm_M, xb A B u n → XF A B u → ∃ A2 B2 : fm_M, fA A = some ((), A2) ∧ fB B = some ((), B2) ∧ xfA u A A2 ∧ xfB B B2 ∧ XF A2 B2 u)
/-- the reference does no more once there is a fault -/
theorem md_dead {B : fm_M} (h : ¬ B.1 76 24 = 0) : F_X10_knot B = some ((), B) ∧ F_X10_goOn B = some ((), B) ∧ (∀ a b, F_X10_puts a b B = some ((), B)) ∧ (∀ a, F_X10_isWord a B = some (0, B)) ∧ (∀ a, F_X10_isSign a B = some (0, B)) := by
  refine ⟨by rw [F_X10_knot, if_neg h], by rw [F_X10_goOn, if_neg h], fun a b => by rw [F_X10_puts, if_neg h], fun a => by rw [F_X10_isWord, if_neg h], fun a => by rw [F_X10_isSign, if_neg h]⟩
theorem cl_addF {A B : fm_M} {u n : Nat} (x y : Int32) (hb : xb A B u n) (h : XF A B u) : ∃ A2 : fm_M, F_X3_add (u + 10) x y A = some ((), A2) ∧ xfA u A A2 ∧ XF A2 B u := by
  obtain ⟨f, h1, h2, h3, h4, h5, L, h6, h7⟩ := h
  have hu := fm_td hb.1
  rw [F_X3_add, fm_gd_t (rl_lw hb.1), h7]
  by_cases c : L = 64
  · subst c
    rw [if_pos (show (64 : Int32) ≤ nI 64 from nI_le (a := 64) (by omega) (by omega))]
    exact ⟨A, rfl, xfA_rf, f, h1, h2, h3, h4, h5, 64, h6, h7⟩
  · rw [if_neg (show ¬ (64 : Int32) ≤ nI L from nI_ge (b := 64) (by omega) (by omega)), fm_gd_t (nu_inb (by omega) (by omega)), nI_clamp (by omega)]
    simp only [fm_lt]
    rw [fm_up_ne (by omega), h7, fm_gd_t (nu_inb (by omega) (by omega)), nI_clamp (by omega), fm_up_ne (by omega), fm_up_ne (by omega), h7, nI_1]
    exact ⟨_, rfl, fun q k z => by rw [fm_up_ne (by unfold xwA at z; omega), fm_up_ne (by unfold xwA at z; omega), fm_up_ne (by unfold xwA at z; omega)], f, h1, h2, by rw [fm_up_ne (by omega), fm_up_ne (by omega), fm_up_ne (by omega)]; exact h3, h4, by rw [fm_up_ne (by omega), fm_up_ne (by omega), fm_up_ne (by omega)]; exact h5, L + 1, by omega, by rw [fm_up_get]⟩
/-- a fault -/
theorem x_wr {A B : fm_M} {u n lo d L K f : Nat} (hb : xb A B u n) (h : XR A B u n lo d L K) (hf : 1 ≤ f) (hf4 : f ≤ 4) : ∃ A2 B2 : fm_M, F_X6_refuse (nI f) A = some ((), A2) ∧ F_X10_wrong (nI f) B = some ((), B2) ∧ xfA u A A2 ∧ xfB B B2 ∧ XF A2 B2 u := by
  obtain ⟨⟨h1, h2, h3⟩, ⟨p, k, t1, t2, t3, t4, t5, t6, t7, t8, t9⟩, ⟨l1, l2, l3, l4, l5, l6⟩, h4, h5⟩ := h
  have hu := fm_td hb.1
  rw [F_X6_refuse, if_pos h1, F_X10_wrong, if_pos h2]
  simp only [fm_lt]
  rw [fm_up_ne (by omega), t6, fm_up_ne (by omega), t7]
  exact ⟨_, _, rfl, rfl, fun q k z => by rw [fm_up_ne (by unfold xwA at z; omega), fm_up_ne (by unfold xwA at z; omega)], fun q k z => by rw [fm_up_ne (by unfold xwB at z; omega), fm_up_ne (by unfold xwB at z; omega)], f, hf, hf4, by rw [fm_up_ne (by omega), fm_up_get], by rw [fm_up_ne (by omega), fm_up_get], by rw [fm_up_get, fm_up_get], L, by omega, by rw [fm_up_ne (by omega), fm_up_ne (by omega)]; exact l1⟩
/-- on to the next token -/
theorem x_adv {A B A1 B1 : fm_M} {u n lo d L K L1 K1 d1 : Nat} (hb : xb A1 B1 u n) (h : XR A B u n lo d L K) (ha : ∀ q k, q = 1 → A1.1 q k = A.1 q k) (hbb : ∀ k, (20 ≤ k ∧ k ≤ 25) → B1.1 76 k = B.1 76 k) (e1 : A1.1 (u + 10) 4 = nI L1 ∧ B1.1 78 18 = nI L1 ∧ A1.1 (u + 10) 5 = nI K1 ∧ B1.1 76 29 = nI K1 ∧ L1 ≤ K1 ∧ K1 ≤ 64) (e2 : B1.1 76 28 = nI d1 ∧ d1 ≤ 8) (e3 : ∀ i, i < L1 → xtk A1 B1 u i) : ∃ A2 B2 : fm_M, F_X6_advance A1 = some ((), A2) ∧ F_X10_token B1 = some ((), B2) ∧ XR A2 B2 u n lo d1 L1 K1 ∧ (∀ q j, (q ≠ 1 ∨ j < 7 ∨ 10 < j) → A2.1 q j = A1.1 q j) ∧ (∀ q j, (q ≠ 76 ∨ j < 20 ∨ 23 < j) → B2.1 q j = B1.1 q j) ∧ (∀ p0 : Nat, A.1 1 9 = nI p0 → p0 < 2 ^ 31 → ¬ A.1 1 8 = 0 → tkS A2 B2 n (p0 + 1)) := by
  obtain ⟨⟨h1, h2, h3⟩, ⟨p, k, t1, t2, t3, t4, t5, t6, t7, t8, t9⟩, -, h4, h5⟩ := h
  have hu := fm_td hb.1
  have hn := hb.2.1.1
  obtain ⟨p2, k2, A2, B2, x1, x2, x3, x4, x5, x6, x7, x8, x9, x10, x11, x12, x13⟩ := tk_adv hb.2.1 (by rw [ha _ _ rfl]; exact t4) (by rw [hbb 20 (by omega)]; exact t5) t3
  refine ⟨A2, B2, x4, x5, ⟨⟨by rw [x12 _ _ (by omega), ha _ _ rfl]; exact h1, by rw [x13 _ _ (by omega), hbb 24 (by omega)]; exact h2, by rw [x12 _ _ (by omega), ha _ _ rfl, x13 _ _ (by omega), hbb 25 (by omega)]; exact h3⟩, ⟨p2, k2, by omega, x2, x3, x6, x7, x8, x9, x10, x11⟩, ?_, ⟨by rw [x13 _ _ (by omega)]; exact e2.1, e2.2⟩, fun i hi => xtk_cg (e3 i hi) ⟨x12 _ _ (by omega), x12 _ _ (by omega), x13 _ _ (by omega), x13 _ _ (by omega)⟩⟩, x12, x13, fun p0 w w2 w3 => ?_⟩
  · rw [x12 _ _ (by omega), x12 _ _ (by omega), x13 _ _ (by omega), x13 _ _ (by omega)]; exact e1
  · have ep : p = p0 := (nI_eq (by omega) w2).mp (t6.symm.trans w)
    have := t9 w3
    exact ⟨p2, k2, by omega, x2, x3, x6, x7, x8, x9, x10, x11⟩
/-- a knot is passed -/
theorem x_knot {A B : fm_M} {u n lo d L K : Nat} (hb : xb A B u n) (h : XR A B u n lo d L K) : ∃ A2 B1 B2 : fm_M, F_X6_passKnot A = some ((), A2) ∧ F_X10_knot B = some ((), B1) ∧ F_X10_goOn B1 = some ((), B2) ∧ xfA u A A2 ∧ xfB B B2 ∧ (XF A2 B2 u ∨ (XR A2 B2 u n lo d L (K + 1) ∧ xk A B A2 B2 u L)) := by
  obtain ⟨⟨h1, h2, h3⟩, -, ⟨l1, l2, l3, l4, l5, l6⟩, h4, h5⟩ := id h
  have hu := fm_td hb.1
  have eu : Int32.toNatClampNeg (A.1 1 5) = u := by rw [hb.2.2, nI_clamp (by omega)]
  rw [F_X6_passKnot]
  simp only [fm_lt]
  rw [eu, fm_gd_t hb.1, l3, F_X10_knot, if_pos h2, l4]
  by_cases c : K = 64
  · subst c
    obtain ⟨A2, B2, x1, x2, x3, x4, x5⟩ := x_wr (f := 2) hb h (by omega) (by omega)
    rw [if_neg (show ¬ nI 64 < (64 : Int32) by decide), if_pos (show nI 64 = (64 : Int32) from rfl), show F_X6_refuse 2 A = _ from x1, fm_bd_s, show F_X10_wrong 2 B = _ from x2, fm_bd_s]
    exact ⟨A2, B2, B2, rfl, rfl, (md_dead x5.b).2.1, x3, x4, Or.inl x5⟩
  · have hb1 : xb (fm_up A (u + 10) 5 (nI (K + 1))) (fm_up B 76 29 (nI (K + 1))) u n := xb_fr hb (fun q k z => fm_up_ne (by unfold xwA at z; omega)) (fun q k z => fm_up_ne (by unfold xwB at z; omega))
    obtain ⟨A2, B2, x1, x2, x3, x4, x5, -⟩ := x_adv (L1 := L) (K1 := K + 1) (d1 := d) hb1 h (fun q k z => fm_up_ne (by omega)) (fun k z => fm_up_ne (by omega)) ⟨by rw [fm_up_ne (by omega)]; exact l1, by rw [fm_up_ne (by omega)]; exact l2, fm_up_get, fm_up_get, by omega, by omega⟩ (by rw [fm_up_ne (by omega)]; exact h4) (fun i hi => xtk_cg (h5 i hi) ⟨fm_up_ne (by omega), fm_up_ne (by omega), fm_up_ne (by omega), fm_up_ne (by omega)⟩)
    rw [if_pos (show nI K < (64 : Int32) from nI_lt (b := 64) (by omega) (by omega)), if_neg (show ¬ nI K = (64 : Int32) from fun z => c ((nI_eq (b := 64) (by omega) (by omega)).mp z)), nI_1, fm_gd_t hb.1, x1, fm_bd_s]
    refine ⟨A2, _, B2, rfl, rfl, ?_, fun q k z => by rw [x4 q k (by unfold xwA at z; omega), fm_up_ne (by unfold xwA at z; omega)], fun q k z => by rw [x5 q k (by unfold xwB at z; omega), fm_up_ne (by unfold xwB at z; omega)], Or.inr ⟨x3, fun i hi => ⟨by rw [x4 _ _ (by omega), fm_up_ne (by omega)], by rw [x4 _ _ (by omega), fm_up_ne (by omega)], by rw [x5 _ _ (by omega), fm_up_ne (by omega)], by rw [x5 _ _ (by omega), fm_up_ne (by omega)]⟩⟩⟩
    rw [F_X10_goOn, fm_up_ne (by omega), if_pos h2, x2, fm_bd_s]
/-- the reference lays a piece of code -/
theorem md_puts {B : fm_M} {L : Nat} (a b : Int32) (h0 : B.1 76 24 = 0) (hL : B.1 78 18 = nI L) (hl : L < 64) : F_X10_puts a b B = some ((), fm_up (fm_up (fm_up B 90 (64 + L) a) 91 (64 + L) b) 78 18 (nI (L + 1))) := by
  rw [F_X10_puts, if_pos h0, F_X10_fresher, fm_gd_t (by decide), fm_bd_s, show Int32.toNatClampNeg (10 + 8) = 18 from rfl, hL, show (64 + nI L : Int32) = nI (64 + L) from nI_add 64 L, fm_gd_t (nu_inb (by omega) (by omega)), nI_clamp (by omega), fm_lt, F_X10_fresher, fm_gd_t (by decide), fm_bd_s, show Int32.toNatClampNeg (10 + 8) = 18 from rfl, fm_up_ne (by omega), hL, show (64 + nI L : Int32) = nI (64 + L) from nI_add 64 L, fm_gd_t (nu_inb (by omega) (by omega)), nI_clamp (by omega), fm_lt, F_X10_fresher, fm_gd_t (by decide), fm_bd_s, show Int32.toNatClampNeg (10 + 8) = 18 from rfl, fm_up_ne (by omega), fm_up_ne (by omega), hL, nI_1, F_X10_reads, fm_gd_t (by decide), fm_lt, fm_bd_s]
  rfl
theorem cl_add2 {A : fm_M} {u L : Nat} (a b : Int32) (hu : fm_isTd u = true) (hL : A.1 (u + 10) 4 = nI L) (hl : L < 64) : F_X3_add (u + 10) a b A = some ((), fm_up (fm_up (fm_up A (u + 13) L a) (u + 14) L b) (u + 10) 4 (nI (L + 1))) := by
  rw [F_X3_add, fm_gd_t (rl_lw hu), hL, if_neg (show ¬ (64 : Int32) ≤ nI L from nI_ge (b := 64) (by omega) (by omega)), fm_gd_t (nu_inb (by omega) (by omega)), nI_clamp (by omega)]
  simp only [fm_lt]
  rw [fm_up_ne (by omega), hL, fm_gd_t (nu_inb (by omega) (by omega)), nI_clamp (by omega), fm_up_ne (by omega), fm_up_ne (by omega), hL, nI_1]
/-- a sign of two sides, or none, is laid behind them -/
theorem x_put {A B : fm_M} {u n lo d L K : Nat} (hb : xb A B u n) (h : XR A B u n lo d L K) (hLK : L < K) (x y v : Int32) (ho : (x = 31 ∧ v = 260) ∨ ev_op x v) : ∃ A2 B2 : fm_M, F_X3_add (u + 10) x y A = some ((), A2) ∧ F_X10_puts 2 v B = some ((), B2) ∧ xfA u A A2 ∧ xfB B B2 ∧ XR A2 B2 u n lo d (L + 1) K ∧ xk A B A2 B2 u L ∧ B2.1 90 (64 + L) = 2 ∧ B2.1 91 (64 + L) = v := by
  obtain ⟨⟨h1, h2, h3⟩, ⟨p, k, t1, t2, t3, t4, t5, t6, t7, t8, t9⟩, ⟨l1, l2, l3, l4, l5, l6⟩, h4, h5⟩ := id h
  have hu := fm_td hb.1
  refine ⟨_, _, cl_add2 x y hb.1 l1 (by omega), md_puts 2 v h2 l2 (by omega), fun q k z => by rw [fm_up_ne (by unfold xwA at z; omega), fm_up_ne (by unfold xwA at z; omega), fm_up_ne (by unfold xwA at z; omega)], fun q k z => by rw [fm_up_ne (by unfold xwB at z; omega), fm_up_ne (by unfold xwB at z; omega), fm_up_ne (by unfold xwB at z; omega)], ?_, fun i hi => ⟨by rw [fm_up_ne (by omega), fm_up_ne (by omega), fm_up_ne (by omega)], by rw [fm_up_ne (by omega), fm_up_ne (by omega), fm_up_ne (by omega)], by rw [fm_up_ne (by omega), fm_up_ne (by omega), fm_up_ne (by omega)], by rw [fm_up_ne (by omega), fm_up_ne (by omega), fm_up_ne (by omega)]⟩, by rw [fm_up_ne (by omega), fm_up_ne (by omega), fm_up_get], by rw [fm_up_ne (by omega), fm_up_get]⟩
  have f1 : ∀ q k, q = 1 → (fm_up (fm_up (fm_up A (u + 13) L x) (u + 14) L y) (u + 10) 4 (nI (L + 1))).1 q k = A.1 q k := fun q k z => by rw [fm_up_ne (by omega), fm_up_ne (by omega), fm_up_ne (by omega)]
  have g1 : ∀ q k, q = 76 → (fm_up (fm_up (fm_up B 90 (64 + L) 2) 91 (64 + L) v) 78 18 (nI (L + 1))).1 q k = B.1 q k := fun q k z => by rw [fm_up_ne (by omega), fm_up_ne (by omega), fm_up_ne (by omega)]
  refine ⟨⟨by rw [f1 _ _ rfl]; exact h1, by rw [g1 _ _ rfl]; exact h2, by rw [f1 _ _ rfl, g1 _ _ rfl]; exact h3⟩, ⟨p, k, t1, t2, t3, by rw [f1 _ _ rfl]; exact t4, by rw [g1 _ _ rfl]; exact t5, by rw [f1 _ _ rfl]; exact t6, by rw [g1 _ _ rfl]; exact t7, by rw [f1 _ _ rfl, f1 _ _ rfl, g1 _ _ rfl, g1 _ _ rfl]; exact t8, by rw [f1 _ _ rfl]; exact t9⟩, ⟨by rw [fm_up_get], by rw [fm_up_get], by rw [fm_up_ne (by omega), fm_up_ne (by omega), fm_up_ne (by omega)]; exact l3, by rw [g1 _ _ rfl]; exact l4, by omega, l6⟩, ⟨by rw [g1 _ _ rfl]; exact h4.1, h4.2⟩, fun i hi => ?_⟩
  by_cases c : i = L
  · subst c
    unfold xtk
    rw [fm_up_ne (show u + 13 ≠ u + 10 ∨ _ from Or.inl (by omega)), fm_up_ne (show u + 13 ≠ u + 14 ∨ _ from Or.inl (by omega)), fm_up_get, fm_up_ne (show (90 : Nat) ≠ 78 ∨ _ from Or.inl (by omega)), fm_up_ne (show (90 : Nat) ≠ 91 ∨ _ from Or.inl (by omega)), fm_up_get, fm_up_ne (show (91 : Nat) ≠ 78 ∨ _ from Or.inl (by omega)), fm_up_get]
    rcases ho with ⟨o1, o2⟩ | o
    · exact Or.inr (Or.inr (Or.inl ⟨o1, rfl, o2⟩))
    · exact Or.inr (Or.inr (Or.inr ⟨rfl, o⟩))
  · refine xtk_cg (h5 i (by omega)) ⟨?_, ?_, ?_, ?_⟩ <;> rw [fm_up_ne (by omega), fm_up_ne (by omega), fm_up_ne (by omega)]
