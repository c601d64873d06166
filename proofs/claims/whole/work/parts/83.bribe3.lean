/-! the cheapest filing: the search -/
def bsum (X : Nat → Int32) : Nat → Int32
  | 0 => 0
  | i + 1 => bsum X i + X i
def bflag (X : Nat → Int32) : Nat → Int32
  | 0 => 1
  | i + 1 => bflag X i &&& (if X i = -1 then 0 else 1)
theorem bflag_1 {X : Nat → Int32} : ∀ i, (∀ g, g < i → ¬ X g = -1) → bflag X i = 1 := by
  intro i
  induction i with
  | zero => intro _; rfl
  | succ i ih => intro h; rw [bflag, ih (fun g hg => h g (by omega)), if_neg (h i (by omega))]; rfl
theorem bflag_0 {X : Nat → Int32} : ∀ i, (∃ g, g < i ∧ X g = -1) → bflag X i = 0 := by
  intro i
  induction i with
  | zero => intro ⟨g, h, _⟩; omega
  | succ i ih =>
    intro ⟨g, h1, h2⟩
    rw [bflag]
    by_cases c : X i = -1
    · rw [if_pos c, Int32.and_zero]
    · have : g ≠ i := fun z => c (z ▸ h2)
      rw [ih ⟨g, by omega, h2⟩, Int32.zero_and]
theorem bsum_bd {X : Nat → Int32} {b : Nat} : ∀ i, (∀ g, g < i → ∃ v : Nat, v ≤ b ∧ X g = nI v) → ∃ s : Nat, s ≤ b * i ∧ bsum X i = nI s := by
  intro i
  induction i with
  | zero => intro _; exact ⟨0, by omega, rfl⟩
  | succ i ih =>
    intro h
    obtain ⟨s, s1, s2⟩ := ih (fun g hg => h g (by omega))
    obtain ⟨v, v1, v2⟩ := h i (by omega)
    exact ⟨s + v, by rw [Nat.mul_succ]; omega, by rw [bsum, s2, v2, nI_add]⟩
theorem bsum_mul {Y : Nat → Int32} (pr : Int32) : ∀ i, bsum (fun g => pr * Y g) i = bsum Y i * pr := by
  intro i
  induction i with
  | zero => rw [bsum, bsum, Int32.zero_mul]
  | succ i ih => rw [bsum, bsum, ih, Int32.add_mul, Int32.mul_comm pr]
def dg (c j : Nat) : Nat := c / 9 ^ j % 9
theorem dg_lt (c j : Nat) : dg c j < 9 := Nat.mod_lt _ (by omega)
theorem dg_next (c j : Nat) : c / 9 ^ j / 9 = c / 9 ^ (j + 1) := by rw [Nat.div_div_eq_div_mul, Nat.pow_succ]
theorem br_abs : ∀ d : Nat, d < 9 → ∃ e : Nat, e ≤ 4 ∧ i_abs (nI d - 4) = nI e := by
  have : ∀ d : Nat, d < 9 → i_abs (nI d - 4) = nI (if d < 4 then 4 - d else d - 4) := by decide +kernel
  intro d hd
  refine ⟨_, ?_, this d hd⟩
  split <;> omega
theorem md_nines {M : fm_M} {n : Nat} (hn : n ≤ 4) : F_X10_nines (nI n) M = some (nI (9 ^ n), M) := by
  have lp : ∀ (m i fb p : Nat), i + m = n → m < fb → G_X10_nines_4 fb (nI n) (nI p) (nI i) M = some ((nI (p * 9 ^ m), nI n), M) := by
    intro m
    induction m with
    | zero =>
      intro i fb p hi hfb
      obtain ⟨fb, rfl⟩ : ∃ z, fb = z + 1 := ⟨fb - 1, by omega⟩
      have : i = n := by omega
      subst this
      rw [G_X10_nines_4, if_pos (nI_le (by omega) (by omega)), Nat.pow_zero, Nat.mul_one]
    | succ m ih =>
      intro i fb p hi hfb
      obtain ⟨fb, rfl⟩ : ∃ z, fb = z + 1 := ⟨fb - 1, by omega⟩
      rw [G_X10_nines_4, if_neg (nI_ge (by omega) (by omega)), fm_lt, show (9 : Int32) = nI 9 from rfl, pk_mul, nI_1, ih (i + 1) fb (p * 9) (by omega) (by omega), Nat.mul_assoc, ← Nat.pow_succ']
  rw [F_X10_nines, show G_X10_nines_4 fm_fuel (nI n) 1 0 M = _ from lp n 0 fm_fuel 1 (by omega) (by unfold fm_fuel; omega), fm_bd_s, Nat.one_mul]
theorem cl_nines {M : fm_M} {n t : Nat} {l3 : Int32} (h : M.1 66 3 = nI n) (hn : n ≤ 4) : G_X0_seek_38 fm_fuel t 45 l3 1 0 M = some ((nI (9 ^ n), nI n), M) := by
  have lp : ∀ (m i fb p : Nat), i + m = n → m < fb → G_X0_seek_38 fb t 45 l3 (nI p) (nI i) M = some ((nI (p * 9 ^ m), nI n), M) := by
    intro m
    induction m with
    | zero =>
      intro i fb p hi hfb
      obtain ⟨fb, rfl⟩ : ∃ z, fb = z + 1 := ⟨fb - 1, by omega⟩
      have : i = n := by omega
      subst this
      rw [G_X0_seek_38, h, if_pos (nI_le (by omega) (by omega)), Nat.pow_zero, Nat.mul_one]
    | succ m ih =>
      intro i fb p hi hfb
      obtain ⟨fb, rfl⟩ : ∃ z, fb = z + 1 := ⟨fb - 1, by omega⟩
      rw [G_X0_seek_38, h, if_neg (nI_ge (by omega) (by omega)), fm_lt, show (9 : Int32) = nI 9 from rfl, pk_mul, nI_1, ih (i + 1) fb (p * 9) (by omega) (by omega), Nat.mul_assoc, ← Nat.pow_succ']
  rw [show G_X0_seek_38 fm_fuel t 45 l3 1 0 M = _ from lp n 0 fm_fuel 1 (by omega) (by unfold fm_fuel; omega), Nat.one_mul]
/-- what a choice takes of fork g -/
def bX (fl : Nat → Nat → Int32) (mn c g : Nat) : Int32 := fl g (dg c (mn - 1 - g))
def bY (mn c g : Nat) : Int32 := i_abs (nI (dg c (mn - 1 - g)) - 4)
theorem br_dig {c j : Nat} (hc : c < 2 ^ 31) : i_rem (nI (c / 9 ^ j)) 9 = nI (dg c j) ∧ nI (c / 9 ^ j) / 9 = nI (c / 9 ^ (j + 1)) := by
  have h : c / 9 ^ j ≤ c := Nat.div_le_self _ _
  unfold i_rem
  rw [show (9 : Int32) = nI 9 from rfl, pk_rem (by omega) (by omega) (by omega), pk_div (by omega) (by omega) (by omega), dg_next]
  exact ⟨rfl, rfl⟩
theorem br_cost {M : fm_M} {fl : Nat → Nat → Int32} {mn c : Nat} (hm : mn ≤ 4) (hc : c < 2 ^ 31) (h7 : ∀ g j, g < mn → j < 9 → M.1 67 (9 * g + j) = fl g j) (l1 l2 : Int32) : ∀ (i fa : Nat) (acc : Int32), i ≤ mn → i < fa → ((∀ g, g < i → ¬ bX fl mn c g = -1) ∧ ∃ x y, G_X0_costOf_13 fa l1 l2 acc (nI (c / 9 ^ (mn - i))) (nI i - 1) M = some (.inl (acc + bsum (bY mn c) i, x, y), M)) ∨ ((∃ g, g < i ∧ bX fl mn c g = -1) ∧ G_X0_costOf_13 fa l1 l2 acc (nI (c / 9 ^ (mn - i))) (nI i - 1) M = some (.inr (-1), M)) := by
  intro i
  induction i with
  | zero =>
    intro fa acc hi hfa
    obtain ⟨fa, rfl⟩ : ∃ z, fa = z + 1 := ⟨fa - 1, by omega⟩
    rw [G_X0_costOf_13, if_pos (by decide)]
    exact Or.inl ⟨fun g h => by omega, _, _, by rw [bsum, Int32.add_zero]⟩
  | succ i ih =>
    intro fa acc hi hfa
    obtain ⟨fa, rfl⟩ : ∃ z, fa = z + 1 := ⟨fa - 1, by omega⟩
    obtain ⟨d1, d2⟩ := br_dig (c := c) (j := mn - (i + 1)) hc
    have hd := dg_lt c (mn - (i + 1))
    have ei : (nI i * 9 + nI (dg c (mn - (i + 1))) : Int32) = nI (9 * i + dg c (mn - (i + 1))) := by rw [show (9 : Int32) = nI 9 from rfl, pk_mul, nI_add, Nat.mul_comm]
    have e1 : nI i + (-1) = nI i - 1 := by rw [Int32.sub_eq_add_neg]
    rw [nI_pred, G_X0_costOf_13, if_neg (nI_pos (by omega)), d1, d2]
    simp only [fm_lt]
    have ej : mn - (i + 1) + 1 = mn - i := by omega
    have ek : mn - 1 - i = mn - (i + 1) := by omega
    rw [ei, fm_gd_t (nu_inb (by omega) (by omega)), nI_clamp (by omega), h7 i _ (by omega) hd, e1, ej]
    by_cases z : bX fl mn c i = -1
    · have z' : fl i (dg c (mn - (i + 1))) = -1 := by rw [← ek]; exact z
      rw [if_pos z']
      exact Or.inr ⟨⟨i, by omega, z⟩, rfl⟩
    · have z' : ¬ fl i (dg c (mn - (i + 1))) = -1 := by rw [← ek]; exact z
      rw [if_neg z']
      rcases ih fa (acc + i_abs (nI (dg c (mn - (i + 1))) - 4)) (by omega) (by omega) with ⟨a, x, y, b⟩ | ⟨⟨g, g1, g2⟩, b⟩
      · refine Or.inl ⟨fun g hg => ?_, x, y, ?_⟩
        · by_cases w : g = i
          · rw [w]; exact z
          · exact a g (by omega)
        · rw [b, bsum, show bY mn c i = i_abs (nI (dg c (mn - (i + 1))) - 4) from by unfold bY; rw [ek], Int32.add_assoc, Int32.add_comm (i_abs _)]
      · exact Or.inr ⟨⟨g, by omega, g2⟩, b⟩
theorem br_csum {M : fm_M} {fl : Nat → Nat → Int32} {mn c t : Nat} (hm : mn ≤ 4) (hc : c < 2 ^ 31) (h7 : ∀ g j, g < mn → j < 9 → M.1 67 (9 * g + j) = fl g j) (l1 l4 : Int32) : ∀ (i fa : Nat) (acc : Int32), i ≤ mn → i < fa → ∃ x y, G_X0_carriedBy_17 fa t 45 l1 l4 acc (nI (c / 9 ^ (mn - i))) (nI i - 1) M = some ((acc + bsum (bX fl mn c) i, x, y), M) := by
  intro i
  induction i with
  | zero =>
    intro fa acc hi hfa
    obtain ⟨fa, rfl⟩ : ∃ z, fa = z + 1 := ⟨fa - 1, by omega⟩
    rw [G_X0_carriedBy_17, if_pos (by decide), bsum, Int32.add_zero]
    exact ⟨_, _, rfl⟩
  | succ i ih =>
    intro fa acc hi hfa
    obtain ⟨fa, rfl⟩ : ∃ z, fa = z + 1 := ⟨fa - 1, by omega⟩
    obtain ⟨d1, d2⟩ := br_dig (c := c) (j := mn - (i + 1)) hc
    have hd := dg_lt c (mn - (i + 1))
    have ei : (nI i * 9 + nI (dg c (mn - (i + 1))) : Int32) = nI (9 * i + dg c (mn - (i + 1))) := by rw [show (9 : Int32) = nI 9 from rfl, pk_mul, nI_add, Nat.mul_comm]
    have e1 : nI i + (-1) = nI i - 1 := by rw [Int32.sub_eq_add_neg]
    have ej : mn - (i + 1) + 1 = mn - i := by omega
    have ek : mn - 1 - i = mn - (i + 1) := by omega
    rw [nI_pred, G_X0_carriedBy_17, if_neg (nI_pos (by omega)), d1, d2, ei, fm_gd_t (nu_inb (by omega) (by omega)), nI_clamp (by omega), h7 i _ (by omega) hd, e1, ej]
    simp only [fm_lt]
    obtain ⟨x, y, b⟩ := ih fa (acc + fl i (dg c (mn - (i + 1)))) (by omega) (by omega)
    refine ⟨x, y, ?_⟩
    rw [b, bsum, show bX fl mn c i = fl i (dg c (mn - (i + 1))) from by unfold bX; rw [ek], Int32.add_assoc, Int32.add_comm (fl i _)]
theorem br_ref {B : fm_M} {fl : Nat → Nat → Int32} {mn c : Nat} {pr : Int32} (hm : mn ≤ 4) (hc : c < 2 ^ 31) (h5 : B.1 78 5 = pr) (h7 : ∀ g j, g < mn → j < 9 → B.1 102 (9 * g + j) = fl g j) (l1 l2 l4 l5 l6 oth : Int32) : ∀ (m f fb : Nat), f + m = mn → m < fb → G_X10_bribe_122 fb l1 l2 (nI mn) l4 l5 l6 (nI c) (oth + bsum (bX fl mn c) f) (bsum (fun g => pr * bY mn c g) f) (bflag (bX fl mn c) f) (nI f) B = some ((oth + bsum (bX fl mn c) mn, bsum (fun g => pr * bY mn c g) mn, bflag (bX fl mn c) mn, nI mn), B) := by
  intro m
  induction m with
  | zero =>
    intro f fb hf hfb
    obtain ⟨fb, rfl⟩ : ∃ z, fb = z + 1 := ⟨fb - 1, by omega⟩
    have : f = mn := by omega
    subst this
    rw [G_X10_bribe_122, if_pos (nI_le (by omega) (by omega))]
  | succ m ih =>
    intro f fb hf hfb
    obtain ⟨fb, rfl⟩ : ∃ z, fb = z + 1 := ⟨fb - 1, by omega⟩
    have hd := dg_lt c (mn - 1 - f)
    have e1 : (nI mn - 1 - nI f : Int32) = nI (mn - 1 - f) := by rw [show (1 : Int32) = nI 1 from rfl, pk_sub (by omega), pk_sub (by omega)]
    have h9 : 0 < 9 ^ (mn - 1 - f) := Nat.pow_pos (by omega)
    have h9b : 9 ^ (mn - 1 - f) ≤ 9 ^ 4 := Nat.pow_le_pow_right (by omega) (by omega)
    have h94 : (9 : Nat) ^ 4 = 6561 := rfl
    have hq : nI c / nI (9 ^ (mn - 1 - f)) = nI (c / 9 ^ (mn - 1 - f)) := pk_div hc h9 (by omega)
    have ei : (9 * nI f + nI (dg c (mn - 1 - f)) : Int32) = nI (9 * f + dg c (mn - 1 - f)) := by rw [show (9 : Int32) = nI 9 from rfl, pk_mul, nI_add]
    have ib : fm_inb (nI (9 * f + dg c (mn - 1 - f))) 36 = true := nu_inb (by omega) (by omega)
    have ic : Int32.toNatClampNeg (nI (9 * f + dg c (mn - 1 - f))) = 9 * f + dg c (mn - 1 - f) := nI_clamp (by omega)
    rw [G_X10_bribe_122, if_neg (nI_ge (by omega) (by omega)), e1, md_nines (by omega), fm_bd_s, fm_gd_t (show fm_nz (nI (9 ^ (mn - 1 - f))) = true from decide_eq_true (nI_ne0 h9 (by omega))), fm_lt, hq, (br_dig hc).1, ei, fm_gd_t ib, ic, h7 f _ (by omega) hd]
    have key : ∀ s : Int32, s = (if bX fl mn c f = -1 then 0 else 1) → J_X10_bribe_169 (G_X10_bribe_122 fb l1 l2 (nI mn) l4 l5 l6 (nI c)) l1 l2 (nI mn) l4 l5 l6 (nI c) (oth + bsum (bX fl mn c) f) (bsum (fun g => pr * bY mn c g) f) (bflag (bX fl mn c) f) (nI f) (nI (dg c (mn - 1 - f))) (bflag (bX fl mn c) f) s B = some ((oth + bsum (bX fl mn c) mn, bsum (fun g => pr * bY mn c g) mn, bflag (bX fl mn c) mn, nI mn), B) := by
      intro s hs
      rw [J_X10_bribe_169]
      simp only [fm_lt]
      rw [ei, fm_gd_t ib, ic, h7 f _ (by omega) hd, fm_gd_t (by decide), ck_5, h5, nI_1, Int32.add_assoc]
      have := ih (f + 1) fb (by omega) (by omega)
      rw [bsum, bsum, bflag, ← hs] at this
      exact this
    by_cases z : bX fl mn c f = -1
    · rw [if_pos (show fl f (dg c (mn - 1 - f)) = -1 from z)]; exact key 0 (by rw [if_pos z])
    · rw [if_neg (show ¬ fl f (dg c (mn - 1 - f)) = -1 from z)]; exact key 1 (by rw [if_neg z])
/-- what the class keeps while it searches -/
def br_C (A0 A : fm_M) (fl : Nat → Nat → Int32) (pv : Nat → Int32) (mn oth : Nat) : Prop := ag br_A A0 A ∧ A.1 66 3 = nI mn ∧ A.1 66 4 = nI oth ∧ (∀ g j, g < mn → j < 9 → A.1 67 (9 * g + j) = fl g j) ∧ ∀ s, s < 793 → A.1 68 s = 0 ∨ (A.1 68 s = 1 ∧ pv s = 1) ∨ (A.1 68 s = 2 ∧ pv s = 0)
theorem br_car {A0 A : fm_M} {fl : Nat → Nat → Int32} {pv : Nat → Int32} {mn oth c s t : Nat} {n : Int32} (htd : fm_isTd t = true) (h : br_C A0 A fl pv mn oth) (hm : mn ≤ 4) (hc : c < 2 ^ 31) (hs : s ≤ 792) (es : nI oth + bsum (bX fl mn c) mn = nI s) (hpv : ∀ s, (pv s = 0 ∨ pv s = 1) ∧ (∀ A1, ag br_A A0 A1 → ∃ A2, F_X7_passes 45 t n (nI s) A1 = some (pv s, A2) ∧ ag br_A A0 A2 ∧ ∀ q k, q ≠ t + 15 → A2.1 q k = A1.1 q k)) : ∃ A2 : fm_M, F_X0_carriedBy (nI c) t 45 n A = some (pv s, A2) ∧ br_C A0 A2 fl pv mn oth ∧ A2.1 66 5 = A.1 66 5 := by
  have ht := fm_td htd
  obtain ⟨h1, h2, h3, h4, h5⟩ := h
  obtain ⟨x, y, e1⟩ := br_csum (t := t) hm hc h4 (nI c) n mn fm_fuel (nI oth) (Nat.le_refl _) (by unfold fm_fuel; omega)
  rw [Nat.sub_self, Nat.pow_zero, Nat.div_one, es] at e1
  have sb : fm_inb (nI s) 793 = true := nu_inb (by omega) (by omega)
  have sc : Int32.toNatClampNeg (nI s) = s := nI_clamp (by omega)
  rw [F_X0_carriedBy, fm_gd_t htd, fm_gd_t (by decide), fm_lt, fm_lt, h3, h2, e1, fm_bd_s, if_neg (nI_pos (by omega)), if_pos (nI_lt (by omega) (by omega)), fm_gd_t sb, sc]
  obtain ⟨p01, hp⟩ := hpv s
  by_cases z : A.1 68 s = 0
  · rw [if_pos z]
    obtain ⟨A2, g1, g2, g3⟩ := hp A h1
    rw [g1, fm_bd_s]
    have fin : ∀ w : Int32, (w = 1 ∧ pv s = 1) ∨ (w = 2 ∧ pv s = 0) → ∃ A3 : fm_M, J_X0_carriedBy_114 t 45 (nI c) n (nI s) x y (nI s) w A2 = some (pv s, A3) ∧ br_C A0 A3 fl pv mn oth ∧ A3.1 66 5 = A.1 66 5 := by
      intro w hw
      rw [J_X0_carriedBy_114, fm_gd_t sb, sc, fm_lt, J_X0_carriedBy_115, fm_gd_t sb, sc, fm_up_get]
      refine ⟨fm_up A2 68 s w, ?_, ⟨fun q k y => by rw [fm_up_ne (by unfold br_A iv_pA at y; omega)]; exact g2 q k y, by rw [fm_up_ne (by omega), g3 _ _ (by omega)]; exact h2, by rw [fm_up_ne (by omega), g3 _ _ (by omega)]; exact h3, fun g j a b => by rw [fm_up_ne (by omega), g3 _ _ (by omega)]; exact h4 g j a b, fun r hr => ?_⟩, by rw [fm_up_ne (by omega), g3 _ _ (by omega)]⟩
      · rcases hw with ⟨rfl, q⟩ | ⟨rfl, q⟩
        · rw [if_pos rfl, q]
        · rw [if_neg (by decide), q]
      · by_cases e : r = s
        · subst e; rw [fm_up_get]; exact Or.inr hw
        · rw [fm_up_ne (by omega), g3 _ _ (by omega)]; exact h5 r hr
    rcases p01 with q | q
    · rw [if_pos q]; exact fin 2 (Or.inr ⟨rfl, q⟩)
    · rw [if_neg (by rw [q]; decide)]; exact fin 1 (Or.inl ⟨rfl, q⟩)
  · rw [if_neg z, J_X0_carriedBy_115, fm_gd_t sb, sc]
    rcases h5 s (by omega) with q | ⟨q1, q2⟩ | ⟨q1, q2⟩
    · exact absurd q z
    · rw [if_pos q1]; exact ⟨A, by rw [q2], ⟨h1, h2, h3, h4, h5⟩, rfl⟩
    · rw [if_neg (by rw [q1]; decide)]; exact ⟨A, by rw [q2], ⟨h1, h2, h3, h4, h5⟩, rfl⟩
