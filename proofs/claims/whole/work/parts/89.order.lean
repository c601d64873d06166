/-! the best order: found -/
theorem or_vc {A : fm_M} {p t nm : Nat} {w : Int32} (hp : fm_isSt p = true) (ht : fm_isTd t = true) (hm : nm ≤ 10) (h : A.1 t 7 = nI nm) : F_X7_verdicts p t w A = some (nI (cn (fun m => decide (A.1 (p + 4) m = w)) nm), A) := by
  have lp : ∀ (m i fa : Nat), i + m = nm → m < fa → G_X7_verdicts_5 fa p t w (nI (cn (fun m => decide (A.1 (p + 4) m = w)) i)) (nI i) A = some ((nI (cn (fun m => decide (A.1 (p + 4) m = w)) nm), nI nm), A) := by
    intro m
    induction m with
    | zero =>
      intro i fa hi hfa
      obtain ⟨fa, rfl⟩ : ∃ z, fa = z + 1 := ⟨fa - 1, by omega⟩
      have : i = nm := by omega
      subst this
      rw [G_X7_verdicts_5, h, if_pos (nI_le (by omega) (by omega))]
    | succ m ih =>
      intro i fa hi hfa
      obtain ⟨fa, rfl⟩ : ∃ z, fa = z + 1 := ⟨fa - 1, by omega⟩
      have nx := ih (i + 1) fa (by omega) (by omega)
      rw [cn] at nx
      rw [G_X7_verdicts_5, h, if_neg (nI_ge (by omega) (by omega)), fm_gd_t (nu_inb (by omega) (by omega)), nI_clamp (by omega)]
      simp only [fm_lt, nI_1]
      by_cases z : A.1 (p + 4) i = w
      · rw [if_pos z]; rw [if_pos (decide_eq_true z)] at nx; exact nx
      · rw [if_neg z]; rw [if_neg (fun y => z (of_decide_eq_true y)), Nat.add_zero] at nx; exact nx
  rw [F_X7_verdicts, fm_gd_t hp, fm_gd_t ht, show G_X7_verdicts_5 fm_fuel p t w 0 0 A = _ from lp nm 0 fm_fuel (by omega) (by unfold fm_fuel; omega), fm_bd_s]
theorem or_mc {B : fm_M} {c nm : Nat} {w : Int32} (hc : c < 23) (hm : nm ≤ 10) (h : B.1 78 1 = nI nm) : F_X10_manyOf (nI c) w B = some (nI (cn (fun m => decide (B.1 100 (10 * c + m) = w)) nm), B) := by
  have lp : ∀ (m i fa : Nat), i + m = nm → m < fa → G_X10_manyOf_5 fa (nI c) w (nI (cn (fun m => decide (B.1 100 (10 * c + m) = w)) i)) (nI i) B = some ((nI (cn (fun m => decide (B.1 100 (10 * c + m) = w)) nm), nI nm), B) := by
    intro m
    induction m with
    | zero =>
      intro i fa hi hfa
      obtain ⟨fa, rfl⟩ : ∃ z, fa = z + 1 := ⟨fa - 1, by omega⟩
      have : i = nm := by omega
      subst this
      rw [G_X10_manyOf_5, fm_gd_t (by decide), ck_1, h, if_pos (nI_le (by omega) (by omega))]
    | succ m ih =>
      intro i fa hi hfa
      obtain ⟨fa, rfl⟩ : ∃ z, fa = z + 1 := ⟨fa - 1, by omega⟩
      have nx := ih (i + 1) fa (by omega) (by omega)
      rw [cn] at nx
      have ex : (10 : Int32) * nI c + nI i = nI (10 * c + i) := by rw [show (10 : Int32) = nI 10 from rfl, pk_mul, nI_add]
      rw [G_X10_manyOf_5, fm_gd_t (by decide), ck_1, h, if_neg (nI_ge (by omega) (by omega)), ex, fm_gd_t (nu_inb (by omega) (by omega)), nI_clamp (by omega)]
      simp only [fm_lt, nI_1, Int32.add_zero]
      by_cases z : B.1 100 (10 * c + i) = w
      · rw [if_pos z]; rw [if_pos (decide_eq_true z)] at nx; exact nx
      · rw [if_neg z]; rw [if_neg (fun y => z (of_decide_eq_true y)), Nat.add_zero] at nx; exact nx
  rw [F_X10_manyOf, show G_X10_manyOf_5 fm_fuel (nI c) w 0 0 B = _ from lp nm 0 fm_fuel (by omega) (by unfold fm_fuel; omega), fm_bd_s]
theorem md_power {M : fm_M} {n k : Nat} (hk : k ≤ 9) : F_X10_power (nI n) (nI k) M = some (nI (n ^ k), M) := by
  have lp : ∀ (m i fb p : Nat), i + m = k → m < fb → G_X10_power_4 fb (nI n) (nI k) (nI p) (nI i) M = some ((nI (p * n ^ m), nI k), M) := by
    intro m
    induction m with
    | zero =>
      intro i fb p hi hfb
      obtain ⟨fb, rfl⟩ : ∃ z, fb = z + 1 := ⟨fb - 1, by omega⟩
      have : i = k := by omega
      subst this
      rw [G_X10_power_4, if_pos (nI_le (by omega) (by omega)), Nat.pow_zero, Nat.mul_one]
    | succ m ih =>
      intro i fb p hi hfb
      obtain ⟨fb, rfl⟩ : ∃ z, fb = z + 1 := ⟨fb - 1, by omega⟩
      rw [G_X10_power_4, if_neg (nI_ge (by omega) (by omega)), fm_lt, pk_mul, nI_1, ih (i + 1) fb (p * n) (by omega) (by omega), Nat.mul_assoc, ← Nat.pow_succ']
  rw [F_X10_power, show G_X10_power_4 fm_fuel (nI n) (nI k) 1 0 M = _ from lp k 0 fm_fuel 1 (by omega) (by unfold fm_fuel; omega), fm_bd_s, Nat.one_mul]
/-- which motions are ordered -/
def or_L (A B A1 B1 : fm_M) (K i : Nat) (od : Nat → Nat) : Prop := K ≤ 4 ∧ (∀ q k, q ≠ 73 → q ≠ 74 → q ≠ 75 → q ≠ 48 → A1.1 q k = A.1 q k) ∧ (A1.1 73 2 = nI K ∧ A1.1 73 3 = 0) ∧ (∀ k, k < K → A1.1 74 k = nI (od k) ∧ A1.1 75 k = -1 ∧ od k < i ∧ A.1 49 (od k) = -1 ∧ A1.1 48 (od k) = -1 ∧ B1.1 105 k = nI (od k)) ∧ (∀ g, (∀ k, k < K → od k ≠ g) → A1.1 48 g = A.1 48 g) ∧ (∀ k j, k < K → j < K → od k = od j → k = j) ∧ (∀ q k, (q ≠ 76 ∨ k ≠ 52) → q ≠ 105 → B1.1 q k = B.1 q k) ∧ B1.1 76 52 = nI K
theorem or_lay {A B : fm_M} {t nm : Nat} (ht : t = 4 ∨ t = 21) (hm : nm ≤ 10) (h1 : A.1 t 7 = nI nm) (h2 : B.1 78 1 = nI nm) (hv : ∀ m, m < nm → A.1 49 m = B.1 100 m) (l3 : Int32) : ∀ (m i fa fb K : Nat) (od : Nat → Nat) (A1 B1 : fm_M), i + m = nm → m < fa → m < fb → or_L A B A1 B1 K i od → ∃ (K2 : Nat) (od2 : Nat → Nat) (x y : Int32) (A2 B2 : fm_M), G_X5_seek_13 fa t 45 l3 (nI i) A1 = some (x, A2) ∧ G_X10_layOrder_7 fb l3 (nI i) B1 = some (y, B2) ∧ or_L A B A2 B2 K2 nm od2 := by
  intro m
  induction m with
  | zero =>
    intro i fa fb K od A1 B1 hi hfa hfb hL
    obtain ⟨fa, rfl⟩ : ∃ z, fa = z + 1 := ⟨fa - 1, by omega⟩
    obtain ⟨fb, rfl⟩ : ∃ z, fb = z + 1 := ⟨fb - 1, by omega⟩
    have : i = nm := by omega
    subst this
    rw [G_X5_seek_13, hL.2.1 t 7 (by omega) (by omega) (by omega) (by omega), h1, if_pos (nI_le (by omega) (by omega)), G_X10_layOrder_7, fm_gd_t (by decide), ck_1, hL.2.2.2.2.2.2.1 78 1 (by omega) (by omega), h2, if_pos (nI_le (by omega) (by omega))]
    exact ⟨K, od, _, _, A1, B1, rfl, rfl, hL⟩
  | succ m ih =>
    intro i fa fb K od A1 B1 hi hfa hfb hL
    obtain ⟨fa, rfl⟩ : ∃ z, fa = z + 1 := ⟨fa - 1, by omega⟩
    obtain ⟨fb, rfl⟩ : ∃ z, fb = z + 1 := ⟨fb - 1, by omega⟩
    obtain ⟨L1, L2, ⟨L3, L3'⟩, L4, L5, L6, L7, L8⟩ := id hL
    have up : or_L A B A1 B1 K (i + 1) od := ⟨L1, L2, ⟨L3, L3'⟩, fun k hk => by obtain ⟨a, b, c, d⟩ := L4 k hk; exact ⟨a, b, by omega, d⟩, L5, L6, L7, L8⟩
    have ib : fm_inb (nI i) 10 = true := nu_inb (by omega) (by omega)
    have ic : Int32.toNatClampNeg (nI i) = i := nI_clamp (by omega)
    rw [G_X5_seek_13, L2 t 7 (by omega) (by omega) (by omega) (by omega), h1, if_neg (nI_ge (by omega) (by omega)), G_X10_layOrder_7, fm_gd_t (show fm_inb 1 20 = true by decide), ck_1, L7 78 1 (by omega) (by omega), h2, if_neg (nI_ge (by omega) (by omega)), L3, L8]
    by_cases hK : K = 4
    · subst hK
      rw [if_pos (show (4 : Int32) ≤ nI 4 from nI_le (a := 4) (by omega) (by omega)), if_pos (show (4 : Int32) ≤ nI 4 from nI_le (a := 4) (by omega) (by omega))]
      exact ⟨4, od, _, _, A1, B1, rfl, rfl, L1, L2, ⟨L3, L3'⟩, fun k hk => by obtain ⟨a, b, c, d⟩ := L4 k hk; exact ⟨a, b, by omega, d⟩, L5, L6, L7, L8⟩
    · rw [if_neg (show ¬ (4 : Int32) ≤ nI K from nI_ge (b := 4) (by omega) (by omega)), if_neg (show ¬ (4 : Int32) ≤ nI K from nI_ge (b := 4) (by omega) (by omega)), fm_gd_t ib, ic, show A1.1 (45 + 4) i = A.1 49 i from L2 49 i (by omega) (by omega) (by omega) (by omega), fm_gd_t (show fm_inb (nI i) 230 = true from nu_inb (by omega) (by omega)), L7 100 i (by omega) (by omega), ← hv i (by omega), nI_1]
      by_cases z : A.1 49 i = -1
      · have kb : fm_inb (nI K) 4 = true := nu_inb (by omega) (by omega)
        have kc : Int32.toNatClampNeg (nI K) = K := nI_clamp (by omega)
        rw [if_pos z, if_pos z, fm_gd_t kb, kc, fm_gd_t kb]
        simp only [fm_lt]
        rw [fm_up_ne (show (73 : Nat) ≠ 74 ∨ (2 : Nat) ≠ K by omega), L3, fm_gd_t kb, kc, fm_gd_t ib, fm_up_ne (by omega), fm_up_ne (by omega), fm_up_ne (by omega), L3, fm_up_ne (by omega), L8, nI_1, show (45 + 3 : Nat) = 48 from rfl]
        obtain ⟨od', oK, on⟩ : ∃ od' : Nat → Nat, od' K = i ∧ ∀ k, k ≠ K → od' k = od k := ⟨fun k => if k = K then i else od k, if_pos rfl, fun k z => if_neg z⟩
        refine ih (i + 1) fa fb (K + 1) od' _ _ (by omega) (by omega) (by omega) ⟨by omega, fun q k a b c d => by rw [fm_up_ne (by omega), fm_up_ne (by omega), fm_up_ne (by omega), fm_up_ne (by omega), L2 q k a b c d], ⟨by rw [fm_up_get], by rw [fm_up_ne (by omega), fm_up_ne (by omega), fm_up_ne (by omega), fm_up_ne (by omega)]; exact L3'⟩, fun k hk => ?_, fun g hg => ?_, fun k j hk hj e => ?_, fun q k a b => by rw [fm_up_ne (by omega), fm_up_ne (by omega), L7 q k a b], by rw [fm_up_get]⟩
        · by_cases y : k = K
          · subst y
            rw [oK]
            refine ⟨by rw [fm_up_ne (by omega), fm_up_ne (by omega), fm_up_ne (by omega), fm_up_get], by rw [fm_up_ne (by omega), fm_up_ne (by omega), fm_up_get], by omega, z, by rw [fm_up_ne (by omega), fm_up_get], by rw [fm_up_ne (by omega), fm_up_get]⟩
          · rw [on k y]
            obtain ⟨a, b, c, d, e, f⟩ := L4 k (by omega)
            refine ⟨by rw [fm_up_ne (by omega), fm_up_ne (by omega), fm_up_ne (by omega), fm_up_ne (by omega)]; exact a, by rw [fm_up_ne (by omega), fm_up_ne (by omega), fm_up_ne (by omega), fm_up_ne (by omega)]; exact b, by omega, d, by rw [fm_up_ne (by omega), fm_up_ne (by omega), fm_up_ne (by omega), fm_up_ne (by omega)]; exact e, by rw [fm_up_ne (by omega), fm_up_ne (by omega)]; exact f⟩
        · have gi : g ≠ i := fun y => hg K (by omega) (by rw [oK, y])
          rw [fm_up_ne (by omega), fm_up_ne (by omega), fm_up_ne (by omega), fm_up_ne (by omega)]
          exact L5 g (fun k hk y => hg k (by omega) (by rw [on k (by omega)]; exact y))
        · by_cases y : k = K
          · by_cases w : j = K
            · omega
            · rw [y, oK, on j w] at e
              have := (L4 j (by omega)).2.2.1
              omega
          · by_cases w : j = K
            · rw [on k y, w, oK] at e
              have := (L4 k (by omega)).2.2.1
              omega
            · rw [on k y, on j w] at e
              exact L6 k j (by omega) (by omega) e
      · rw [if_neg z, if_neg z]
        exact ih (i + 1) fa fb K od A1 B1 (by omega) (by omega) (by omega) up
/-- the days of a code are laid -/
theorem or_l91 {B : fm_M} {n K c dd : Nat} {od : Nat → Nat} (hn : 1 ≤ n) (hn4 : n ≤ 4) (hK : K ≤ 4) (hc : c < 100000) (h52 : B.1 76 52 = nI K) (h94 : B.1 94 0 = nI dd) (h105 : ∀ k, k < K → B.1 105 k = nI (od k)) (hod : ∀ k, k < K → od k < 10) (inj : ∀ k j, k < K → j < K → od k = od j → k = j) : ∀ (m k fb : Nat) (B1 : fm_M), k + m = K → m < fb → (∀ q j, q ≠ 99 → B1.1 q j = B.1 q j) → ∃ (x : Int32) (B2 : fm_M), G_X10_layOrder_91 fb (nI n) (nI c) (nI k) B1 = some (x, B2) ∧ (∀ j, k ≤ j → j < K → B2.1 99 (10 + od j) = nI (dd + dn n c (K - 1 - j))) ∧ (∀ q g, q ≠ 99 ∨ (∀ j, k ≤ j → j < K → g ≠ 10 + od j) → B2.1 q g = B1.1 q g) := by
  intro m
  induction m with
  | zero =>
    intro k fb B1 hk hfb fB
    obtain ⟨fb, rfl⟩ : ∃ z, fb = z + 1 := ⟨fb - 1, by omega⟩
    rw [G_X10_layOrder_91, fB 76 52 (by omega), h52, if_pos (nI_le (by omega) (by omega))]
    exact ⟨_, B1, rfl, fun j a b => by omega, fun _ _ _ => rfl⟩
  | succ m ih =>
    intro k fb B1 hk hfb fB
    obtain ⟨fb, rfl⟩ : ∃ z, fb = z + 1 := ⟨fb - 1, by omega⟩
    have e1 : (nI K - 1 - nI k : Int32) = nI (K - 1 - k) := by rw [show (1 : Int32) = nI 1 from rfl, pk_sub (by omega), pk_sub (by omega)]
    have hp : 0 < n ^ (K - 1 - k) := Nat.pow_pos (by omega)
    have hp2 : n ^ (K - 1 - k) ≤ 4 ^ 4 := Nat.le_trans (Nat.pow_le_pow_left hn4 _) (Nat.pow_le_pow_right (by omega) (by omega))
    have h44 : (4 : Nat) ^ 4 = 256 := rfl
    have hq : c / n ^ (K - 1 - k) ≤ c := Nat.div_le_self _ _
    have ed : i_rem (nI c / nI (n ^ (K - 1 - k))) (nI n) = nI (dn n c (K - 1 - k)) := by
      rw [pk_div (by omega) hp (by omega)]
      unfold i_rem
      rw [pk_rem (by omega) (by omega) (by omega)]
      rfl
    have ho := hod k (by omega)
    rw [G_X10_layOrder_91, fB 76 52 (by omega), h52, if_neg (nI_ge (by omega) (by omega)), fm_gd_t (nu_inb (by omega) (by omega)), fm_gd_t (by decide), e1, md_power (by omega), fm_bd_s, fm_gd_t (show fm_nz (nI (n ^ (K - 1 - k))) = true from decide_eq_true (nI_ne0 hp (by omega))), fm_gd_t (show fm_nz (nI n) = true from decide_eq_true (nI_ne0 (by omega) (by omega))), nI_clamp (by omega), fB 105 k (by omega), h105 k (by omega), show (10 + nI (od k) : Int32) = nI (10 + od k) from nI_add 10 (od k), fm_gd_t (nu_inb (by omega) (by omega)), nI_clamp (by omega), ck_0, fB 94 0 (by omega), h94, ed, nI_add, nI_1, fm_lt]
    obtain ⟨x, B2, k1, k2, k3⟩ := ih (k + 1) fb (fm_up B1 99 (10 + od k) (nI (dd + dn n c (K - 1 - k)))) (by omega) (by omega) (fun q j y => by rw [fm_up_ne (by omega), fB q j y])
    refine ⟨x, B2, k1, fun j a b => ?_, fun q g y => ?_⟩
    · by_cases z : j = k
      · subst z
        rw [k3 99 _ (Or.inr (fun i a b y => by
          have := inj j i (by omega) b (by omega)
          omega)), fm_up_get]
      · exact k2 j (by omega) b
    · rw [k3 q g (y.elim Or.inl (fun z => Or.inr (fun j a b => z j (by omega) b)))]
      by_cases w : q = 99
      · have := y.resolve_left (fun z => z w) k (by omega) (by omega)
        rw [fm_up_ne (by omega)]
      · rw [fm_up_ne (by omega)]
/-- the best code -/
theorem or_best {n K : Nat} {cv : Nat → Nat → Int32} {fe : Nat → Int32} (hn : 1 ≤ n) (hn4 : n ≤ 4) (h : ∀ k, k < K → (∃ e, e < n ∧ cv k e = 1 ∧ (∀ j, j < e → cv k j = 0) ∧ fe k = nI e) ∨ ((∀ j, j < n → cv k j = 0) ∧ fe k = -1)) : ∃ cs : Nat, cs < n ^ K ∧ (∀ k, k < K → nI (dn n cs (K - 1 - k)) = i_max 0 (fe k)) ∧ (∀ c, cn (fun k => decide (cv k (dn n c (K - 1 - k)) = 1)) K ≤ cn (fun k => decide (fe k ≠ -1)) K) ∧ cn (fun k => decide (cv k (dn n cs (K - 1 - k)) = 1)) K = cn (fun k => decide (fe k ≠ -1)) K ∧ (∀ c, c < cs → c < n ^ K → cn (fun k => decide (cv k (dn n c (K - 1 - k)) = 1)) K < cn (fun k => decide (fe k ≠ -1)) K) := by
  have mx : ∀ e : Nat, e < 2 ^ 31 → i_max 0 (nI e) = nI e := fun e he => by
    unfold i_max
    by_cases z : e = 0
    · subst z; rw [if_neg (by decide)]; rfl
    · rw [if_pos (show (0 : Int32) < nI e from nI_lt (a := 0) (by omega) he)]
  have dlt : ∀ c j, dn n c j < n := fun c j => Nat.mod_lt _ (by omega)
  obtain ⟨d1, d2⟩ := dk_ok (n := n) (d := fun j => (i_max 0 (fe (K - 1 - j))).toNatClampNeg) (by omega) K (fun j hj => by
    rcases h (K - 1 - j) (by omega) with ⟨e, e1, -, -, e4⟩ | ⟨-, e2⟩
    · rw [e4, mx e (by omega), nI_clamp (by omega)]; exact e1
    · rw [e2]; exact hn)
  have dg1 : ∀ k, k < K → dn n (dk n (fun j => (i_max 0 (fe (K - 1 - j))).toNatClampNeg) K) (K - 1 - k) = (i_max 0 (fe k)).toNatClampNeg := fun k hk => by
    have := d2 (K - 1 - k) (by omega)
    rw [show K - 1 - (K - 1 - k) = k by omega] at this
    exact this
  generalize dk n (fun j => (i_max 0 (fe (K - 1 - j))).toNatClampNeg) K = cs at *
  have im : ∀ c k, k < K → decide (cv k (dn n c (K - 1 - k)) = 1) = true → decide (fe k ≠ -1) = true := fun c k hk z => by
    have z := of_decide_eq_true z
    rcases h k hk with ⟨e, e1, -, -, e4⟩ | ⟨e1, -⟩
    · exact decide_eq_true (by rw [e4]; exact nI_nm1 (by omega))
    · exact absurd ((e1 _ (dlt c _)).symm.trans z) (by decide)
  refine ⟨cs, d1, fun k hk => ?_, fun c => cn_mono K (fun k hk => im c k hk), cn_cg K (fun k hk => ?_), fun c hc hcK => ?_⟩
  · rw [dg1 k hk]
    rcases h k hk with ⟨e, e1, -, -, e4⟩ | ⟨-, e2⟩
    · rw [e4, mx e (by omega), nI_clamp (by omega)]
    · rw [e2]; rfl
  · rw [dg1 k hk]
    rcases h k hk with ⟨e, e1, e2, e3, e4⟩ | ⟨e1, e2⟩
    · rw [e4, mx e (by omega), nI_clamp (by omega), e2, decide_eq_true rfl, decide_eq_true (nI_nm1 (show e < 2 ^ 31 by omega))]
    · rw [e2, show Int32.toNatClampNeg (i_max 0 (-1)) = 0 from rfl, e1 0 (by omega)]
      rfl
  · refine cn_strict K (fun k hk => im c k hk) ?_
    -- else every digit is at least the best one's
    apply Classical.byContradiction
    intro no
    have all : ∀ k, k < K → fe k ≠ -1 → cv k (dn n c (K - 1 - k)) = 1 := fun k hk hf => by
      by_cases z : cv k (dn n c (K - 1 - k)) = 1
      · exact z
      · exact absurd ⟨k, hk, decide_eq_false z, decide_eq_true hf⟩ no
    have := dn_le (n := n) (by omega) K cs c d1 hcK (fun j hj => by
      have q := dg1 (K - 1 - j) (by omega)
      rw [show K - 1 - (K - 1 - j) = j by omega] at q
      rw [q]
      rcases h (K - 1 - j) (by omega) with ⟨e, e1, e2, e3, e4⟩ | ⟨e1, e2⟩
      · rw [e4, mx e (by omega), nI_clamp (by omega)]
        have a := all (K - 1 - j) (by omega) (by rw [e4]; exact nI_nm1 (by omega))
        rw [show K - 1 - (K - 1 - j) = j by omega] at a
        by_cases w : e ≤ dn n c j
        · exact w
        · exact absurd ((e3 _ (by omega)).symm.trans a) (by decide)
      · rw [e2]; exact Nat.zero_le _)
    omega
