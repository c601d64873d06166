/-! words of the methods as functions: a let, a guard, a call, a loop that may return -/
def fm_lt {α β : Type} (e : α) (k : α → β) : β := k e
def fm_gd {β : Type} (b : Bool) (x : Option β) : Option β := match b with
  | true => x
  | false => none
def fm_bd {α β : Type} (x : Option (α × fm_M)) (k : α → fm_M → Option β) : Option β := match x with
  | none => none
  | some v => k v.1 v.2
def fm_bs {α γ β : Type} (x : Option ((α ⊕ γ) × fm_M)) (k : α → fm_M → Option β) (kr : γ → fm_M → Option β) : Option β := match x with
  | none => none
  | some (.inl v, M) => k v M
  | some (.inr r, M) => kr r M
def fm_bn {β : Type} (x : Option Nat) (k : Nat → Option β) : Option β := match x with
  | none => none
  | some n => k n
def fm_inb (i : Int32) (n : Nat) : Bool := decide (¬ (i < 0 ∨ n ≤ i.toNatClampNeg))
def fm_nz (x : Int32) : Bool := decide (¬ x = 0)
def fm_nzl (x : Int64) : Bool := decide (¬ x = 0)
def fm_arI (p : Nat) : Option Nat := match SHP[p]? with
  | some (.inl (.int, n)) => some n
  | _ => none
def fm_fuel : Nat := 10000
theorem fm_ltp {α β : Type} {e : α} {k : α → Option β} {x : β} (h : fm_lt e k = some x) : ∃ v, e = v ∧ k v = some x := ⟨e, rfl, h⟩
theorem fm_gdp {β : Type} {b : Bool} {o : Option β} {x : β} (h : fm_gd b o = some x) : b = true ∧ o = some x := by
  cases b
  · simp [fm_gd] at h
  · exact ⟨rfl, h⟩
theorem fm_bdp {α β : Type} {o : Option (α × fm_M)} {k : α → fm_M → Option β} {x : β} (h : fm_bd o k = some x) : ∃ v M, o = some (v, M) ∧ k v M = some x := by
  cases o with
  | none => simp [fm_bd] at h
  | some v => exact ⟨v.1, v.2, rfl, h⟩
theorem fm_bsp {α γ β : Type} {o : Option ((α ⊕ γ) × fm_M)} {k : α → fm_M → Option β} {kr : γ → fm_M → Option β} {x : β} (h : fm_bs o k kr = some x) : ∃ w M, o = some (w, M) ∧ (∀ v, w = .inl v → k v M = some x) ∧ (∀ r, w = .inr r → kr r M = some x) := by
  rcases o with _ | ⟨w, M⟩
  · simp [fm_bs] at h
  · refine ⟨w, M, rfl, fun v e => ?_, fun r e => ?_⟩
    · subst e; exact h
    · subst e; exact h
theorem fm_bnp {β : Type} {o : Option Nat} {k : Nat → Option β} {x : β} (h : fm_bn o k = some x) : ∃ n, o = some n ∧ k n = some x := by
  cases o with
  | none => simp [fm_bn] at h
  | some n => exact ⟨n, rfl, h⟩
theorem fm_itp {β : Type} {c : Prop} [Decidable c] {a b : Option β} {x : β} (hc : c) (h : (if c then a else b) = some x) : a = some x := by rw [if_pos hc] at h; exact h
theorem fm_itn {β : Type} {c : Prop} [Decidable c] {a b : Option β} {x : β} (hc : ¬ c) (h : (if c then a else b) = some x) : b = some x := by rw [if_neg hc] at h; exact h
theorem fm_inb_ok {i : Int32} {n : Nat} (h : fm_inb i n = true) : vp_in i n := (of_decide_eq_true h : ¬ (i < 0 ∨ n ≤ i.toNatClampNeg))
theorem fm_nz_ok {x : Int32} (h : fm_nz x = true) : ¬ x = 0 := of_decide_eq_true h
theorem fm_nzl_ok {x : Int64} (h : fm_nzl x = true) : ¬ x = 0 := of_decide_eq_true h
theorem fm_arI_ok {p n : Nat} (h : fm_arI p = some n) : SHP[p]? = some (.inl (.int, n)) := by
  unfold fm_arI at h
  split at h
  · rename_i m hm
    cases h
    exact hm
  · cases h
def fm_z01 (x : Int32) : Bool := decide (x = 0 ∨ x = 1)
theorem fm_z01_ok {x : Int32} (h : fm_z01 x = true) : x = 0 ∨ x = 1 := of_decide_eq_true h
def fm_cpb (sp dp n : Int32) (n0 n1 : Nat) : Bool := decide (¬ sp < 0 ∧ ¬ dp < 0 ∧ ¬ n < 0 ∧ sp.toNatClampNeg + n.toNatClampNeg ≤ n0 ∧ dp.toNatClampNeg + n.toNatClampNeg ≤ n1)
theorem fm_cpb_ok {sp dp n : Int32} {n0 n1 : Nat} (h : fm_cpb sp dp n n0 n1 = true) : ¬ sp < 0 ∧ ¬ dp < 0 ∧ ¬ n < 0 ∧ sp.toNatClampNeg + n.toNatClampNeg ≤ n0 ∧ dp.toNatClampNeg + n.toNatClampNeg ≤ n1 := of_decide_eq_true h
/-- fewer locals are known -/
def fm_sub : List (Option Value) → List (Option Value) → Prop
  | [], _ => True
  | none :: r, [] => fm_sub r []
  | none :: r, _ :: t => fm_sub r t
  | some v :: r, w :: t => w = some v ∧ fm_sub r t
  | some _ :: _, [] => False
theorem fm_sub_get : ∀ (L2 L : List (Option Value)), fm_sub L2 L → ∀ (i : Nat) (v : Value), L2[i]? = some (some v) → L[i]? = some (some v)
  | [], _, _, i, v, h => by simp at h
  | none :: r, [], hs, 0, v, h => by simp at h
  | none :: r, [], hs, i + 1, v, h => by
    have := fm_sub_get r [] hs i v (by simpa using h)
    simp at this
  | none :: r, x :: t, hs, 0, v, h => by simp at h
  | none :: r, x :: t, hs, i + 1, v, h => by simpa using fm_sub_get r t hs i v (by simpa using h)
  | some w :: r, x :: t, hs, 0, v, h => by
    have e : w = v := by simpa using h
    simp [hs.1, e]
  | some w :: r, x :: t, hs, i + 1, v, h => by simpa using fm_sub_get r t hs.2 i v (by simpa using h)
  | some _ :: _, [], hs, i, v, h => hs.elim
theorem fm_fgt {d : Nat} {y : fm_I} {Q : Option Value → fm_M → Prop} {pc : Nat} {L : List (Option Value)} {r : List Value} {M : fm_M} (L2 : List (Option Value)) (hs : fm_sub L2 L) (k : fm_mw d y Q pc L2 r M) : fm_mw d y Q pc L r M :=
  fun p l e s m args below meth c D ad ca A H locs ls C hl hP hD hS => k p l e s m args below meth c D ad ca A H locs ls C ⟨hl.1, hl.2.1, fun i v h => hl.2.2 i v (fm_sub_get L2 L hs i v h)⟩ hP hD hS
theorem fm_cgm {d : Nat} {y : fm_I} {Q : Option Value → fm_M → Prop} {pc : Nat} {L : List (Option Value)} {r : List Value} {M M2 : fm_M} (e : M = M2) (k : fm_mw d y Q pc L r M2) : fm_mw d y Q pc L r M := e ▸ k
theorem fm_cgi {d : Nat} {y : fm_I} {Q : Option Value → fm_M → Prop} {pc : Nat} {L : List (Option Value)} {r : List Value} {M : fm_M} {v w : Int32} (e : v = w) (k : fm_mw d y Q pc L (.int w :: r) M) : fm_mw d y Q pc L (.int v :: r) M := e ▸ k
theorem fm_cgl {d : Nat} {y : fm_I} {Q : Option Value → fm_M → Prop} {pc : Nat} {L : List (Option Value)} {r : List Value} {M : fm_M} {v w : Int64} (e : v = w) (k : fm_mw d y Q pc L (.long w :: r) M) : fm_mw d y Q pc L (.long v :: r) M := e ▸ k
theorem fm_cgr {d : Nat} {y : fm_I} {Q : Option Value → fm_M → Prop} {pc : Nat} {L : List (Option Value)} {r : List Value} {M : fm_M} {v w : Nat} (e : v = w) (k : fm_mw d y Q pc L (.ref w :: r) M) : fm_mw d y Q pc L (.ref v :: r) M := e ▸ k
/-- the switch: outside its range; the numbers of a range -/
theorem fm_swo (x : Int32) (n : Nat) (h : ∀ j : Nat, j < n → ¬ x.toInt = (j : Int)) : x.toInt < 0 ∨ ((n : Int) - 1) < x.toInt := by
  by_cases h0 : x.toInt < 0
  · exact Or.inl h0
  · refine Or.inr ?_
    by_cases h1 : ((n : Int) - 1) < x.toInt
    · exact h1
    · exact absurd (by omega) (h x.toInt.toNat (by omega))
def i_max (x z : Int32) : Int32 := if x < z then z else x
def i_min (x z : Int32) : Int32 := if z < x then z else x
def i_abs (x : Int32) : Int32 := if 0 ≤ x then x else 0 - x
def l_max (x z : Int64) : Int64 := if z < x then x else z
def l_min (x z : Int64) : Int64 := if z < x then z else x
def l_abs (x : Int64) : Int64 := if 0 < x then x else -x
def i_rem (x z : Int32) : Int32 := x - x / z * z
def i_usr (x z : Int32) : Int32 := (x.toUInt32 >>> (z.toUInt32 &&& Int32.toUInt32 31)).toInt32
theorem fq_mmax {d : Nat} {y : fm_I} {Q : Option Value → fm_M → Prop} {pc : Nat} {L : List (Option Value)} {r : List Value} {M : fm_M} {x z : Int32} {idx : Nat} (hl0 : Cond.methodLink y.1.cls idx Lib.Math.max.name ∈ fm_gw) (hrest : (r.map fun v => v.category).sum ≤ 20) (hd : decode y.2.1 pc = .ok (.invokestatic idx, 3)) (k : fm_mw (d + 1) y Q (pc + 3) L (.int (i_max x z) :: r) M) : fm_mw (d + 1) y Q pc L (.int z :: .int x :: r) M := fm_mmax hl0 st_mmax in_math cd_mmax hrest hd k
theorem fq_mmin {d : Nat} {y : fm_I} {Q : Option Value → fm_M → Prop} {pc : Nat} {L : List (Option Value)} {r : List Value} {M : fm_M} {x z : Int32} {idx : Nat} (hl0 : Cond.methodLink y.1.cls idx Lib.Math.min.name ∈ fm_gw) (hrest : (r.map fun v => v.category).sum ≤ 20) (hd : decode y.2.1 pc = .ok (.invokestatic idx, 3)) (k : fm_mw (d + 1) y Q (pc + 3) L (.int (i_min x z) :: r) M) : fm_mw (d + 1) y Q pc L (.int z :: .int x :: r) M := fm_mmin hl0 st_mmin in_math cd_mmin hrest hd k
theorem fq_mabs {d : Nat} {y : fm_I} {Q : Option Value → fm_M → Prop} {pc : Nat} {L : List (Option Value)} {r : List Value} {M : fm_M} {x : Int32} {idx : Nat} (hl0 : Cond.methodLink y.1.cls idx Lib.Math.abs.name ∈ fm_gw) (hrest : (r.map fun v => v.category).sum ≤ 20) (hd : decode y.2.1 pc = .ok (.invokestatic idx, 3)) (k : fm_mw (d + 1) y Q (pc + 3) L (.int (i_abs x) :: r) M) : fm_mw (d + 1) y Q pc L (.int x :: r) M := fm_mabs hl0 st_mabs in_math cd_mabs hrest hd k
theorem fq_mmaxl {d : Nat} {y : fm_I} {Q : Option Value → fm_M → Prop} {pc : Nat} {L : List (Option Value)} {r : List Value} {M : fm_M} {x z : Int64} {idx : Nat} (hl0 : Cond.methodLink y.1.cls idx Lib.MathLoose.max_long.x ∈ fm_gw) (hrest : (r.map fun v => v.category).sum ≤ 20) (hd : decode y.2.1 pc = .ok (.invokestatic idx, 3)) (k : fm_mw (d + 1) y Q (pc + 3) L (.long (l_max x z) :: r) M) : fm_mw (d + 1) y Q pc L (.long z :: .long x :: r) M := fm_mmaxl hl0 st_mmaxl in_math cd_mmaxl hrest hd k
theorem fq_mminl {d : Nat} {y : fm_I} {Q : Option Value → fm_M → Prop} {pc : Nat} {L : List (Option Value)} {r : List Value} {M : fm_M} {x z : Int64} {idx : Nat} (hl0 : Cond.methodLink y.1.cls idx Lib.MathLoose.min_long.x ∈ fm_gw) (hrest : (r.map fun v => v.category).sum ≤ 20) (hd : decode y.2.1 pc = .ok (.invokestatic idx, 3)) (k : fm_mw (d + 1) y Q (pc + 3) L (.long (l_min x z) :: r) M) : fm_mw (d + 1) y Q pc L (.long z :: .long x :: r) M := fm_mminl hl0 st_mminl in_math cd_mminl hrest hd k
theorem fq_mabsl {d : Nat} {y : fm_I} {Q : Option Value → fm_M → Prop} {pc : Nat} {L : List (Option Value)} {r : List Value} {M : fm_M} {x : Int64} {idx : Nat} (hl0 : Cond.methodLink y.1.cls idx Lib.MathLoose.abs_long.x ∈ fm_gw) (hrest : (r.map fun v => v.category).sum ≤ 20) (hd : decode y.2.1 pc = .ok (.invokestatic idx, 3)) (k : fm_mw (d + 1) y Q (pc + 3) L (.long (l_abs x) :: r) M) : fm_mw (d + 1) y Q pc L (.long x :: r) M := fm_mabsl hl0 st_mabsl in_math cd_mabsl hrest hd k
theorem fq_irem {d : Nat} {y : fm_I} {Q : Option Value → fm_M → Prop} {pc : Nat} {L : List (Option Value)} {r : List Value} {M : fm_M} {x z : Int32} (hz : ¬ z = 0) (hd : decode y.2.1 pc = .ok (.irem, 1)) (k : fm_mw d y Q (pc + 1) L (.int (i_rem x z) :: r) M) : fm_mw d y Q pc L (.int z :: .int x :: r) M := fm_irem hz hd k
theorem fq_iushr {d : Nat} {y : fm_I} {Q : Option Value → fm_M → Prop} {pc : Nat} {L : List (Option Value)} {r : List Value} {M : fm_M} {x z : Int32} (hd : decode y.2.1 pc = .ok (.iushr, 1)) (k : fm_mw d y Q (pc + 1) L (.int (i_usr x z) :: r) M) : fm_mw d y Q pc L (.int z :: .int x :: r) M := fm_iushr hd k
def fm_isSt (p : Nat) : Bool := p == 38 || p == 45 || p == 52
theorem shSt0 {p : Nat} (h : fm_isSt p = true) : SHP[p]? = some (.inr (.inr (7, [none, none, none, none, none, none, none, none, some (some (p + 1)), some (some (p + 2)), some (some (p + 3)), some (some (p + 4)), some (some (p + 5)), some (some (p + 6))]))) := by
  simp only [fm_isSt, Bool.or_eq_true, beq_iff_eq] at h
  rcases h with (rfl | rfl) | rfl <;> rfl
theorem shSt1 {p : Nat} (h : fm_isSt p = true) : SHP[p + 1]? = some (.inl (.int, 8)) := by
  simp only [fm_isSt, Bool.or_eq_true, beq_iff_eq] at h
  rcases h with (rfl | rfl) | rfl <;> rfl
theorem shSt2 {p : Nat} (h : fm_isSt p = true) : SHP[p + 2]? = some (.inl (.int, 8)) := by
  simp only [fm_isSt, Bool.or_eq_true, beq_iff_eq] at h
  rcases h with (rfl | rfl) | rfl <;> rfl
theorem shSt3 {p : Nat} (h : fm_isSt p = true) : SHP[p + 3]? = some (.inl (.int, 10)) := by
  simp only [fm_isSt, Bool.or_eq_true, beq_iff_eq] at h
  rcases h with (rfl | rfl) | rfl <;> rfl
theorem shSt4 {p : Nat} (h : fm_isSt p = true) : SHP[p + 4]? = some (.inl (.int, 10)) := by
  simp only [fm_isSt, Bool.or_eq_true, beq_iff_eq] at h
  rcases h with (rfl | rfl) | rfl <;> rfl
theorem shSt5 {p : Nat} (h : fm_isSt p = true) : SHP[p + 5]? = some (.inl (.int, 10)) := by
  simp only [fm_isSt, Bool.or_eq_true, beq_iff_eq] at h
  rcases h with (rfl | rfl) | rfl <;> rfl
theorem shSt6 {p : Nat} (h : fm_isSt p = true) : SHP[p + 6]? = some (.inl (.int, 8)) := by
  simp only [fm_isSt, Bool.or_eq_true, beq_iff_eq] at h
  rcases h with (rfl | rfl) | rfl <;> rfl
def fm_isTd (p : Nat) : Bool := p == 4 || p == 21
theorem fm_nn {M : fm_M} {p k t : Nat} (e : Int32.toNatClampNeg (M.1 p k) = t) (g : fm_isTd t = true) : ¬ M.1 p k = -1 := fun h => by
  rw [h, show (-1 : Int32).toNatClampNeg = 0 from by decide] at e
  subst e
  exact absurd g (by decide)
theorem shTd0 {p : Nat} (h : fm_isTd p = true) : SHP[p]? = some (.inr (.inr (8, [none, some (some (p + 1)), some (some (p + 2)), some (some (p + 3)), some (some (p + 4)), some (some (p + 5)), none, none, some (some (p + 6)), some (some (p + 7)), some (some (p + 8)), none, some (some (p + 9)), none, none, none, none, some (some (p + 10))]))) := by
  simp only [fm_isTd, Bool.or_eq_true, beq_iff_eq] at h
  rcases h with rfl | rfl <;> rfl
theorem shTd1 {p : Nat} (h : fm_isTd p = true) : SHP[p + 1]? = some (.inl (.int, 8)) := by
  simp only [fm_isTd, Bool.or_eq_true, beq_iff_eq] at h
  rcases h with rfl | rfl <;> rfl
theorem shTd2 {p : Nat} (h : fm_isTd p = true) : SHP[p + 2]? = some (.inl (.int, 8)) := by
  simp only [fm_isTd, Bool.or_eq_true, beq_iff_eq] at h
  rcases h with rfl | rfl <;> rfl
theorem shTd3 {p : Nat} (h : fm_isTd p = true) : SHP[p + 3]? = some (.inl (.int, 8)) := by
  simp only [fm_isTd, Bool.or_eq_true, beq_iff_eq] at h
  rcases h with rfl | rfl <;> rfl
theorem shTd4 {p : Nat} (h : fm_isTd p = true) : SHP[p + 4]? = some (.inl (.int, 8)) := by
  simp only [fm_isTd, Bool.or_eq_true, beq_iff_eq] at h
  rcases h with rfl | rfl <;> rfl
theorem shTd5 {p : Nat} (h : fm_isTd p = true) : SHP[p + 5]? = some (.inl (.int, 8)) := by
  simp only [fm_isTd, Bool.or_eq_true, beq_iff_eq] at h
  rcases h with rfl | rfl <;> rfl
theorem shTd6 {p : Nat} (h : fm_isTd p = true) : SHP[p + 6]? = some (.inl (.int, 10)) := by
  simp only [fm_isTd, Bool.or_eq_true, beq_iff_eq] at h
  rcases h with rfl | rfl <;> rfl
theorem shTd7 {p : Nat} (h : fm_isTd p = true) : SHP[p + 7]? = some (.inl (.int, 10)) := by
  simp only [fm_isTd, Bool.or_eq_true, beq_iff_eq] at h
  rcases h with rfl | rfl <;> rfl
theorem shTd8 {p : Nat} (h : fm_isTd p = true) : SHP[p + 8]? = some (.inl (.int, 10)) := by
  simp only [fm_isTd, Bool.or_eq_true, beq_iff_eq] at h
  rcases h with rfl | rfl <;> rfl
theorem shTd9 {p : Nat} (h : fm_isTd p = true) : SHP[p + 9]? = some (.inl (.int, 8)) := by
  simp only [fm_isTd, Bool.or_eq_true, beq_iff_eq] at h
  rcases h with rfl | rfl <;> rfl
theorem shTd10 {p : Nat} (h : fm_isTd p = true) : SHP[p + 10]? = some (.inr (.inr (3, [some (some (p + 11)), some (some (p + 12)), some (some (p + 13)), some (some (p + 14)), none, none, some (some (p + 15)), some (some (p + 16))]))) := by
  simp only [fm_isTd, Bool.or_eq_true, beq_iff_eq] at h
  rcases h with rfl | rfl <;> rfl
theorem shTd11 {p : Nat} (h : fm_isTd p = true) : SHP[p + 11]? = some (.inl (.int, 3)) := by
  simp only [fm_isTd, Bool.or_eq_true, beq_iff_eq] at h
  rcases h with rfl | rfl <;> rfl
theorem shTd12 {p : Nat} (h : fm_isTd p = true) : SHP[p + 12]? = some (.inl (.int, 3)) := by
  simp only [fm_isTd, Bool.or_eq_true, beq_iff_eq] at h
  rcases h with rfl | rfl <;> rfl
theorem shTd13 {p : Nat} (h : fm_isTd p = true) : SHP[p + 13]? = some (.inl (.int, 64)) := by
  simp only [fm_isTd, Bool.or_eq_true, beq_iff_eq] at h
  rcases h with rfl | rfl <;> rfl
theorem shTd14 {p : Nat} (h : fm_isTd p = true) : SHP[p + 14]? = some (.inl (.int, 64)) := by
  simp only [fm_isTd, Bool.or_eq_true, beq_iff_eq] at h
  rcases h with rfl | rfl <;> rfl
theorem shTd15 {p : Nat} (h : fm_isTd p = true) : SHP[p + 15]? = some (.inl (.int, 7)) := by
  simp only [fm_isTd, Bool.or_eq_true, beq_iff_eq] at h
  rcases h with rfl | rfl <;> rfl
theorem shTd16 {p : Nat} (h : fm_isTd p = true) : SHP[p + 16]? = some (.inr (.inl 64)) := by
  simp only [fm_isTd, Bool.or_eq_true, beq_iff_eq] at h
  rcases h with rfl | rfl <;> rfl
def fm_isLw (p : Nat) : Bool := p == 14 || p == 31
theorem shLw0 {p : Nat} (h : fm_isLw p = true) : SHP[p]? = some (.inr (.inr (3, [some (some (p + 1)), some (some (p + 2)), some (some (p + 3)), some (some (p + 4)), none, none, some (some (p + 5)), some (some (p + 6))]))) := by
  simp only [fm_isLw, Bool.or_eq_true, beq_iff_eq] at h
  rcases h with rfl | rfl <;> rfl
theorem shLw1 {p : Nat} (h : fm_isLw p = true) : SHP[p + 1]? = some (.inl (.int, 3)) := by
  simp only [fm_isLw, Bool.or_eq_true, beq_iff_eq] at h
  rcases h with rfl | rfl <;> rfl
theorem shLw2 {p : Nat} (h : fm_isLw p = true) : SHP[p + 2]? = some (.inl (.int, 3)) := by
  simp only [fm_isLw, Bool.or_eq_true, beq_iff_eq] at h
  rcases h with rfl | rfl <;> rfl
theorem shLw3 {p : Nat} (h : fm_isLw p = true) : SHP[p + 3]? = some (.inl (.int, 64)) := by
  simp only [fm_isLw, Bool.or_eq_true, beq_iff_eq] at h
  rcases h with rfl | rfl <;> rfl
theorem shLw4 {p : Nat} (h : fm_isLw p = true) : SHP[p + 4]? = some (.inl (.int, 64)) := by
  simp only [fm_isLw, Bool.or_eq_true, beq_iff_eq] at h
  rcases h with rfl | rfl <;> rfl
theorem shLw5 {p : Nat} (h : fm_isLw p = true) : SHP[p + 5]? = some (.inl (.int, 7)) := by
  simp only [fm_isLw, Bool.or_eq_true, beq_iff_eq] at h
  rcases h with rfl | rfl <;> rfl
theorem shLw6 {p : Nat} (h : fm_isLw p = true) : SHP[p + 6]? = some (.inr (.inl 64)) := by
  simp only [fm_isLw, Bool.or_eq_true, beq_iff_eq] at h
  rcases h with rfl | rfl <;> rfl
theorem shTd_lt {p : Nat} (h : fm_isTd p = true) : p < 2 ^ 31 := by
  simp only [fm_isTd, Bool.or_eq_true, beq_iff_eq] at h
  rcases h with rfl | rfl <;> decide
