/-! the laws' expressions: one step, one value, for the class (by its tokens) and the reference (by its signs) -/
def ev_bd (x : Int64) : Prop := -1000000000000 ≤ x.toInt ∧ x.toInt ≤ 1000000000000
def ev_c (x : Int64) : Option Int64 := if -1000000000000 ≤ x.toInt ∧ x.toInt ≤ 1000000000000 then some x else none
def ev_b (c : Prop) [Decidable c] : Option Int64 := some (if c then 1 else 0)
/-- what a sign of the reference makes of two values; none: an error -/
def ev_z (v : Int32) (x y : Int64) : Option Int64 :=
  if v = 42 then (if -1000000000000 ≤ x.toInt * y.toInt ∧ x.toInt * y.toInt ≤ 1000000000000 then some (x * y) else none)
  else if v = 43 then ev_c (x + y)
  else if v = 45 then ev_c (x - y)
  else if v = 47 then (if y = 0 then none else ev_c (x / y))
  else if v = 60 then ev_b (x < y)
  else if v = 61 then ev_b (x = y)
  else if v = 62 then ev_b (y < x)
  else if v = 256 then ev_b (x ≤ y)
  else if v = 257 then ev_b (x ≠ y)
  else if v = 258 then ev_b (y ≤ x)
  else if v = 261 then ev_b (x ≠ 0 ∧ y ≠ 0)
  else ev_b (x ≠ 0 ∨ y ≠ 0)
/-- the class's token and the reference's sign of the same operation on two values -/
def ev_op (t v : Int32) : Prop := (t = 7 ∧ v = 60) ∨ (t = 8 ∧ v = 256) ∨ (t = 9 ∧ v = 61) ∨ (t = 10 ∧ v = 257) ∨ (t = 11 ∧ v = 258) ∨ (t = 12 ∧ v = 62) ∨ (t = 13 ∧ v = 43) ∨ (t = 14 ∧ v = 45) ∨ (t = 15 ∧ v = 42) ∨ (t = 16 ∧ v = 47) ∨ (t = 29 ∧ v = 262) ∨ (t = 30 ∧ v = 261)
theorem ev_l01 : (0 : Int64).toInt = 0 ∧ (1 : Int64).toInt = 1 := by decide
theorem ev_min : (-9223372036854775808 : Int64).toInt = -9223372036854775808 := by decide
theorem ev_mul_ok {x y : Int64} (hx : ev_bd x) (hy : ev_bd y) (h0 : ¬ x = 0) : (x * y / x = y → (ev_bd (x * y) → (-1000000000000 ≤ x.toInt * y.toInt ∧ x.toInt * y.toInt ≤ 1000000000000))) ∧ ((-1000000000000 ≤ x.toInt * y.toInt ∧ x.toInt * y.toInt ≤ 1000000000000) → x * y / x = y ∧ ev_bd (x * y)) := by
  have hx0 : x.toInt ≠ 0 := fun h => h0 (Int64.toInt_inj.mp (by rw [h]; rfl))
  have hdiv : ∀ w : Int64, ev_bd w → (w / x).toInt = w.toInt.tdiv x.toInt := by
    intro w hw
    rw [Int64.toInt_div]
    have h1 : (w.toInt.tdiv x.toInt).natAbs ≤ w.toInt.natAbs := Int.natAbs_tdiv_le_natAbs _ _
    obtain ⟨a, b⟩ := hw
    exact nu_bm (by omega) (by omega)
  refine ⟨fun hq hb => ?_, fun hb => ?_⟩
  · have h2 := hdiv _ hb
    rw [hq] at h2
    have h3 : x.toInt * y.toInt = x.toInt * ((x * y).toInt.tdiv x.toInt) := by rw [h2]
    have h4 := Int.mul_tdiv_add_tmod (x * y).toInt x.toInt
    have h5 : (x.toInt * ((x * y).toInt.tdiv x.toInt)).natAbs ≤ (x * y).toInt.natAbs := by
      rw [Int.natAbs_mul, Int.natAbs_tdiv]
      exact Nat.mul_div_le _ _
    obtain ⟨a, b⟩ := hb
    omega
  · have hm : (x * y).toInt = x.toInt * y.toInt := nu_lmul (by omega) (by omega)
    have hbb : ev_bd (x * y) := by unfold ev_bd; rw [hm]; exact hb
    refine ⟨Int64.toInt_inj.mp ?_, hbb⟩
    rw [hdiv _ hbb, hm, Int.mul_tdiv_cancel_left _ hx0]
/-- the class's step: the value, or one beyond the bounds -/
theorem ev_joined {t v : Int32} {x y : Int64} (M : fm_M) (ho : ev_op t v) (hx : ev_bd x) (hy : ev_bd y) : ∃ j, F_X3_joined t x y M = some (j, M) ∧ ((ev_z v x y = some j ∧ ev_bd j) ∨ (ev_z v x y = none ∧ ¬ ev_bd j)) := by
  have b01 : ∀ c : Prop, [Decidable c] → ev_bd (if c then (1 : Int64) else 0) := fun c _ => by
    by_cases hc : c
    · rw [if_pos hc]; exact ⟨by rw [ev_l01.2]; omega, by rw [ev_l01.2]; omega⟩
    · rw [if_neg hc]; exact ⟨by rw [ev_l01.1]; omega, by rw [ev_l01.1]; omega⟩
  have cc : ∀ z : Int64, (ev_c z = some z ∧ ev_bd z) ∨ (ev_c z = none ∧ ¬ ev_bd z) := fun z => by
    unfold ev_c ev_bd
    by_cases hz : -1000000000000 ≤ z.toInt ∧ z.toInt ≤ 1000000000000
    · exact Or.inl ⟨if_pos hz, hz⟩
    · exact Or.inr ⟨if_neg hz, hz⟩
  have mn : ¬ ev_bd (-9223372036854775808) := by unfold ev_bd; rw [ev_min]; omega
  rcases ho with ⟨rfl, rfl⟩ | ⟨rfl, rfl⟩ | ⟨rfl, rfl⟩ | ⟨rfl, rfl⟩ | ⟨rfl, rfl⟩ | ⟨rfl, rfl⟩ | ⟨rfl, rfl⟩ | ⟨rfl, rfl⟩ | ⟨rfl, rfl⟩ | ⟨rfl, rfl⟩ | ⟨rfl, rfl⟩ | ⟨rfl, rfl⟩
  · refine ⟨if x < y then 1 else 0, ?_, Or.inl ⟨rfl, b01 _⟩⟩
    rw [F_X3_joined, if_pos rfl]
    by_cases h : x < y
    · rw [if_neg (by rw [nu_cmpge]; exact Int64.not_le.mpr h), if_pos h]
    · rw [if_pos ((nu_cmpge x y).mpr (Int64.not_lt.mp h)), if_neg h]
  · refine ⟨if x ≤ y then 1 else 0, ?_, Or.inl ⟨rfl, b01 _⟩⟩
    rw [F_X3_joined, if_neg (by decide), if_pos rfl]
    by_cases h : x ≤ y
    · rw [if_neg (by rw [nu_cmpg]; exact Int64.not_lt.mpr h), if_pos h]
    · rw [if_pos ((nu_cmpg x y).mpr (Int64.not_le.mp h)), if_neg h]
  · refine ⟨if x = y then 1 else 0, ?_, Or.inl ⟨rfl, b01 _⟩⟩
    rw [F_X3_joined, if_neg (by decide), if_neg (by decide), if_pos rfl]
    by_cases h : x = y
    · rw [if_pos ((nu_cmp0 x y).mpr h), if_pos h]
    · rw [if_neg (fun q => h ((nu_cmp0 x y).mp q)), if_neg h]
  · refine ⟨if x ≠ y then 1 else 0, ?_, Or.inl ⟨rfl, b01 _⟩⟩
    rw [F_X3_joined, if_neg (by decide), if_neg (by decide), if_neg (by decide), if_pos rfl]
    by_cases h : x = y
    · rw [if_pos ((nu_cmp0 x y).mpr h), if_neg (fun q => q h)]
    · rw [if_neg (fun q => h ((nu_cmp0 x y).mp q)), if_pos h]
  · refine ⟨if y ≤ x then 1 else 0, ?_, Or.inl ⟨rfl, b01 _⟩⟩
    rw [F_X3_joined, if_neg (by decide), if_neg (by decide), if_neg (by decide), if_neg (by decide), if_pos rfl]
    by_cases h : y ≤ x
    · rw [if_neg (by rw [nu_cmpl]; exact Int64.not_lt.mpr h), if_pos h]
    · rw [if_pos ((nu_cmpl x y).mpr (Int64.not_le.mp h)), if_neg h]
  · refine ⟨if y < x then 1 else 0, ?_, Or.inl ⟨rfl, b01 _⟩⟩
    rw [F_X3_joined, if_neg (by decide), if_neg (by decide), if_neg (by decide), if_neg (by decide), if_neg (by decide), if_pos rfl]
    by_cases h : y < x
    · rw [if_neg (by rw [nu_cmple]; exact Int64.not_le.mpr h), if_pos h]
    · rw [if_pos ((nu_cmple x y).mpr (Int64.not_lt.mp h)), if_neg h]
  · refine ⟨x + y, ?_, cc _⟩
    rw [F_X3_joined, if_neg (by decide), if_neg (by decide), if_neg (by decide), if_neg (by decide), if_neg (by decide), if_neg (by decide), if_pos rfl]
  · refine ⟨x - y, ?_, cc _⟩
    rw [F_X3_joined, if_neg (by decide), if_neg (by decide), if_neg (by decide), if_neg (by decide), if_neg (by decide), if_neg (by decide), if_neg (by decide), if_pos rfl]
  · have e : ev_z 42 x y = if -1000000000000 ≤ x.toInt * y.toInt ∧ x.toInt * y.toInt ≤ 1000000000000 then some (x * y) else none := rfl
    rw [F_X3_joined, if_neg (by decide), if_neg (by decide), if_neg (by decide), if_neg (by decide), if_neg (by decide), if_neg (by decide), if_neg (by decide), if_neg (by decide), if_pos rfl]
    by_cases h0 : x = 0
    · refine ⟨x * y, ?_, ?_⟩
      · rw [if_pos ((nu_cmp0 x 0).mpr h0)]
      · have hz : x.toInt * y.toInt = 0 := by rw [h0, ev_l01.1, Int.zero_mul]
        have hm : (x * y).toInt = 0 := by rw [nu_lmul (by omega) (by omega), hz]
        refine Or.inl ⟨?_, ?_⟩
        · rw [e, if_pos (by omega)]
        · unfold ev_bd; omega
    · rw [if_neg (fun q => h0 ((nu_cmp0 x 0).mp q))]
      have hn : fm_nzl x = true := decide_eq_true h0
      rw [hn]
      obtain ⟨m1, m2⟩ := ev_mul_ok hx hy h0
      by_cases hb : -1000000000000 ≤ x.toInt * y.toInt ∧ x.toInt * y.toInt ≤ 1000000000000
      · obtain ⟨q1, q2⟩ := m2 hb
        refine ⟨x * y, ?_, Or.inl ⟨by rw [e, if_pos hb], q2⟩⟩
        show (if lg_cmp (x * y / x) y = 0 then some (x * y, M) else some (-9223372036854775808, M)) = some (x * y, M)
        rw [if_pos ((nu_cmp0 _ _).mpr q1)]
      · by_cases hq : x * y / x = y
        · refine ⟨x * y, ?_, Or.inr ⟨by rw [e, if_neg hb], fun z => hb (m1 hq z)⟩⟩
          show (if lg_cmp (x * y / x) y = 0 then some (x * y, M) else some (-9223372036854775808, M)) = some (x * y, M)
          rw [if_pos ((nu_cmp0 _ _).mpr hq)]
        · refine ⟨-9223372036854775808, ?_, Or.inr ⟨by rw [e, if_neg hb], mn⟩⟩
          show (if lg_cmp (x * y / x) y = 0 then some (x * y, M) else some (-9223372036854775808, M)) = some (-9223372036854775808, M)
          rw [if_neg (fun q => hq ((nu_cmp0 _ _).mp q))]
  · have e : ev_z 47 x y = if y = 0 then none else ev_c (x / y) := rfl
    rw [F_X3_joined, if_neg (by decide), if_neg (by decide), if_neg (by decide), if_neg (by decide), if_neg (by decide), if_neg (by decide), if_neg (by decide), if_neg (by decide), if_neg (by decide), if_pos rfl]
    by_cases h0 : y = 0
    · refine ⟨-9223372036854775808, ?_, Or.inr ⟨by rw [e, if_pos h0], mn⟩⟩
      rw [if_pos ((nu_cmp0 y 0).mpr h0)]
    · refine ⟨x / y, ?_, by rw [e, if_neg h0]; exact cc _⟩
      rw [if_neg (fun q => h0 ((nu_cmp0 y 0).mp q))]
      have hn : fm_nzl y = true := decide_eq_true h0
      rw [hn]
      rfl
  · refine ⟨if x ≠ 0 ∨ y ≠ 0 then 1 else 0, ?_, Or.inl ⟨rfl, b01 _⟩⟩
    unfold F_X3_joined
    iterate 22 (rw [if_neg (by decide)])
    rw [if_pos rfl]
    by_cases h : x = 0
    · rw [if_pos ((nu_cmp0 x 0).mpr h)]
      by_cases h2 : y = 0
      · rw [if_pos ((nu_cmp0 y 0).mpr h2), if_neg (fun q => q.elim (fun z => z h) (fun z => z h2))]
      · rw [if_neg (fun q => h2 ((nu_cmp0 y 0).mp q)), if_pos (Or.inr h2)]
    · rw [if_neg (fun q => h ((nu_cmp0 x 0).mp q)), if_pos (Or.inl h)]
  · refine ⟨if x ≠ 0 ∧ y ≠ 0 then 1 else 0, ?_, Or.inl ⟨rfl, b01 _⟩⟩
    unfold F_X3_joined
    iterate 23 (rw [if_neg (by decide)])
    rw [if_pos rfl]
    by_cases h : x = 0
    · rw [if_pos ((nu_cmp0 x 0).mpr h), if_neg (fun q => q.1 h)]
    · rw [if_neg (fun q => h ((nu_cmp0 x 0).mp q))]
      by_cases h2 : y = 0
      · rw [if_pos ((nu_cmp0 y 0).mpr h2), if_neg (fun q => q.2 h2)]
      · rw [if_neg (fun q => h2 ((nu_cmp0 y 0).mp q)), if_pos ⟨h, h2⟩]
