/-! the rest of what the start gives -/
theorem st_x : Cond.exactly (.string "ForkCouncil" 127) "java/lang/String" ∈ flatC (Jvm.Cond.and given_1 narrow_1) ∧ Cond.exactly (.string "ForkCouncil" 147) "java/lang/String" ∈ flatC (Jvm.Cond.and given_1 narrow_1) ∧ Cond.eq (.static "java/lang/String" "COMPACT_STRINGS" "Z") (.int 1) ∈ flatC (Jvm.Cond.and given_1 narrow_1) ∧ Cond.isRef (.static "jdk/internal/util/Preconditions" "SIOOBE_FORMATTER" "Ljava/util/function/BiFunction;") ∈ flatC (Jvm.Cond.and given_1 narrow_1) ∧ Cond.isRef (.static Bundle.tN "UNASSIGNED_STACK" Bundle.steD) ∈ flatC (Jvm.Cond.and given_1 narrow_1) ∧ Cond.isRef (.static Bundle.tN "SUPPRESSED_SENTINEL" Bundle.listD) ∈ flatC (Jvm.Cond.and given_1 narrow_1) ∧ Cond.not (.castable xN xI) ∈ flatC (Jvm.Cond.and given_1 narrow_1) := by decide +kernel
theorem st_y : Cond.laysStatic "java/lang/String" "COMPACT_STRINGS" "Z" ∈ lw_tbl ∧ Cond.initialized "java/lang/String" ∈ lw_tbl ∧ Cond.laysStatic "jdk/internal/util/Preconditions" "SIOOBE_FORMATTER" "Ljava/util/function/BiFunction;" ∈ lw_tbl ∧ Cond.initialized "jdk/internal/util/Preconditions" ∈ lw_tbl ∧ Cond.laysStatic Bundle.tN "UNASSIGNED_STACK" Bundle.steD ∈ lw_tbl ∧ Cond.laysStatic Bundle.tN "SUPPRESSED_SENTINEL" Bundle.listD ∈ lw_tbl ∧ Cond.initialized Bundle.tN ∈ lw_tbl := by decide +kernel
theorem st_z : Cond.stringRef "ForkCouncil$Reader" 34 "fork  crack motiontable wet   purse rusty seed  law   hum   rust  pass  or    and   not   pitch note  width loud  beats damp  day   " ∈ lw_tbl ∧ Cond.stringRef "ForkCouncilModel" 173 "fork crack motion table wet purse rusty seed law hum rust pass or and not pitch note width loud beats damp day " ∈ lw_tbl ∧ Cond.stringRef "ForkCouncil" 127 "no such motion" ∈ lw_tbl ∧ Cond.stringRef "ForkCouncil" 147 "no such what" ∈ lw_tbl := by decide +kernel
theorem st_b : ∀ w ∈ mo_B, w ∈ lw_tbl := by decide +kernel
/-- the classes' numbers, the array classes -/
theorem st_K {b : Nat} {s : State} (hg : ∀ w ∈ fm_gw, w.before #[Value.ref b] s = true) : ∃ (D : va_G) (ca : FieldType → ClassId), va_K D vwCl (fm_tys ca) s := by
  obtain ⟨c0, i0, h0⟩ := u_known (C := RX0) (T := TX0) (N := 6) (n := 6) hg fm_in0 (hg _ (fm_t2 154 rfl rfl))
  obtain ⟨c1, i1, h1⟩ := u_known (C := RX1) (T := TX1) (N := 4) (n := 4) hg fm_in1 (hg _ (fm_t2 107 rfl rfl))
  obtain ⟨c2, i2, h2⟩ := u_known (C := RX2) (T := TX2) (N := 3) (n := 3) hg fm_in2 (hg _ (fm_t2 180 rfl rfl))
  obtain ⟨c3, i3, h3⟩ := u_known (C := RX3) (T := TX3) (N := 8) (n := 8) hg fm_in3 (hg _ (fm_t1 46 rfl rfl))
  obtain ⟨c4, i4, h4⟩ := u_known (C := RX4) (T := TX4) (N := 5) (n := 5) hg fm_in4 (hg _ (fm_t2 130 rfl rfl))
  obtain ⟨c5, i5, h5⟩ := u_known (C := RX5) (T := TX5) (N := 4) (n := 4) hg fm_in5 (hg _ (fm_t2 199 rfl rfl))
  obtain ⟨c6, i6, h6⟩ := u_known (C := RX6) (T := TX6) (N := 12) (n := 12) hg fm_in6 (hg _ (fm_t1 34 rfl rfl))
  obtain ⟨c7, i7, h7⟩ := u_known (C := RX7) (T := TX7) (N := 14) (n := 14) hg fm_in7 (hg _ (fm_t2 38 rfl rfl))
  obtain ⟨c8, i8, h8⟩ := u_known (C := RX8) (T := TX8) (N := 18) (n := 18) hg fm_in8 (hg _ (fm_t1 40 rfl rfl))
  obtain ⟨c9, i9, h9⟩ := u_known (C := RX9) (T := TX9) (N := 11) (n := 11) hg fm_in9 (hg _ (fm_t1 26 rfl rfl))
  obtain ⟨c10, i10, h10⟩ := u_known (C := RX10) (T := TX10) (N := 61) (n := 61) hg fm_in10 (hg _ (fm_t5 216 rfl rfl))
  have arr : ∀ (ty : FieldType), Cond.arrayClass ty ∈ fm_gw → ∃ cA : ClassId, s.vm.findClass ("[" ++ ty.toString) = some cA ∧ ArrOfT s cA ty := fun ty h => by
    obtain ⟨cA, k, comp, h1, h2, h3⟩ := Cond.arrayClass_spec (args := #[Value.ref b]) (first := s) (o := none) (s := s) (idx := []) (hg _ h)
    exact ⟨cA, h1, fun n z => ⟨fun k h => (by cases h), k, h2, comp, h3⟩⟩
  obtain ⟨a0, p0, q0⟩ := arr .int (fm_t1 79 rfl rfl)
  obtain ⟨a1, p1, q1⟩ := arr .long (fm_t1 80 rfl rfl)
  obtain ⟨a2, p2, q2⟩ := arr .byte (fm_t1 78 rfl rfl)
  obtain ⟨a3, p3, q3⟩ := arr .boolean (fm_t2 197 rfl rfl)
  refine ⟨(fun k => ([c0, c1, c2, c3, c4, c5, c6, c7, c8, c9, c10] : List ClassId).getD k c0, fun k => ([i0, i1, i2, i3, i4, i5, i6, i7, i8, i9, i10] : List (Nat → Nat)).getD k i0), fun ty => match ty with | .int => a0 | .long => a1 | .byte => a2 | _ => a3, fun k q hq => ?_, fun k q hq => ?_⟩
  · match k, hq with
    | 0, hq => cases hq; exact h0
    | 1, hq => cases hq; exact h1
    | 2, hq => cases hq; exact h2
    | 3, hq => cases hq; exact h3
    | 4, hq => cases hq; exact h4
    | 5, hq => cases hq; exact h5
    | 6, hq => cases hq; exact h6
    | 7, hq => cases hq; exact h7
    | 8, hq => cases hq; exact h8
    | 9, hq => cases hq; exact h9
    | 10, hq => cases hq; exact h10
    | k + 11, hq => simp [vwCl] at hq
  · match k, hq with
    | 0, hq => cases hq; exact ⟨q0, p0⟩
    | 1, hq => cases hq; exact ⟨q1, p1⟩
    | 2, hq => cases hq; exact ⟨q2, p2⟩
    | 3, hq => cases hq; exact ⟨q3, p3⟩
    | k + 4, hq => simp [fm_tys] at hq
/-- the texts and statics -/
theorem st_S {b : Nat} {s : State} (hts : ∀ w ∈ lw_tbl, w.before #[Value.ref b] s = true) (hgv : (Jvm.Cond.and given_1 narrow_1).before #[Value.ref b] s = true) {A : Nat → Prop} (hA : ∀ a : Nat, a < s.heap.size → ¬ A a) : ∃ sa : Nat → Nat, fm_str sa A s s.heap ∧ hs_str sa A s s.heap ∧ mo_tw sa A s s.heap ∧ va_Nc xN xI s := by
  have hf := flat_of_before _ hgv
  obtain ⟨a1, v1, r1, r2, r3, r4, r5⟩ := st_r_of hf hA
  obtain ⟨a2, v2, m1, m2, m3, m4, m5⟩ := st_m_of hf hA
  obtain ⟨t1, x1⟩ : ∃ t, (Term.string "ForkCouncil" 127).eval #[Value.ref b] s none [] s = some (.ref t) := by
    obtain ⟨a, c, cA, kA, q1, -⟩ := Cond.exactly_spec (args := #[Value.ref b]) (first := s) (o := none) (s := s) (idx := []) (hf _ st_x.1)
    exact ⟨a, q1⟩
  obtain ⟨t2, x2⟩ : ∃ t, (Term.string "ForkCouncil" 147).eval #[Value.ref b] s none [] s = some (.ref t) := by
    obtain ⟨a, c, cA, kA, q1, -⟩ := Cond.exactly_spec (args := #[Value.ref b]) (first := s) (o := none) (s := s) (idx := []) (hf _ st_x.2.1)
    exact ⟨a, q1⟩
  have hz := va_Zof (A := A) (hts _ st_y.1) (hts _ st_y.2.1) (va_eqt (hf _ st_x.2.2.1)) hA
  have hq := va_Zqof (A := A) (hts _ st_y.2.2.1) (hts _ st_y.2.2.2.1) (hf _ st_x.2.2.2.1) hA
  obtain ⟨tz, hq⟩ : ∃ t, va_Z "jdk/internal/util/Preconditions" "SIOOBE_FORMATTER" "Ljava/util/function/BiFunction;" .null A s s.heap ∨ va_Z "jdk/internal/util/Preconditions" "SIOOBE_FORMATTER" "Ljava/util/function/BiFunction;" (.ref t) A s s.heap := by
    rcases hq with h | ⟨t, h⟩
    · exact ⟨0, Or.inl h⟩
    · exact ⟨t, Or.inr h⟩
  refine ⟨fun i => if i = 1000 then a2 else if i = 1001 then v2 else if i = 1002 then tz else if i = 1003 then t1 else if i = 1004 then t2 else if i = 1005 then a1 else v1, ⟨m1, m2, m3, m4, vk_R.of (hts _ st_z.2.1) m5, hz, hq⟩, ⟨r1, r2, r3, r4, vk_R.of (hts _ st_z.1) r5, hz, hq⟩, ⟨vx_Zqof (hts _ st_y.2.2.2.2.1) (hts _ st_y.2.2.2.2.2.2) (hf _ st_x.2.2.2.2.1) hA, vx_Zqof (hts _ st_y.2.2.2.2.2.1) (hts _ st_y.2.2.2.2.2.2) (hf _ st_x.2.2.2.2.2.1) hA, vk_R.of (hts _ st_z.2.2.1) x1, vk_R.of (hts _ st_z.2.2.2) x2, fun w hw => va_any (mo_Bt w hw) (hts w (st_b w hw))⟩, va_Nc.of (hf _ st_x.2.2.2.2.2.2)⟩
