/-! THE CLASS'S OWN TEXT OF WORDS, and the methods that read it, without any world: place 1005 the String, 1006 its bytes -/
def hs_wb : List Int32 := [102, 111, 114, 107, 32, 32, 99, 114, 97, 99, 107, 32, 109, 111, 116, 105, 111, 110, 116, 97, 98, 108, 101, 32, 119, 101, 116, 32, 32, 32, 112, 117, 114, 115, 101, 32, 114, 117, 115, 116, 121, 32, 115, 101, 101, 100, 32, 32, 108, 97, 119, 32, 32, 32, 104, 117, 109, 32, 32, 32, 114, 117, 115, 116, 32, 32, 112, 97, 115, 115, 32, 32, 111, 114, 32, 32, 32, 32, 97, 110, 100, 32, 32, 32, 110, 111, 116, 32, 32, 32, 112, 105, 116, 99, 104, 32, 110, 111, 116, 101, 32, 32, 119, 105, 100, 116, 104, 32, 108, 111, 117, 100, 32, 32, 98, 101, 97, 116, 115, 32, 100, 97, 109, 112, 32, 32, 100, 97, 121, 32, 32, 32]
def hs_str (sa : Nat → Nat) (A : Nat → Prop) (U : State) (H : Heap) : Prop := va_O "java/lang/String" (sa 1005) A U H ∧ va_OF "java/lang/String" "coder" "B" (.int 0) (sa 1005) A U H ∧ va_OF "java/lang/String" "value" "[B" (.ref (sa 1006)) (sa 1005) A U H ∧ va_T .byte (sa 1006) 132 (fun j => .int (hs_wb.getD j 0)) A U H ∧ vk_R "ForkCouncil$Reader" 34 "fork  crack motiontable wet   purse rusty seed  law   hum   rust  pass  or    and   not   pitch note  width loud  beats damp  day   " (sa 1005) U ∧ va_Z "java/lang/String" "COMPACT_STRINGS" "Z" (.int 1) A U H ∧ (va_Z "jdk/internal/util/Preconditions" "SIOOBE_FORMATTER" "Ljava/util/function/BiFunction;" .null A U H ∨ va_Z "jdk/internal/util/Preconditions" "SIOOBE_FORMATTER" "Ljava/util/function/BiFunction;" (.ref (sa 1002)) A U H)
theorem hs_str.go {sa : Nat → Nat} {A B : Nat → Prop} {s U : State} {H H1 : Heap} (h : hs_str sa A s H) (hq : ∀ a : Nat, a < H.size → ¬ A a → H1[a]? = H[a]?) (hvm : s.vm.Alike U.vm) (hR : vk_R "ForkCouncil$Reader" 34 "fork  crack motiontable wet   purse rusty seed  law   hum   rust  pass  or    and   not   pitch note  width loud  beats damp  day   " (sa 1005) U) (hAB : ∀ q, B q → A q) : hs_str sa B U H1 := by
  obtain ⟨h1, h2, h3, h4, h5, h6, h7⟩ := h
  refine ⟨((h1.kept hq).moved hvm).narrow hAB, ((h2.kept hq).moved hvm).narrow hAB, ((h3.kept hq).moved hvm).narrow hAB, ((h4.kept hq).moved hvm).narrow hAB, hR, ((h6.kept hq).moved hvm).narrow hAB, ?_⟩
  rcases h7 with h7 | h7
  · exact Or.inl (((h7.kept hq).moved hvm).narrow hAB)
  · exact Or.inr (((h7.kept hq).moved hvm).narrow hAB)
abbrev hs_no : Nat → Prop := fun _ => False
/-- a pure method's start and end -/
def hs_Pc (sa : Nat → Nat) (As : List Value) : Array Value → State → Prop := va_Pc As (fun U => hs_str sa hs_no U U.heap)
def hs_Qc (v : Option Value) : Array Value → State → Outcome → State → Prop := fun _ st oc t => oc = .returned v ∧ va_F hs_no st t
def hs_Met (l : Launch) (d : Nat) (y : fm_I) (sa : Nat → Nat) (As : List Value) (v : Option Value) : Prop := Met l y.1 (fm_wy y) (fm_room d) (hs_Pc sa As) (hs_Qc v) 0 0 hs_no
theorem hs_blind (sa : Nat → Nat) (As : List Value) : FrameBlind (hs_Pc sa As) := fun a U g mk q => ⟨q.1, q.2.go (U := U.calling g mk a) (fun _ _ _ => rfl) (Vm.Alike.refl U.vm) (vk_R.same (u := U) rfl q.2.2.2.2.2.1) (fun _ h => h)⟩
/-- what a frame of a pure method knows -/
def hs_ok (y : fm_I) (p : Program) (s : State) (m : MethodId) (args : Array Value) (meth : Method) (c : Code) (sa : Nat → Nat) : Prop := (p.tables.exec = Jvm.exec ∧ c.code = y.2.1 ∧ c.maxLocals = y.2.2.1 ∧ s.vm.findClass y.1.cls = some m.cls ∧ (∀ w ∈ fm_gw, w.before args s = true)) ∧ meth.sig.returnType = y.2.2.2 ∧ meth.locks = false ∧ hs_str sa hs_no s s.heap
theorem hs_meet {l : Launch} {d : Nat} {y : fm_I} {sa : Nat → Nat} {As : List Value} {v : Option Value} (hy : plainName y.1.cls = true) (hn : (lg_sl As).length ≤ y.2.2.1)
    (h : ∀ (p : Program) (e : Env) (s : State) (m : MethodId) (args : Array Value) (below : List Frame) (meth : Method) (c : Code) (ls : Array Slot), hs_ok y p s m args meth c sa → ls = (lg_sl As ++ List.replicate (y.2.2.1 - (lg_sl As).length) Slot.unset).toArray → W p l e (fm_room d) s m args below meth c s.heap [] 0 0 (MQ below (hs_Qc v) args s 0 0 hs_no) (F0 m 0 ls [])) : hs_Met l d y sa As v := by
  refine Met.ofW (cc := y.2.1) (maxL := y.2.2.1) (ret := y.2.2.2) hy rfl ?_
  intro p e s m args below meth c s₁ B hml hv
  obtain ⟨rfl, hG⟩ := hv
  have hts := atoms_spec (ws := fm_wy y) B.pre
  rw [lg_entry_eq]
  exact h p e s m _ below meth c _ ⟨⟨B.exec, B.bytes, hml, findClass_of_methodNamed B.named, fun w hw => hts w (List.mem_cons_of_mem _ hw)⟩, B.returns, B.notSynchronized, hG⟩ rfl
section HS
variable {p : Program} {l : Launch} {e : Env} {R : Room} {s : State} {m : MethodId} {args : Array Value} {below : List Frame} {meth : Method} {c : Code} {H : Heap} {locs : List Loc} {cells slots : Nat} {Qs : State → Prop} {pc : Nat} {ls : Array Slot} {rest st0 : List Value} {a : Array Value} {A : Nat → Prop} {H0 : Heap} {v : Option Value} {own : String} {cc : ByteArray} {nL d idx n : Nat} {sa : Nat → Nat}
theorem hs_run (hr : va_Run p l e R s m args below meth c H locs cells slots 0 0 (F0 m pc ls st0) rest (hs_Qc v a) hs_no) (hS : va_S A H0 H locs)
    (kk : ∀ (H1 : Heap) (locs1 : List Loc), va_S A H0 H1 locs1 → H.size ≤ H1.size → (∀ q : Nat, q < H.size → H1[q]? = H[q]?) → W p l e R s m args below meth c H1 locs1 cells slots Qs (F0 m (pc + 3) ls (v.toList ++ rest))) : W p l e R s m args below meth c H locs cells slots Qs (F0 m pc ls st0) := by
  intro T hT X
  obtain ⟨v2, st₀, t, T', L, h0, X', hL, e1, e2, ⟨hv, hz, hk⟩, st⟩ := hr T hT X
  cases hv
  rw [h0] at hz hk
  obtain ⟨t2, a1, b1⟩ := kk T'.heap (locs ++ L) ⟨Nat.le_trans hS.1 (by rw [e1]; exact hz), fun q h1 h2 => by rw [e1, hk q (Nat.lt_of_lt_of_le h1 hS.1) (fun z => z)]; exact hS.2.1 q h1 h2, fun q hq => by
      rcases List.mem_append.mp hq with h | h
      · exact hS.2.2 q h
      · exact (hL q h).elim⟩ (by rw [e1]; exact hz) (fun q h1 => by rw [e1]; exact hk q h1 (fun z => z)) T' rfl X'
  exact ⟨t2, st t2 a1, b1⟩
theorem hs_pre (hS : va_S A s.heap H locs) (hG : hs_str sa A s s.heap) (As : List Value) : ∀ U : State, U.heap = H → s.WarmedH U.vm → hs_Pc sa As As.toArray U := fun U hU hW => ⟨rfl, by show hs_str sa hs_no U U.heap; rw [hU]; exact hG.go hS.2.1 hW.alike (vk_R.warm hW hG.2.2.2.2.1) (fun _ h => h.elim)⟩
theorem hs_callS (C : p.tables.exec = Jvm.exec ∧ c.code = cc ∧ c.maxLocals = nL ∧ s.vm.findClass own = some m.cls ∧ (∀ w ∈ fm_gw, w.before args s = true)) (hG : hs_str sa A s s.heap) (hS : va_S A s.heap H locs) (y2 : fm_I) (As : List Value) (hst : st0 = As.reverse ++ rest) (hM : hs_Met l d y2 sa As v) (hy : fm_cs y2 n) (hln : Cond.methodLink own idx y2.1 ∈ fm_gw) (hn : As.length = n) (hrest : (rest.map fun v => v.category).sum ≤ 8) (hR : d + 1 ≤ R.frames ∧ 8 + (y2.2.2.1 + 11) + 64 * d ≤ R.locals) (hcs : cells ≤ R.cells ∧ slots ≤ R.slots) (hls : ls.size = nL) (hd : decode cc pc = .ok (.invokestatic idx, 3))
    (kk : ∀ (H1 : Heap) (locs1 : List Loc), va_S A s.heap H1 locs1 → H.size ≤ H1.size → (∀ q : Nat, q < H.size → H1[q]? = H[q]?) → W p l e R s m args below meth c H1 locs1 cells slots Qs (F0 m (pc + 3) ls (v.toList ++ rest))) : W p l e R s m args below meth c H locs cells slots Qs (F0 m pc ls st0) := by
  subst hst
  obtain ⟨⟨hcode, hini, hpl, hmx, hdd⟩, hstt⟩ := hy
  have hg := C.2.2.2.2
  exact hs_run (va_runS (As := As) (rest := rest) C hM ⟨callB_of n hg (fm_good hcode) rfl rfl rfl (hg _ hini) (hg _ hln) hdd hR, hg _ hstt⟩ ⟨hs_blind _ _, hs_pre hS hG As⟩ rfl hn hls rfl (lv_room hrest) hd ⟨hcs.1, hcs.2⟩) hS kk
theorem hs_callV (C : p.tables.exec = Jvm.exec ∧ c.code = cc ∧ c.maxLocals = nL ∧ s.vm.findClass own = some m.cls ∧ (∀ w ∈ fm_gw, w.before args s = true)) (hG : hs_str sa A s s.heap) (hS : va_S A s.heap H locs) (y2 : fm_I) (As : List Value) (hst : st0 = As.reverse ++ .ref (sa 1005) :: rest) (hM : hs_Met l d y2 sa (.ref (sa 1005) :: As) v) (hy : fm_cv y2 n) (hcl : y2.1.cls = "java/lang/String") (hln : Cond.methodLink own idx y2.1 ∈ fm_gw) (hn : As.length = n) (hrest : (rest.map fun v => v.category).sum ≤ 8) (hR : d + 1 ≤ R.frames ∧ 8 + (y2.2.2.1 + 11) + 64 * d ≤ R.locals) (hcs : cells ≤ R.cells ∧ slots ≤ R.slots) (hls : ls.size = nL) (hd : decode cc pc = .ok (.invokevirtual idx, 3))
    (kk : ∀ (H1 : Heap) (locs1 : List Loc), va_S A s.heap H1 locs1 → H.size ≤ H1.size → (∀ q : Nat, q < H.size → H1[q]? = H[q]?) → W p l e R s m args below meth c H1 locs1 cells slots Qs (F0 m (pc + 3) ls (v.toList ++ rest))) : W p l e R s m args below meth c H locs cells slots Qs (F0 m pc ls st0) := by
  subst hst
  obtain ⟨⟨hcode, hini, hpl, hmx, hdd⟩, hin, hsel⟩ := hy
  have hg := C.2.2.2.2
  have hrc : ∃ cell : Cell, H[sa 1005]? = some cell ∧ cell.vm.isStatics = false ∧ s.vm.findClass y2.1.cls = some cell.cls := by
    obtain ⟨cell, h1, h2, h3, -⟩ := hG.1.kept hS.2.1
    exact ⟨cell, h1, h2, by rw [hcl]; exact h3⟩
  exact hs_run (va_runV (As := As) (rest := rest) C hM ⟨callB_of n hg (fm_good hcode) rfl rfl rfl (hg _ hini) (hg _ hln) hdd hR, hg _ hin, hg _ hsel⟩ ⟨hs_blind _ _, hrc, hs_pre hS hG (.ref (sa 1005) :: As)⟩ rfl hn hls rfl (lv_room hrest) hd ⟨hcs.1, hcs.2⟩) hS kk
end HS
theorem hs_lv1 (v0 : Value) (h : v0.category = 1) : lv_has (lg_sl [v0] ++ List.replicate (1 - (lg_sl [v0]).length) Slot.unset).toArray 1 [(0, v0)] := by
  have := lv_entry [v0] (n := 1) (by cases v0 <;> first | exact Nat.le_refl _ | (simp [Value.category] at h))
  cases v0 <;> first | exact this | (simp [Value.category] at h)
theorem hs_c_coder (l : Launch) (d : Nat) (sa : Nat → Nat) : hs_Met l d mJ0_coder_7d493 sa [.ref (sa 1005)] (some (.int 0)) := by
  refine hs_meet (by decide +kernel) (Nat.le_refl _) ?_
  intro p e s m args below meth c ls C hls
  obtain ⟨⟨hx, hb, hml, hown, hg⟩, hr, hlk, hG⟩ := C
  have hl : lv_has ls 1 [(0, .ref (sa 1005))] := by rw [hls]; exact lv_entry [.ref (sa 1005)] (n := 1) (Nat.le_refl _)
  have hS : va_S hs_no s.heap s.heap [] := va_S.rf
  refine va_gets hx hb hG.2.2.2.2.2.1 hS hown (hg _ fk_J0_38) (fun _ h => h) dJ0_coder_7d493_0 ?_
  refine lv_if_eq (tgt := 13) hx hb dJ0_coder_7d493_3 (by decide) (fun q => absurd q (by decide)) (fun _ => ?_)
  refine lv_aload_n hx hb dJ0_coder_7d493_6 rfl (lv_at hl 0 rfl) ?_
  refine vk_getf hx hb hG.2.1 hS hown (hg _ fk_J0_15) (fun _ h => h) dJ0_coder_7d493_7 ?_
  refine lv_goto (tgt := 14) hx hb dJ0_coder_7d493_10 (by decide) ?_
  exact W.zret hx hb hr (by decide) (fun t ht hW => ⟨rfl, hS.F ht⟩) hS.2.2 dJ0_coder_7d493_14 hlk
theorem hs_c_lat (l : Launch) (d : Nat) (sa : Nat → Nat) : hs_Met l d mJ0_isLatin1_aae02 sa [.ref (sa 1005)] (some (.int 1)) := by
  refine hs_meet (by decide +kernel) (Nat.le_refl _) ?_
  intro p e s m args below meth c ls C hls
  obtain ⟨⟨hx, hb, hml, hown, hg⟩, hr, hlk, hG⟩ := C
  have hl : lv_has ls 1 [(0, .ref (sa 1005))] := by rw [hls]; exact lv_entry [.ref (sa 1005)] (n := 1) (Nat.le_refl _)
  have hS : va_S hs_no s.heap s.heap [] := va_S.rf
  refine va_gets hx hb hG.2.2.2.2.2.1 hS hown (hg _ fk_J0_38) (fun _ h => h) dJ0_isLatin1_aae02_0 ?_
  refine lv_if_eq (tgt := 17) hx hb dJ0_isLatin1_aae02_3 (by decide) (fun q => absurd q (by decide)) (fun _ => ?_)
  refine lv_aload_n hx hb dJ0_isLatin1_aae02_6 rfl (lv_at hl 0 rfl) ?_
  refine vk_getf hx hb hG.2.1 hS hown (hg _ fk_J0_15) (fun _ h => h) dJ0_isLatin1_aae02_7 ?_
  refine lv_if_ne (tgt := 17) hx hb dJ0_isLatin1_aae02_10 (by decide) (fun q => absurd rfl q) (fun _ => ?_)
  refine lv_iconst (v := 1) hx hb dJ0_isLatin1_aae02_13 (by decide) ?_
  refine lv_goto (tgt := 18) hx hb dJ0_isLatin1_aae02_14 (by decide) ?_
  exact W.zret hx hb hr (by decide) (fun t ht hW => ⟨rfl, hS.F ht⟩) hS.2.2 dJ0_isLatin1_aae02_18 hlk
theorem hs_c_len (l : Launch) (sa : Nat → Nat) : hs_Met l 2 mJ0_length_8abf5 sa [.ref (sa 1005)] (some (.int 132)) := by
  refine hs_meet (by decide +kernel) (Nat.le_refl _) ?_
  intro p e s m args below meth c ls C hls
  obtain ⟨⟨hx, hb, hml, hown, hg⟩, hr, hlk, hG⟩ := C
  have hl : lv_has ls 1 [(0, .ref (sa 1005))] := by rw [hls]; exact lv_entry [.ref (sa 1005)] (n := 1) (Nat.le_refl _)
  have hS : va_S hs_no s.heap s.heap [] := va_S.rf
  refine lv_aload_n hx hb dJ0_length_8abf5_0 rfl (lv_at hl 0 rfl) ?_
  refine vk_getf hx hb hG.2.2.1 hS hown (hg _ fk_J0_9) (fun _ h => h) dJ0_length_8abf5_1 ?_
  refine va_tlen hx hb hG.2.2.2.1 hS (v := 132) rfl dJ0_length_8abf5_4 ?_
  refine lv_aload_n hx hb dJ0_length_8abf5_5 rfl (lv_at hl 0 rfl) ?_
  refine hs_callV (d := 0) ⟨hx, hb, hml, hown, hg⟩ hG hS mJ0_coder_7d493 [] rfl (hs_c_coder l 0 sa) cvJ0_coder_7d493 rfl nl_J0_335 rfl (Nat.le_of_ble_eq_true rfl) ⟨Nat.le_of_ble_eq_true rfl, Nat.le_of_ble_eq_true rfl⟩ ⟨Nat.le_of_ble_eq_true rfl, Nat.le_of_ble_eq_true rfl⟩ hl.1 dJ0_length_8abf5_6 (fun H1 locs1 hS _ _ => ?_)
  refine lv_ishr hx hb dJ0_length_8abf5_9 ?_
  exact W.iret hx hb hr (fun t ht hW => ⟨rfl, hS.F ht⟩) hS.2.2 dJ0_length_8abf5_10 hlk
theorem hs_c_pre (l : Launch) (d : Nat) (sa : Nat → Nat) {i n : Int32} {v : Value} (hv : v = .null ∨ v = .ref (sa 1002)) (h0 : ¬ i < 0) (h1 : i < n) : hs_Met l d mJ3_checkIndex_8e157 sa [.int i, .int n, v] (some (.int i)) := by
  refine hs_meet (by decide +kernel) (by rcases hv with rfl | rfl <;> exact Nat.le_refl _) ?_
  intro p e s m args below meth c ls C hls
  obtain ⟨⟨hx, hb, hml, hown, hg⟩, hr, hlk, hG⟩ := C
  have hl : lv_has ls 3 [(0, .int i), (1, .int n), (2, v)] := by
    rw [hls]
    rcases hv with rfl | rfl
    · exact lv_entry [.int i, .int n, .null] (n := 3) (Nat.le_refl _)
    · exact lv_entry [.int i, .int n, .ref (sa 1002)] (n := 3) (Nat.le_refl _)
  have hS : va_S hs_no s.heap s.heap [] := va_S.rf
  refine lv_iload_n hx hb dJ3_checkIndex_8e157_0 rfl (lv_at hl 0 rfl) ?_
  refine lv_if_lt (tgt := 9) hx hb dJ3_checkIndex_8e157_1 (by decide) (fun q => absurd q h0) (fun _ => ?_)
  refine lv_iload_n hx hb dJ3_checkIndex_8e157_4 rfl (lv_at hl 0 rfl) ?_
  refine lv_iload_n hx hb dJ3_checkIndex_8e157_5 rfl (lv_at hl 1 rfl) ?_
  refine lv_icmp_lt (tgt := 16) hx hb dJ3_checkIndex_8e157_6 (by decide) (fun _ => ?_) (fun q => absurd h1 q)
  refine lv_iload_n hx hb dJ3_checkIndex_8e157_16 rfl (lv_at hl 0 rfl) ?_
  exact W.iret hx hb hr (fun t ht hW => ⟨rfl, hS.F ht⟩) hS.2.2 dJ3_checkIndex_8e157_17 hlk
theorem hs_c_chk (l : Launch) (sa : Nat → Nat) {i n : Int32} (h0 : ¬ i < 0) (h1 : i < n) : hs_Met l 1 mJ0_checkIndex_df160 sa [.int i, .int n] none := by
  refine hs_meet (by decide +kernel) (Nat.le_refl _) ?_
  intro p e s m args below meth c ls C hls
  obtain ⟨⟨hx, hb, hml, hown, hg⟩, hr, hlk, hG⟩ := C
  have hl : lv_has ls 2 [(0, .int i), (1, .int n)] := by rw [hls]; exact lv_entry [.int i, .int n] (n := 2) (Nat.le_refl _)
  have hS : va_S hs_no s.heap s.heap [] := va_S.rf
  refine lv_iload_n hx hb dJ0_checkIndex_df160_0 rfl (lv_at hl 0 rfl) ?_
  refine lv_iload_n hx hb dJ0_checkIndex_df160_1 rfl (lv_at hl 1 rfl) ?_
  have go : ∀ v : Value, (v = .null ∨ v = .ref (sa 1002)) → W p l e (fm_room 1) s m args below meth c s.heap [] 0 0 (MQ below (hs_Qc none) args s 0 0 hs_no) (F0 m (2 + 3) ls [v, .int n, .int i]) := by
    intro v hv
    refine hs_callS (d := 0) ⟨hx, hb, hml, hown, hg⟩ hG hS mJ3_checkIndex_8e157 [.int i, .int n, v] rfl (hs_c_pre l 0 sa hv h0 h1) csJ3_checkIndex_8e157 (fm_t1 213 rfl rfl) rfl (Nat.le_of_ble_eq_true rfl) ⟨Nat.le_of_ble_eq_true rfl, Nat.le_of_ble_eq_true rfl⟩ ⟨Nat.le_of_ble_eq_true rfl, Nat.le_of_ble_eq_true rfl⟩ hl.1 dJ0_checkIndex_df160_5 (fun H1 locs1 hS _ _ => ?_)
    refine lv_pop hx hb dJ0_checkIndex_df160_8 rfl ?_
    exact W.vret hx hb hr (fun t ht hW => ⟨rfl, hS.F ht⟩) hS.2.2 dJ0_checkIndex_df160_9 hlk
  rcases hG.2.2.2.2.2.2 with hz | hz
  · exact va_gets hx hb hz hS hown (hg _ fk_J0_1053) (fun _ h => h) dJ0_checkIndex_df160_2 (go _ (Or.inl rfl))
  · exact va_gets hx hb hz hS hown (hg _ fk_J0_1053) (fun _ h => h) dJ0_checkIndex_df160_2 (go _ (Or.inr rfl))
def hs_chr (j : Nat) : Int32 := ((hs_wb.getD j 0 &&& 255).toUInt32 % 65536).toInt32
theorem hs_chr_nar : ∀ j : Nat, j < 132 → narrow .char (.int (hs_chr j)) = .int (hs_chr j) := by decide +kernel
theorem hs_c_at1 (l : Launch) (sa : Nat → Nat) {j : Nat} (hj : j < 132) : hs_Met l 2 mJ1_charAt_3b067 sa [.ref (sa 1006), .int (nI j)] (some (.int (hs_chr j))) := by
  have hin : vp_in (nI j) 132 := vp_in_nI hj (by omega)
  have h0 : ¬ nI j < 0 := nI_pos (by omega)
  have h1 : nI j < 132 := nI_lt (b := 132) hj (by omega)
  refine hs_meet (by decide +kernel) (Nat.le_refl _) ?_
  intro p e s m args below meth c ls C hls
  obtain ⟨⟨hx, hb, hml, hown, hg⟩, hr, hlk, hG⟩ := C
  have hl : lv_has ls 2 [(0, .ref (sa 1006)), (1, .int (nI j))] := by rw [hls]; exact lv_entry [.ref (sa 1006), .int (nI j)] (n := 2) (Nat.le_refl _)
  have hS : va_S hs_no s.heap s.heap [] := va_S.rf
  refine lv_iload_n hx hb dJ1_charAt_3b067_0 rfl (lv_at hl 1 rfl) ?_
  refine lv_aload_n hx hb dJ1_charAt_3b067_1 rfl (lv_at hl 0 rfl) ?_
  refine va_tlen hx hb hG.2.2.2.1 hS (v := 132) rfl dJ1_charAt_3b067_2 ?_
  refine hs_callS (d := 1) ⟨hx, hb, hml, hown, hg⟩ hG hS mJ0_checkIndex_df160 [.int (nI j), .int 132] rfl (hs_c_chk l sa h0 h1) csJ0_checkIndex_df160 (fm_t1 208 rfl rfl) rfl (Nat.le_of_ble_eq_true rfl) ⟨Nat.le_of_ble_eq_true rfl, Nat.le_of_ble_eq_true rfl⟩ ⟨Nat.le_of_ble_eq_true rfl, Nat.le_of_ble_eq_true rfl⟩ hl.1 dJ1_charAt_3b067_3 (fun H1 locs1 hS _ _ => ?_)
  refine lv_aload_n hx hb dJ1_charAt_3b067_6 rfl (lv_at hl 0 rfl) ?_
  refine lv_iload_n hx hb dJ1_charAt_3b067_7 rfl (lv_at hl 1 rfl) ?_
  refine va_tb hx hb hG.2.2.2.1 hS hin (v := .int (hs_wb.getD j 0)) (by rw [nI_clamp (show j < 2 ^ 31 by omega)]) dJ1_charAt_3b067_8 ?_
  refine lv_sipush (v := 255) hx hb dJ1_charAt_3b067_9 (by decide) ?_
  refine lv_iand hx hb dJ1_charAt_3b067_12 ?_
  refine lv_i2c hx hb dJ1_charAt_3b067_13 rfl ?_
  exact W.zret hx hb hr (hs_chr_nar j hj) (fun t ht hW => ⟨rfl, hS.F ht⟩) hS.2.2 dJ1_charAt_3b067_14 hlk
theorem hs_c_at (l : Launch) (sa : Nat → Nat) {j : Nat} (hj : j < 132) : hs_Met l 3 mJ0_charAt_5068e sa [.ref (sa 1005), .int (nI j)] (some (.int (hs_chr j))) := by
  refine hs_meet (by decide +kernel) (Nat.le_refl _) ?_
  intro p e s m args below meth c ls C hls
  obtain ⟨⟨hx, hb, hml, hown, hg⟩, hr, hlk, hG⟩ := C
  have hl : lv_has ls 2 [(0, .ref (sa 1005)), (1, .int (nI j))] := by rw [hls]; exact lv_entry [.ref (sa 1005), .int (nI j)] (n := 2) (Nat.le_refl _)
  have hS : va_S hs_no s.heap s.heap [] := va_S.rf
  refine lv_aload_n hx hb dJ0_charAt_5068e_0 rfl (lv_at hl 0 rfl) ?_
  refine hs_callV (d := 0) ⟨hx, hb, hml, hown, hg⟩ hG hS mJ0_isLatin1_aae02 [] rfl (hs_c_lat l 0 sa) cvJ0_isLatin1_aae02 rfl nl_J0_492 rfl (Nat.le_of_ble_eq_true rfl) ⟨Nat.le_of_ble_eq_true rfl, Nat.le_of_ble_eq_true rfl⟩ ⟨Nat.le_of_ble_eq_true rfl, Nat.le_of_ble_eq_true rfl⟩ hl.1 dJ0_charAt_5068e_1 (fun H1 locs1 hS _ _ => ?_)
  refine lv_if_eq (tgt := 16) hx hb dJ0_charAt_5068e_4 (by decide) (fun q => absurd q (by decide)) (fun _ => ?_)
  refine lv_aload_n hx hb dJ0_charAt_5068e_7 rfl (lv_at hl 0 rfl) ?_
  refine vk_getf hx hb hG.2.2.1 hS hown (hg _ fk_J0_9) (fun _ h => h) dJ0_charAt_5068e_8 ?_
  refine lv_iload_n hx hb dJ0_charAt_5068e_11 rfl (lv_at hl 1 rfl) ?_
  refine hs_callS (d := 2) ⟨hx, hb, hml, hown, hg⟩ hG hS mJ1_charAt_3b067 [.ref (sa 1006), .int (nI j)] rfl (hs_c_at1 l sa hj) csJ1_charAt_3b067 (fm_t1 205 rfl rfl) rfl (Nat.le_of_ble_eq_true rfl) ⟨Nat.le_of_ble_eq_true rfl, Nat.le_of_ble_eq_true rfl⟩ ⟨Nat.le_of_ble_eq_true rfl, Nat.le_of_ble_eq_true rfl⟩ hl.1 dJ0_charAt_5068e_12 (fun H1 locs1 hS _ _ => ?_)
  exact W.zret hx hb hr (hs_chr_nar j hj) (fun t ht hW => ⟨rfl, hS.F ht⟩) hS.2.2 dJ0_charAt_5068e_15 hlk
