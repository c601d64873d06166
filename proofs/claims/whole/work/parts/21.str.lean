theorem nl_6_36 : Cond.methodLink RX6 36 yJ0_length_8abf5 ∈ fm_gw := fm_t1 187 rfl rfl
theorem nl_J0_335 : Cond.methodLink RJ0 335 yJ0_coder_7d493 ∈ fm_gw := fm_t1 191 rfl rfl
theorem nl_6_42 : Cond.methodLink RX6 42 yJ0_charAt_5068e ∈ fm_gw := fm_t1 197 rfl rfl
theorem nl_J0_492 : Cond.methodLink RJ0 492 yJ0_isLatin1_aae02 ∈ fm_gw := fm_t1 201 rfl rfl
theorem nl_10_175 : Cond.methodLink RX10 175 yJ0_length_8abf5 ∈ fm_gw := fm_t6 205 rfl rfl
theorem nl_10_180 : Cond.methodLink RX10 180 yJ0_charAt_5068e ∈ fm_gw := fm_t6 206 rfl rfl
theorem fs_ldc {d : Nat} {y : fm_I} {Q : Option Value → fm_M → Prop} {pc : Nat} {L : List (Option Value)} {r : List Value} {M : fm_M} (hy : y.1.cls = "ForkCouncilModel") (hd : decode y.2.1 pc = .ok (.ldc 173, 2)) (k : fm_mw d y Q (pc + 2) L (.ref 1000 :: r) M) : fm_mw d y Q pc L r M :=
  fun p l e s m args below meth c D ad ca A H locs ls C hl hP hD hS => va_ldcS C.1 C.2.1 (own := "ForkCouncilModel") (hy ▸ C.2.2.2.2.2.1) C.2.2.2.2.2.2.2.2.2.2.2.2.2.2.1 hd (k p l e s m args below meth c D ad ca A H locs ls C hl hP hD hS)
theorem fs_value {d : Nat} {y : fm_I} {Q : Option Value → fm_M → Prop} {pc : Nat} {L : List (Option Value)} {r : List Value} {M : fm_M} {idx : Nat} (hk : Cond.fieldLink y.1.cls idx "java/lang/String" "value" "[B" ∈ fm_gw) (hd : decode y.2.1 pc = .ok (.getfield idx, 3)) (k : fm_mw d y Q (pc + 3) L (.ref 1001 :: r) M) : fm_mw d y Q pc L (.ref 1000 :: r) M :=
  fun p l e s m args below meth c D ad ca A H locs ls C hl hP hD hS => vk_getf C.1 C.2.1 C.2.2.2.2.2.2.2.2.2.2.2.2.1 hS C.2.2.2.2.2.1 (C.2.2.2.2.2.2.1 _ hk) (fun _ h => h) hd (k p l e s m args below meth c D ad ca A H locs ls C hl hP hD hS)
theorem fs_coder {d : Nat} {y : fm_I} {Q : Option Value → fm_M → Prop} {pc : Nat} {L : List (Option Value)} {r : List Value} {M : fm_M} {idx : Nat} (hk : Cond.fieldLink y.1.cls idx "java/lang/String" "coder" "B" ∈ fm_gw) (hd : decode y.2.1 pc = .ok (.getfield idx, 3)) (k : fm_mw d y Q (pc + 3) L (.int 0 :: r) M) : fm_mw d y Q pc L (.ref 1000 :: r) M :=
  fun p l e s m args below meth c D ad ca A H locs ls C hl hP hD hS => vk_getf C.1 C.2.1 C.2.2.2.2.2.2.2.2.2.2.2.1 hS C.2.2.2.2.2.1 (C.2.2.2.2.2.2.1 _ hk) (fun _ h => h) hd (k p l e s m args below meth c D ad ca A H locs ls C hl hP hD hS)
theorem fs_compact {d : Nat} {y : fm_I} {Q : Option Value → fm_M → Prop} {pc : Nat} {L : List (Option Value)} {r : List Value} {M : fm_M} {idx : Nat} (hk : Cond.fieldLink y.1.cls idx "java/lang/String" "COMPACT_STRINGS" "Z" ∈ fm_gw) (hd : decode y.2.1 pc = .ok (.getstatic idx, 3)) (k : fm_mw d y Q (pc + 3) L (.int 1 :: r) M) : fm_mw d y Q pc L r M :=
  fun p l e s m args below meth c D ad ca A H locs ls C hl hP hD hS => va_gets C.1 C.2.1 C.2.2.2.2.2.2.2.2.2.2.2.2.2.2.2.1 hS C.2.2.2.2.2.1 (C.2.2.2.2.2.2.1 _ hk) (fun _ h => h) hd (k p l e s m args below meth c D ad ca A H locs ls C hl hP hD hS)
theorem fs_form {d : Nat} {y : fm_I} {Q : Option Value → fm_M → Prop} {pc : Nat} {L : List (Option Value)} {r : List Value} {M : fm_M} {idx : Nat} (hk : Cond.fieldLink y.1.cls idx "jdk/internal/util/Preconditions" "SIOOBE_FORMATTER" "Ljava/util/function/BiFunction;" ∈ fm_gw) (hd : decode y.2.1 pc = .ok (.getstatic idx, 3)) (k0 : fm_mw d y Q (pc + 3) L (.null :: r) M) (k : fm_mw d y Q (pc + 3) L (.ref 1002 :: r) M) : fm_mw d y Q pc L r M := by
  intro p l e s m args below meth c D ad ca A H locs ls C hl hP hD hS
  rcases C.2.2.2.2.2.2.2.2.2.2.2.2.2.2.2.2 with hz | hz
  · exact va_gets C.1 C.2.1 hz hS C.2.2.2.2.2.1 (C.2.2.2.2.2.2.1 _ hk) (fun _ h => h) hd (k0 p l e s m args below meth c D ad ca A H locs ls C hl hP hD hS)
  · exact va_gets C.1 C.2.1 hz hS C.2.2.2.2.2.1 (C.2.2.2.2.2.2.1 _ hk) (fun _ h => h) hd (k p l e s m args below meth c D ad ca A H locs ls C hl hP hD hS)
theorem fs_alen {d : Nat} {y : fm_I} {Q : Option Value → fm_M → Prop} {pc : Nat} {L : List (Option Value)} {r : List Value} {M : fm_M} (hd : decode y.2.1 pc = .ok (.arraylength, 1)) (k : fm_mw d y Q (pc + 1) L (.int 111 :: r) M) : fm_mw d y Q pc L (.ref 1001 :: r) M :=
  fun p l e s m args below meth c D ad ca A H locs ls C hl hP hD hS => va_tlen C.1 C.2.1 C.2.2.2.2.2.2.2.2.2.2.2.2.2.1 hS (v := 111) rfl hd (k p l e s m args below meth c D ad ca A H locs ls C hl hP hD hS)
theorem fs_ald {d : Nat} {y : fm_I} {Q : Option Value → fm_M → Prop} {pc : Nat} {L : List (Option Value)} {r : List Value} {M : fm_M} {i : Int32} (hin : vp_in i 111) (hd : decode y.2.1 pc = .ok (.baload, 1)) (k : fm_mw d y Q (pc + 1) L (.int (fm_wb.getD i.toNatClampNeg 0) :: r) M) : fm_mw d y Q pc L (.int i :: .ref 1001 :: r) M :=
  fun p l e s m args below meth c D ad ca A H locs ls C hl hP hD hS => va_tb C.1 C.2.1 C.2.2.2.2.2.2.2.2.2.2.2.2.2.1 hS hin (v := .int (fm_wb.getD i.toNatClampNeg 0)) rfl hd (k p l e s m args below meth c D ad ca A H locs ls C hl hP hD hS)
theorem fs_i2c {d : Nat} {y : fm_I} {Q : Option Value → fm_M → Prop} {pc : Nat} {L : List (Option Value)} {r : List Value} {M : fm_M} {x : Int32} (hd : decode y.2.1 pc = .ok (.i2c, 1)) (k : fm_mw d y Q (pc + 1) L (.int (x.toUInt32 % 65536).toInt32 :: r) M) : fm_mw d y Q pc L (.int x :: r) M :=
  fun p l e s m args below meth c D ad ca A H locs ls C hl hP hD hS => lv_i2c C.1 C.2.1 hd rfl (k p l e s m args below meth c D ad ca A H locs ls C hl hP hD hS)
theorem fs_nret {d : Nat} {y : fm_I} {Q : Option Value → fm_M → Prop} {pc : Nat} {L : List (Option Value)} {M : fm_M} {v : Int32} {ty : FieldType} (hr : y.2.2.2 = some ty) (hz : narrow ty (.int v) = .int v) (hq : Q (some (.int v)) M) (hd : decode y.2.1 pc = .ok (.ireturn, 1)) : fm_mw d y Q pc L [.int v] M :=
  fun p l e s m args below meth c D ad ca A H locs ls C hl hP hD hS => W.zret C.1 C.2.1 (C.2.2.2.1.trans hr) hz (fun t ht hW => ⟨⟨some (.int v), M, rfl, hq, by rw [ht]; exact hP, va_K.moved hW.alike C.2.2.2.2.2.2.2.1, hD⟩, hS.F ht⟩) hS.2.2 hd C.2.2.2.2.1
/-- a call of the text's own methods -/
theorem fs_callV {d : Nat} {y : fm_I} {Q : Option Value → fm_M → Prop} {pc : Nat} {L : List (Option Value)} {St : List Value} {M : fm_M} {idx n : Nat} (y2 : fm_I) (As rest : List Value) (hS0 : St = As.reverse ++ .ref 1000 :: rest) (hy : fm_cv y2 n) (hcl : y2.1.cls = "java/lang/String") (hln : Cond.methodLink y.1.cls idx y2.1 ∈ fm_gw) (hn : As.length = n) (hlen : (fm_en (.ref 1000 :: As)).length ≤ y2.2.2.1) (hrest : (rest.map fun v => v.category).sum ≤ 8) (hd : decode y.2.1 pc = .ok (.invokevirtual idx, 3)) (hM : fm_ct d y2 (.ref 1000 :: As) M (fun r M' => fm_mw (d + 1) y Q (pc + 3) L (r.toList ++ rest) M')) : fm_mw (d + 1) y Q pc L St M := by
  intro p l e s m args below meth c D ad ca A H locs ls C hl hP hD hS
  subst hS0
  have hg := C.2.2.2.2.2.2.1
  have hK := C.2.2.2.2.2.2.2.1
  have hA := C.2.2.2.2.2.2.2.2.1
  have hN := C.2.2.2.2.2.2.2.2.2.1
  have hG := C.2.2.2.2.2.2.2.2.2.2
  obtain ⟨⟨hcode, hini, hpl, hmx, hdd⟩, hin, hsel⟩ := hy
  have hMet := fm_meet hM hpl hlen l D ad ca H.size
  have hR : (fm_room d).frames + 1 ≤ (fm_room (d + 1)).frames ∧ 8 + (y2.2.2.1 + 11) + (fm_room d).locals ≤ (fm_room (d + 1)).locals := ⟨Nat.le_refl _, by simp only [fm_room]; omega⟩
  have hst : (F0 m pc ls ((As.reverse ++ .ref 1000 :: rest).map (fm_re ad))).stack = (As.map (fm_re ad)).reverse ++ Value.ref (ad 1000) :: rest.map (fm_re ad) := by
    simp only [F0, List.map_append, List.map_reverse, List.map_cons, fm_re]
  have hw8 : 2 * (F0 m pc ls ((As.reverse ++ .ref 1000 :: rest).map (fm_re ad))).monitorRoom + ((rest.map (fm_re ad)).map fun v => v.category).sum ≤ 8 := lv_room (by rw [fm_cats]; exact hrest)
  have hrc : ∃ cell : Cell, H[ad 1000]? = some cell ∧ cell.vm.isStatics = false ∧ s.vm.findClass y2.1.cls = some cell.cls := by
    obtain ⟨cell, h1, h2, h3, -⟩ := hG.1.kept hS.2.1
    exact ⟨cell, h1, h2, by rw [hcl]; exact h3⟩
  have hp : PreV s H y2.1.cls (ad 1000) (fm_Pc M (.ref 1000 :: As) D ad ca H.size) (As.map (fm_re ad)) := ⟨fm_blind _ _ _ _ _ _, hrc, fun U hU hW => ⟨rfl, by rw [hU], by rw [hU]; exact hP, va_K.moved hW.alike hK, hD.weaken (fun _ _ _ _ => trivial), fun w hw => fm_nw_warm hw hW (hN w hw), by rw [hU]; exact hG.go hS.2.1 hW.alike (vk_R.warm hW hG.2.2.2.2.1) (fm_wsA hD hA hS)⟩⟩
  have kk : ∀ (r : Option Value) (M' : fm_M) (H1 : Heap) (locs1 : List Loc), fm_mw (d + 1) y Q (pc + 3) L (r.toList ++ rest) M' → va_P D vwCl (fm_ws ad ca M') H1 → va_D A (fm_ws ad ca M') → va_S A s.heap H1 locs1 → W p l e (fm_room (d + 1)) s m args below meth c H1 locs1 0 0 (MQ below (fm_Qc Q D ad ca A) args s 0 0 A) (F0 m (pc + 3) ls ((r.map (fm_re ad)).toList ++ rest.map (fm_re ad))) := fun r M' H1 locs1 hq hP hD hS => by
    have := hq p l e s m args below meth c D ad ca A H1 locs1 ls C hl hP hD hS
    rw [fm_opt] at this
    exact this
  exact fm_run (va_runV (As := As.map (fm_re ad)) (rest := rest.map (fm_re ad)) ⟨C.1, C.2.1, C.2.2.1, C.2.2.2.2.2.1, hg⟩ hMet ⟨callB_of n hg (fm_good hcode) rfl rfl rfl (hg _ hini) (hg _ hln) hdd hR, hg _ hin, hg _ hsel⟩ hp rfl (by rw [List.length_map]; exact hn) hl.1 hst hw8 hd ⟨Nat.le_refl _, Nat.le_refl _⟩) hK hD hA hS kk
theorem fs_c_coder {d : Nat} {M : fm_M} {Q : Option Value → fm_M → Prop} (hq : Q (some (.int 0)) M) : fm_ct d mJ0_coder_7d493 [.ref 1000] M Q := by
  show fm_mw d mJ0_coder_7d493 Q 0 [some (.ref 1000)] [] M
  refine fs_compact (pc := 0) fk_J0_38 dJ0_coder_7d493_0 ?_
  refine fm_if_eq (pc := 3) 13 (by decide) dJ0_coder_7d493_3 (fun c => absurd c (by decide)) (fun _ => ?_)
  refine fl_aload0 (pc := 6) dJ0_coder_7d493_6 ?_
  refine fs_coder (pc := 7) fk_J0_15 dJ0_coder_7d493_7 ?_
  refine fm_goto (pc := 10) 14 (by decide) dJ0_coder_7d493_10 ?_
  exact fs_nret (pc := 14) rfl (by decide) hq dJ0_coder_7d493_14
theorem fs_c_lat {d : Nat} {M : fm_M} {Q : Option Value → fm_M → Prop} (hq : Q (some (.int 1)) M) : fm_ct d mJ0_isLatin1_aae02 [.ref 1000] M Q := by
  show fm_mw d mJ0_isLatin1_aae02 Q 0 [some (.ref 1000)] [] M
  refine fs_compact (pc := 0) fk_J0_38 dJ0_isLatin1_aae02_0 ?_
  refine fm_if_eq (pc := 3) 17 (by decide) dJ0_isLatin1_aae02_3 (fun c => absurd c (by decide)) (fun _ => ?_)
  refine fl_aload0 (pc := 6) dJ0_isLatin1_aae02_6 ?_
  refine fs_coder (pc := 7) fk_J0_15 dJ0_isLatin1_aae02_7 ?_
  refine fm_if_ne (pc := 10) 17 (by decide) dJ0_isLatin1_aae02_10 (fun c => absurd rfl c) (fun _ => ?_)
  refine fm_iconstv (pc := 13) 1 (by decide) dJ0_isLatin1_aae02_13 ?_
  refine fm_goto (pc := 14) 18 (by decide) dJ0_isLatin1_aae02_14 ?_
  exact fs_nret (pc := 18) rfl (by decide) hq dJ0_isLatin1_aae02_18
theorem fs_c_len {d : Nat} {M : fm_M} {Q : Option Value → fm_M → Prop} (hq : Q (some (.int 111)) M) : fm_ct (d + 1) mJ0_length_8abf5 [.ref 1000] M Q := by
  show fm_mw (d + 1) mJ0_length_8abf5 Q 0 [some (.ref 1000)] [] M
  refine fl_aload0 (pc := 0) dJ0_length_8abf5_0 ?_
  refine fs_value (pc := 1) fk_J0_9 dJ0_length_8abf5_1 ?_
  refine fs_alen (pc := 4) dJ0_length_8abf5_4 ?_
  refine fl_aload0 (pc := 5) dJ0_length_8abf5_5 ?_
  refine fs_callV (pc := 6) mJ0_coder_7d493 [] _ rfl cvJ0_coder_7d493 rfl nl_J0_335 rfl (Nat.le_of_ble_eq_true rfl) (Nat.le_of_ble_eq_true rfl) dJ0_length_8abf5_6 ?_
  refine fs_c_coder ?_
  refine fm_ret1 ?_
  refine fm_ishr (pc := 9) dJ0_length_8abf5_9 ?_
  exact fm_iret (pc := 10) rfl hq dJ0_length_8abf5_10
theorem fs_c_pre {d : Nat} {M : fm_M} {Q : Option Value → fm_M → Prop} {i n : Int32} {v : Value} (hv : v = .null ∨ v = .ref 1002) (h0 : ¬ i < 0) (h1 : i < n) (hq : Q (some (.int i)) M) : fm_ct d mJ3_checkIndex_8e157 [.int i, .int n, v] M Q := by
  have e : fm_ent [.int i, .int n, v] 3 = [some (.int i), some (.int n), some v] := by rcases hv with rfl | rfl <;> rfl
  show fm_mw d mJ3_checkIndex_8e157 Q 0 (fm_ent [.int i, .int n, v] 3) [] M
  rw [e]
  refine fl_iload0 (pc := 0) dJ3_checkIndex_8e157_0 ?_
  refine fm_if_lt (pc := 1) 9 (by decide) dJ3_checkIndex_8e157_1 (fun c => absurd c h0) (fun _ => ?_)
  refine fl_iload0 (pc := 4) dJ3_checkIndex_8e157_4 ?_
  refine fl_iload1 (pc := 5) dJ3_checkIndex_8e157_5 ?_
  refine fm_icmp_lt (pc := 6) 16 (by decide) dJ3_checkIndex_8e157_6 (fun _ => ?_) (fun c => absurd h1 c)
  refine fl_iload0 (pc := 16) dJ3_checkIndex_8e157_16 ?_
  exact fm_iret (pc := 17) rfl hq dJ3_checkIndex_8e157_17
theorem fs_c_chk {d : Nat} {M : fm_M} {Q : Option Value → fm_M → Prop} {i n : Int32} (h0 : ¬ i < 0) (h1 : i < n) (hq : Q none M) : fm_ct (d + 1) mJ0_checkIndex_df160 [.int i, .int n] M Q := by
  show fm_mw (d + 1) mJ0_checkIndex_df160 Q 0 [some (.int i), some (.int n)] [] M
  refine fl_iload0 (pc := 0) dJ0_checkIndex_df160_0 ?_
  refine fl_iload1 (pc := 1) dJ0_checkIndex_df160_1 ?_
  have go : ∀ v : Value, (v = .null ∨ v = .ref 1002) → fm_mw (d + 1) mJ0_checkIndex_df160 Q (2 + 3) [some (.int i), some (.int n)] [v, .int n, .int i] M := by
    intro v hv
    refine fm_callS (pc := 5) mJ3_checkIndex_8e157 [_, _, _] _ rfl csJ3_checkIndex_8e157 ml_J0_1059 rfl (by rcases hv with rfl | rfl <;> exact (Nat.le_of_ble_eq_true rfl)) (Nat.le_of_ble_eq_true rfl) dJ0_checkIndex_df160_5 ?_
    refine fs_c_pre hv h0 h1 ?_
    refine fm_ret1 ?_
    refine fm_pop (pc := 8) rfl dJ0_checkIndex_df160_8 ?_
    exact fm_vret (pc := 9) rfl hq dJ0_checkIndex_df160_9
  exact fs_form (pc := 2) fk_J0_1053 dJ0_checkIndex_df160_2 (go _ (Or.inl rfl)) (go _ (Or.inr rfl))
/-- the sign at a place of the text -/
def fm_chr (i : Int32) : Int32 := ((fm_wb.getD i.toNatClampNeg 0 &&& 255).toUInt32 % 65536).toInt32
theorem fm_chr_nar : ∀ j : Nat, j < 111 → narrow .char (.int ((fm_wb.getD j 0 &&& 255).toUInt32 % 65536).toInt32) = .int ((fm_wb.getD j 0 &&& 255).toUInt32 % 65536).toInt32 := by decide +kernel
theorem fs_c_at1 {d : Nat} {M : fm_M} {Q : Option Value → fm_M → Prop} {i : Int32} (hin : vp_in i 111) (hq : Q (some (.int (fm_chr i))) M) : fm_ct (d + 2) mJ1_charAt_3b067 [.ref 1001, .int i] M Q := by
  have hb := vp_in_iff.mp hin
  have h0 : ¬ i < 0 := fun h => by
    have := Int32.lt_iff_toInt_lt.mp h
    simp at this
    omega
  have h1 : i < 111 := Int32.lt_iff_toInt_lt.mpr (by
    show i.toInt < 111
    omega)
  show fm_mw (d + 2) mJ1_charAt_3b067 Q 0 [some (.ref 1001), some (.int i)] [] M
  refine fl_iload1 (pc := 0) dJ1_charAt_3b067_0 ?_
  refine fl_aload0 (pc := 1) dJ1_charAt_3b067_1 ?_
  refine fs_alen (pc := 2) dJ1_charAt_3b067_2 ?_
  refine fm_callS (pc := 3) mJ0_checkIndex_df160 [_, _] _ rfl csJ0_checkIndex_df160 ml_J1_9 rfl (Nat.le_of_ble_eq_true rfl) (Nat.le_of_ble_eq_true rfl) dJ1_charAt_3b067_3 ?_
  refine fs_c_chk h0 h1 ?_
  refine fm_ret0 ?_
  refine fl_aload0 (pc := 6) dJ1_charAt_3b067_6 ?_
  refine fl_iload1 (pc := 7) dJ1_charAt_3b067_7 ?_
  refine fs_ald (pc := 8) hin dJ1_charAt_3b067_8 ?_
  refine fm_sipushv (pc := 9) 255 (by decide) dJ1_charAt_3b067_9 ?_
  refine fm_iand (pc := 12) dJ1_charAt_3b067_12 ?_
  refine fs_i2c (pc := 13) dJ1_charAt_3b067_13 ?_
  refine fs_nret (pc := 14) rfl ?_ hq dJ1_charAt_3b067_14
  refine fm_chr_nar i.toNatClampNeg ?_
  show i.toInt.toNat < 111
  omega
theorem fs_c_at {d : Nat} {M : fm_M} {Q : Option Value → fm_M → Prop} {i : Int32} (hin : vp_in i 111) (hq : Q (some (.int (fm_chr i))) M) : fm_ct (d + 3) mJ0_charAt_5068e [.ref 1000, .int i] M Q := by
  show fm_mw (d + 3) mJ0_charAt_5068e Q 0 [some (.ref 1000), some (.int i)] [] M
  refine fl_aload0 (pc := 0) dJ0_charAt_5068e_0 ?_
  refine fs_callV (pc := 1) mJ0_isLatin1_aae02 [] _ rfl cvJ0_isLatin1_aae02 rfl nl_J0_492 rfl (Nat.le_of_ble_eq_true rfl) (Nat.le_of_ble_eq_true rfl) dJ0_charAt_5068e_1 ?_
  refine fs_c_lat ?_
  refine fm_ret1 ?_
  refine fm_if_eq (pc := 4) 16 (by decide) dJ0_charAt_5068e_4 (fun c => absurd c (by decide)) (fun _ => ?_)
  refine fl_aload0 (pc := 7) dJ0_charAt_5068e_7 ?_
  refine fs_value (pc := 8) fk_J0_9 dJ0_charAt_5068e_8 ?_
  refine fl_iload1 (pc := 11) dJ0_charAt_5068e_11 ?_
  refine fm_callS (pc := 12) mJ1_charAt_3b067 [_, _] _ rfl csJ1_charAt_3b067 ml_J0_495 rfl (Nat.le_of_ble_eq_true rfl) (Nat.le_of_ble_eq_true rfl) dJ0_charAt_5068e_12 ?_
  refine fs_c_at1 hin ?_
  refine fm_ret1 ?_
  refine fs_nret (pc := 15) rfl ?_ hq dJ0_charAt_5068e_15
  refine fm_chr_nar i.toNatClampNeg ?_
  have hb := vp_in_iff.mp hin
  show i.toInt.toNat < 111
  omega
theorem fq_slen {d : Nat} {y : fm_I} {Q : Option Value → fm_M → Prop} {pc idx : Nat} {L : List (Option Value)} {r : List Value} {M : fm_M} (hl0 : Cond.methodLink y.1.cls idx yJ0_length_8abf5 ∈ fm_gw) (hrest : (r.map fun v => v.category).sum ≤ 8) (hd : decode y.2.1 pc = .ok (.invokevirtual idx, 3)) (k : fm_mw (d + 4) y Q (pc + 3) L (.int 111 :: r) M) : fm_mw (d + 4) y Q pc L (.ref 1000 :: r) M := by
  refine fs_callV mJ0_length_8abf5 [] r rfl cvJ0_length_8abf5 rfl hl0 rfl (Nat.le_of_ble_eq_true rfl) hrest hd ?_
  refine fs_c_len (d := d + 2) ?_
  exact fm_ret1 k
theorem fq_char {d : Nat} {y : fm_I} {Q : Option Value → fm_M → Prop} {pc idx : Nat} {L : List (Option Value)} {r : List Value} {M : fm_M} {i : Int32} (hl0 : Cond.methodLink y.1.cls idx yJ0_charAt_5068e ∈ fm_gw) (hrest : (r.map fun v => v.category).sum ≤ 8) (hin : vp_in i 111) (hd : decode y.2.1 pc = .ok (.invokevirtual idx, 3)) (k : fm_mw (d + 4) y Q (pc + 3) L (.int (fm_chr i) :: r) M) : fm_mw (d + 4) y Q pc L (.int i :: .ref 1000 :: r) M := by
  refine fs_callV mJ0_charAt_5068e [.int i] r rfl cvJ0_charAt_5068e rfl hl0 rfl (Nat.le_of_ble_eq_true rfl) hrest hd ?_
  refine fs_c_at (d := d) hin ?_
  exact fm_ret1 k
