/-- what becomes of motion(a1, a2): k 0 returns w, 1 and 2 throw -/
def mo_k (M : fm_M) (t : Nat) (a1 a2 w : Int32) (k : Nat) : Prop := fm_isTd t = true ∧ M.1 0 1 = nI t ∧ ((k = 1 ∧ F_X9_isMotion a1 M = some (0, M)) ∨ (k = 2 ∧ F_X9_isMotion a1 M = some (1, M) ∧ ¬ a2 = 0 ∧ ¬ a2 = 1 ∧ ¬ a2 = 2 ∧ ¬ a2 = 3) ∨ (k = 0 ∧ F_X9_isMotion a1 M = some (1, M) ∧ ∃ m : Nat, m < 10 ∧ a1 = nI m ∧ ((a2 = 0 ∧ w = M.1 (t + 7) m) ∨ (a2 = 1 ∧ w = M.1 41 m) ∨ (a2 = 2 ∧ w = M.1 42 m) ∨ (a2 = 3 ∧ w = M.1 43 m))))
abbrev mo_rm : Room := { frames := 10, cells := 1, slots := 6, locals := 400 }
def mo_Pc (M : fm_M) (a1 a2 : Int32) (D : va_G) (ad : Nat → Nat) (ca : FieldType → ClassId) (sz : Nat) : Array Value → State → Prop := va_Pc (([.ref 0, .int a1, .int a2] : List Value).map (fm_re ad)) (fun U => U.heap.size = sz ∧ va_P D vwCl (fm_ws ad ca M) U.heap ∧ va_K D vwCl (fm_tys ca) U ∧ va_D (fun _ => True) (fm_ws ad ca M) ∧ (∀ w ∈ fm_nw, va_Nw w U) ∧ fm_str ad (va_A (fm_ws ad ca M) sz) U U.heap ∧ mo_tw ad (va_A (fm_ws ad ca M) sz) U U.heap)
def mo_W (M : fm_M) (D : va_G) (ad : Nat → Nat) (ca : FieldType → ClassId) (t : State) : Prop := va_P D vwCl (fm_ws ad ca M) t.heap ∧ va_K D vwCl (fm_tys ca) t
def mo_X (k : Nat) (M : fm_M) (D : va_G) (ad : Nat → Nat) (ca : FieldType → ClassId) (E : String) (_ : Unit) (t : State) : Prop := ((E = xI ∧ k = 1) ∨ (E = xN ∧ k = 2)) ∧ mo_W M D ad ca t
theorem mo_kept {D : va_G} {cl : List vw_C} {ws : va_W} {H H1 : Heap} (hP : va_P D cl ws H) (h : ∀ q : Nat, q < H.size → H1[q]? = H[q]?) : va_P D cl ws H1 := fun k q hq => (hP k q hq).kept (h q.1 (hP k q hq).lt)
set_option maxHeartbeats 4000000 in
theorem x9_motion (l : Launch) (hl : l.stackTraces = false) (D : va_G) (ad : Nat → Nat) (ca : FieldType → ClassId) (sz : Nat) {M : fm_M} {t : Nat} {a1 a2 w : Int32} {k : Nat} (hk : mo_k M t a1 a2 w k) :
    vx_Met l yX9_motion (fm_wy mX9_motion) mo_rm (mo_Pc M a1 a2 D ad ca sz) (va_Qi (fun r (_ : Unit) => r = w ∧ k = 0) (fun _ => mo_W M D ad ca) (va_A (fm_ws ad ca M) sz)) (vx_X (fun _ : Unit => True) (mo_X k M D ad ca) (va_A (fm_ws ad ca M) sz)) 1 6 (va_A (fm_ws ad ca M) sz) := by
  refine vx_ofW (cc := cX9_motion) (maxL := 3) (ret := some .int) (by decide) rfl ?_
  intro p e s m args below meth c s₁ B hml htab hv
  obtain ⟨rfl, hsz, hP, hK, hD0, hN, hG, hT⟩ := hv
  subst hsz
  have hts := atoms_spec (ws := fm_wy mX9_motion) B.pre
  have hg : ∀ w ∈ fm_gw, w.before (([.ref 0, .int a1, .int a2] : List Value).map (fm_re ad)).toArray s = true := fun w hw => hts w (List.mem_cons_of_mem _ hw)
  have hown : s.vm.findClass RX9 = some m.cls := findClass_of_methodNamed B.named
  have hD := hD0.self (sz := s.heap.size)
  generalize hAe : va_A (fm_ws ad ca M) s.heap.size = A at hD hG hT ⊢
  have hA : ∀ q : Nat, s.heap.size ≤ q → A q := fun q h => by rw [← hAe]; exact Or.inr h
  have C : fw_ok RX9 cX9_motion 3 p s m (([.ref 0, .int a1, .int a2] : List Value).map (fm_re ad)).toArray c D ad ca A := ⟨⟨B.exec, B.bytes, hml, hown, hg⟩, hK, hA, hN, hG⟩
  have hx := B.exec
  have hb := B.bytes
  have hlv := lv_entry (([.ref 0, .int a1, .int a2] : List Value).map (fm_re ad)) (n := 3) (by rw [fm_en_len]; exact Nat.le_of_ble_eq_true rfl)
  have hfl := fm_lv_ent hlv
  rw [lg_entry_eq]
  generalize (lg_sl (([.ref 0, .int a1, .int a2] : List Value).map (fm_re ad)) ++ List.replicate (3 - (lg_sl (([.ref 0, .int a1, .int a2] : List Value).map (fm_re ad))).length) Slot.unset).toArray = ls at hlv hfl ⊢
  have hlv : lv_has ls 3 [(0, .ref (ad 0)), (1, .int a1), (2, .int a2)] := hlv
  have hsz : ls.size = c.maxLocals := hlv.1.trans hml.symm
  have hall : ∀ {L : List Cond} (_ : ∀ w ∈ L.filter goodWord, w ∈ lw_tbl) (_ : ∀ w ∈ L.filter (fun w => !goodWord w), w ∈ mo_B), ∀ w ∈ L, w.before (([.ref 0, .int a1, .int a2] : List Value).map (fm_re ad)).toArray s = true := fun g1 g2 => vx_hat (B := mo_B) (fun w hw => hg w (List.mem_filter.mpr ⟨g1 w hw, (List.mem_filter.mp hw).2⟩)) g2 (fun w hw => va_Nw.use (mo_Bt w hw) (hT.2.2.2.2 w hw))
  obtain ⟨ht, h01, hk⟩ := hk
  have hS : va_S A s.heap s.heap [] := va_S.rf
  refine lv_aload_n hx hb dX9_motion_0 rfl (lv_at hlv 0 rfl) ?_
  refine lv_iload_n hx hb dX9_motion_1 rfl (lv_at hlv 1 rfl) ?_
  have hcall : ∀ (z : Int32), F_X9_isMotion a1 M = some (z, M) → (∀ (H1 : Heap) (locs1 : List Loc), va_P D vwCl (fm_ws ad ca M) H1 → va_S A s.heap H1 locs1 → W p l e mo_rm s m (([.ref 0, .int a1, .int a2] : List Value).map (fm_re ad)).toArray below meth c H1 locs1 0 0 (vx_MQ below (va_Qi (fun r (_ : Unit) => r = w ∧ k = 0) (fun _ => mo_W M D ad ca) A) (vx_X (fun _ : Unit => True) (mo_X k M D ad ca) A) (([.ref 0, .int a1, .int a2] : List Value).map (fm_re ad)).toArray s 1 6 A) (F0 m 5 ls [.int z])) → W p l e mo_rm s m (([.ref 0, .int a1, .int a2] : List Value).map (fm_re ad)).toArray below meth c s.heap [] 0 0 (vx_MQ below (va_Qi (fun r (_ : Unit) => r = w ∧ k = 0) (fun _ => mo_W M D ad ca) A) (vx_X (fun _ : Unit => True) (mo_X k M D ad ca) A) (([.ref 0, .int a1, .int a2] : List Value).map (fm_re ad)).toArray s 1 6 A) (F0 m 2 ls [.int a1, .ref (ad 0)]) := by
    intro z hz kk
    refine fw_callV (d := 0) (Q := mo_Q z M) (idx := 121) C mX9_isMotion [.int a1] [] rfl (sp_X9_isMotion (d := 0) hz ⟨rfl, rfl⟩) cvX9_isMotion (fm_t4 112 rfl rfl) sh_0 rfl rfl (Nat.le_of_ble_eq_true rfl) (Nat.le_of_ble_eq_true rfl) ⟨Nat.le_of_ble_eq_true rfl, Nat.le_of_ble_eq_true rfl⟩ ⟨Nat.le_of_ble_eq_true rfl, Nat.le_of_ble_eq_true rfl⟩ hlv.1 dX9_motion_2 hP hD hS (fun r M' H1 locs1 hq hP2 hD2 hS2 _ _ => ?_)
    obtain ⟨hr9, hM9⟩ := hq
    rw [hM9] at hP2
    subst hr9
    exact kk H1 locs1 hP2 hS2
  have hex : ∀ (E : String) (H1 : Heap) (locs1 : List Loc), va_P D vwCl (fm_ws ad ca M) H1 → va_S A s.heap H1 locs1 → ((E = xI ∧ k = 1) ∨ (E = xN ∧ k = 2)) → ∀ t : State, s.vm.Alike t.vm → H1.size ≤ t.heap.size → (∀ q : Nat, q < H1.size → t.heap[q]? = H1[q]?) → vx_X (fun _ : Unit => True) (mo_X k M D ad ca) A E s t :=
    fun E H1 locs1 hP hS hE t ha h1 h2 => ⟨(), trivial, ⟨hE, mo_kept hP h2, va_K.moved ha hK⟩, Nat.le_trans hS.1 h1, fun q q1 q2 => (h2 q (Nat.lt_of_lt_of_le q1 hS.1)).trans (hS.2.1 q q1 q2)⟩
  rcases hk with ⟨e1, hz⟩ | ⟨e2, hz, n0, n1, n2, n3⟩ | ⟨e0, hz, m0, hm0, ea, hw⟩
  · refine hcall 0 hz (fun H1 locs1 hP hS => ?_)
    refine lv_if_ne (tgt := 18) hx hb dX9_motion_5 (by decide) (fun q => absurd rfl q) (fun _ => ?_)
    exact vx_throwS (A := A) (is := 127) (ic := 129) (ik := 125) (Y0 := xR) (r := [xE]) (ix := 7) (rx := prog_17_method_2_code) (text := "no such motion") hx hb hl (by decide +kernel) (by decide +kernel) (by decide +kernel) (by decide +kernel) hown (by decide +kernel) (by decide +kernel) (by decide +kernel) (hg _ mo_k1.1) (hg _ mo_k1.2.1) hT.2.2.1 (hall mo_g1 mo_b1) mo_o1 hT.1 hT.2.1 hS hsz dX9_motion_8 dX9_motion_11 dX9_motion_12 dX9_motion_14 dX9_motion_17 (fun x hx => (htab x hx).elim) (Nat.le_of_ble_eq_true rfl) (Nat.le_of_ble_eq_true rfl) (Nat.le_of_ble_eq_true rfl) (Nat.le_of_ble_eq_true rfl) B.notSynchronized (hex xI H1 locs1 hP hS (Or.inl ⟨rfl, e1⟩)) hS.2.2 (Nat.le_refl _) (Nat.le_refl _)
  · refine hcall 1 hz (fun H1 locs1 hP hS => ?_)
    refine lv_if_ne (tgt := 18) hx hb dX9_motion_5 (by decide) (fun _ => ?_) (fun q => absurd q (by decide))
    refine lv_iload_n hx hb dX9_motion_18 rfl (lv_at hlv 2 rfl) ?_
    have hout : a2.toInt < 0 ∨ 3 < a2.toInt := by
      refine fm_swo a2 4 (fun j hj h => ?_)
      have : j = 0 ∨ j = 1 ∨ j = 2 ∨ j = 3 := by omega
      rcases this with rfl | rfl | rfl | rfl
      · exact n0 (Int32.toInt_inj.mp h)
      · exact n1 (Int32.toInt_inj.mp h)
      · exact n2 (Int32.toInt_inj.mp h)
      · exact n3 (Int32.toInt_inj.mp h)
    refine lv_tableOut (tgt := 88) hx hb dX9_motion_19 hout (by decide) ?_
    exact vx_throwS (A := A) (is := 147) (ic := 149) (ik := 145) (Y0 := xR) (r := [xE]) (ix := 13) (rx := prog_29_method_4_code) (text := "no such what") hx hb hl (by decide +kernel) (by decide +kernel) (by decide +kernel) (by decide +kernel) hown (by decide +kernel) (by decide +kernel) (by decide +kernel) (hg _ mo_k1.2.2.1) (hg _ mo_k1.2.2.2) hT.2.2.2.1 (hall mo_g2 mo_b2) mo_o2 hT.1 hT.2.1 hS hsz dX9_motion_88 dX9_motion_91 dX9_motion_92 dX9_motion_94 dX9_motion_97 (fun x hx => (htab x hx).elim) (Nat.le_of_ble_eq_true rfl) (Nat.le_of_ble_eq_true rfl) (Nat.le_of_ble_eq_true rfl) (Nat.le_of_ble_eq_true rfl) B.notSynchronized (hex xN H1 locs1 hP hS (Or.inr ⟨rfl, e2⟩)) hS.2.2 (Nat.le_refl _) (Nat.le_refl _)
  · refine hcall 1 hz (fun H1 locs1 hP hS => ?_)
    refine lv_if_ne (tgt := 18) hx hb dX9_motion_5 (by decide) (fun _ => ?_) (fun q => absurd q (by decide))
    have k2 := mo_ret ht h01 hm0 ea hw p l e s m (([.ref 0, .int a1, .int a2] : List Value).map (fm_re ad)).toArray below meth c D ad ca A H1 locs1 ls ⟨hx, hb, hml, B.returns, B.notSynchronized, hown, hg, hK, hA, hN, hG⟩ hfl hP hD hS
    refine fw_room (R := fm_room 5) (by decide) (by decide) (by decide) (by decide) ?_
    intro T hT X
    obtain ⟨t2, a1, o, b1, b2, ⟨⟨r, M', hv, ⟨rfl, rfl⟩, hP1, hK1, -⟩, hF⟩, L, ⟨⟨v, hv2⟩, hW2, hs2⟩, hL⟩ := k2 T hT X
    exact ⟨t2, a1, o, b1, b2, Or.inl ⟨⟨⟨w, (), hv, ⟨rfl, e0⟩, hP1, hK1⟩, hF⟩, L, ⟨⟨v, hv2⟩, hW2, hs2.mono (Nat.zero_le _) (Nat.zero_le _)⟩, hL⟩⟩
