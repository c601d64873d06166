/-! the law's motion, which catches -/
def lo_c (ca : FieldType → ClassId) (f : Nat → Int64) : va_E := .inl (ca .long, 1, .inr (.inl f))
abbrev lo_ws (ad : Nat → Nat) (ca : FieldType → ClassId) (M : fm_M) (qo : Nat) (f : Nat → Int64) : va_W := fm_ws ad ca M ++ [(qo, lo_c ca f)]
def lo_hh : List (Nat × Nat × Nat × Nat) := [(0, 10, 13, 13), (0, 10, 17, 15)]
def lo_wy : List Cond := .codeWith yL_motion cL_motion 5 (some .int) lo_hh :: fm_gw
abbrev lo_rm : Room := { frames := 12, cells := 1, slots := 6, locals := 500 }
def lo_Pc (M : fm_M) (a1 a2 : Int32) (f : Nat → Int64) (qo : Nat) (D : va_G) (ad : Nat → Nat) (ca : FieldType → ClassId) (sz : Nat) : Array Value → State → Prop := va_Pc [.ref (ad 0), .int a1, .int a2, .ref qo] (fun U => U.heap.size = sz ∧ va_P D vwCl (lo_ws ad ca M qo f) U.heap ∧ va_K D vwCl (fm_tys ca) U ∧ va_D (fun _ => True) (lo_ws ad ca M qo f) ∧ (∀ w ∈ fm_nw, va_Nw w U) ∧ fm_str ad (va_A (lo_ws ad ca M qo f) sz) U U.heap ∧ mo_tw ad (va_A (lo_ws ad ca M qo f) sz) U U.heap ∧ va_Nc xN xI U)
theorem lo_pre {D : va_G} {cl : List vw_C} {w1 w2 : va_W} {H : Heap} (hP : va_P D cl (w1 ++ w2) H) : va_P D cl w1 H := fun k q hq => hP k q (by rw [List.getElem?_append_left (List.getElem?_eq_some_iff.mp hq).1]; exact hq)
theorem lo_suf {D : va_G} {cl : List vw_C} {w1 w2 : va_W} {H : Heap} (hP : va_P D cl (w1 ++ w2) H) : va_P D cl w2 H := fun k q hq => hP (w1.length + k) q (by rw [List.getElem?_append_right (by omega), Nat.add_sub_cancel_left]; exact hq)
theorem lo_preD {A : Nat → Prop} {w1 w2 : va_W} (hD : va_D A (w1 ++ w2)) : va_D A w1 := by
  have e : ∀ (k : Nat) (q : Nat × va_E), w1[k]? = some q → (w1 ++ w2)[k]? = some q := fun k q hq => by rw [List.getElem?_append_left (List.getElem?_eq_some_iff.mp hq).1]; exact hq
  exact ⟨fun i j p q h1 h2 h3 => hD.1 i j p q (e i p h1) (e j q h2) h3, fun k q h => hD.2 k q (e k q h)⟩
theorem lo_last {w : va_W} {x : Nat × va_E} : (w ++ [x])[w.length]? = some x := by simp
/-- the out's address is none of the world's -/
theorem lo_ne {A : Nat → Prop} {w : va_W} {x : Nat × va_E} (hD : va_D A (w ++ [x])) : ∀ (k : Nat) (q : Nat × va_E), w[k]? = some q → q.1 ≠ x.1 := fun k q hq he => by
  have hl := (List.getElem?_eq_some_iff.mp hq).1
  have := hD.1 k w.length q x (by rw [List.getElem?_append_left hl]; exact hq) lo_last he
  omega
theorem lo_out {A : Nat → Prop} {w : va_W} {x : Nat × va_E} {H : Heap} (hD : va_D A (w ++ [x])) (hl : x.1 < H.size) : ¬ va_A w H.size x.1 := fun h => by
  rcases h with ⟨k, e, h⟩ | h
  · exact lo_ne hD k (x.1, e) h rfl
  · omega
theorem lo_app {D : va_G} {cl : List vw_C} {w1 w2 : va_W} {H : Heap} (h1 : va_P D cl w1 H) (h2 : va_P D cl w2 H) : va_P D cl (w1 ++ w2) H := va_P.app h1 h2
theorem mo_blind (M : fm_M) (a1 a2 : Int32) (D : va_G) (ad : Nat → Nat) (ca : FieldType → ClassId) (sz : Nat) : FrameBlind (mo_Pc M a1 a2 D ad ca sz) := fun a U g mk q => by
  obtain ⟨q0, q1, qP, qK, qD, qN, qG, qT⟩ := q
  exact ⟨q0, q1, qP, va_K.moved (u := U) (U := U.calling g mk a) (Vm.Alike.refl U.vm) qK, qD, fun w hw => va_Nw.same (fm_nw_tab hw) (u := U) (U := U.calling g mk a) rfl (qN w hw), qG.go (U := U.calling g mk a) (fun _ _ _ => rfl) (Vm.Alike.refl U.vm) (vk_R.same (u := U) rfl qG.2.2.2.2.1) (fun _ h => h), qT.same rfl⟩
theorem lo_k1 : Cond.classLink RL 13 xI ∈ fm_gw ∧ Cond.classLink RL 15 xN ∈ fm_gw ∧ Cond.methodLink RL 7 yX9_motion ∈ fm_gw := by decide +kernel
set_option maxHeartbeats 4000000 in
theorem law_motion (l : Launch) (hl : l.stackTraces = false) (D : va_G) (ad : Nat → Nat) (ca : FieldType → ClassId) (sz qo : Nat) (f : Nat → Int64) {M : fm_M} {t : Nat} {a1 a2 w : Int32} {k : Nat} (hk : mo_k M t a1 a2 w k) :
    Met l yL_motion lo_wy lo_rm (lo_Pc M a1 a2 f qo D ad ca sz) (va_Qi (fun r (f2 : Nat → Int64) => r = nI k ∧ (k = 0 → f2 0 = w.toInt64)) (fun f2 t => va_P D vwCl (lo_ws ad ca M qo f2) t.heap ∧ va_K D vwCl (fm_tys ca) t) (va_A (lo_ws ad ca M qo f) sz)) 1 6 (va_A (lo_ws ad ca M qo f) sz) := by
  refine va_MetW (cc := cL_motion) (maxL := 5) (ret := some .int) (hh := lo_hh) (by decide) rfl ?_
  intro p e s m args below meth c s₁ B hml hv
  obtain ⟨rfl, hsz, hP, hK, hD0, hN, hG, hT, hC⟩ := hv
  subst hsz
  have hts := atoms_spec (ws := lo_wy) B.pre
  have hg : ∀ w ∈ fm_gw, w.before #[.ref (ad 0), .int a1, .int a2, .ref qo] s = true := fun w hw => hts w (List.mem_cons_of_mem _ hw)
  have hown : s.vm.findClass RL = some m.cls := findClass_of_methodNamed B.named
  have htab : c.exceptionTable.toList = tableOf lo_hh := vx_table (x := yL_motion) B (hts _ List.mem_cons_self)
  have hD := hD0.self (sz := s.heap.size)
  generalize hAe : va_A (lo_ws ad ca M qo f) s.heap.size = A at hD hG hT ⊢
  have hA : ∀ q : Nat, s.heap.size ≤ q → A q := fun q h => by rw [← hAe]; exact Or.inr h
  have hx := B.exec
  have hb := B.bytes
  have hr := B.returns
  have hlocks := B.notSynchronized
  have hlv := lv_entry ([.ref (ad 0), .int a1, .int a2, .ref qo]) (n := 5) (Nat.le_of_ble_eq_true rfl)
  rw [lg_entry_eq]
  generalize (lg_sl ([.ref (ad 0), .int a1, .int a2, .ref qo]) ++ List.replicate (5 - (lg_sl ([.ref (ad 0), .int a1, .int a2, .ref qo])).length) Slot.unset).toArray = ls at hlv ⊢
  have hlv : lv_has ls 5 [(0, .ref (ad 0)), (1, .int a1), (2, .int a2), (3, .ref qo)] := hlv
  have hS : va_S A s.heap s.heap [] := va_S.rf
  have hP0 := lo_pre hP
  have hPo := lo_suf hP
  have hql : qo < s.heap.size := (hPo 0 _ rfl).lt
  have hno : ¬ va_A (fm_ws ad ca M) s.heap.size qo := lo_out hD0 hql
  have hsub : ∀ q, va_A (fm_ws ad ca M) s.heap.size q → A q := fun q h => by
    rw [← hAe]
    rcases h with ⟨k, e, h⟩ | h
    · exact Or.inl ⟨k, e, by rw [List.getElem?_append_left (List.getElem?_eq_some_iff.mp h).1]; exact h⟩
    · exact Or.inr h
  refine lv_aload_n hx hb dL_motion_0 rfl (lv_at hlv 3 rfl) ?_
  refine lv_iconst (v := 0) hx hb dL_motion_1 (by decide) ?_
  refine lv_aload_n hx hb dL_motion_2 rfl (lv_at hlv 0 rfl) ?_
  refine lv_iload_n hx hb dL_motion_3 rfl (lv_at hlv 1 rfl) ?_
  refine lv_iload_n hx hb dL_motion_4 rfl (lv_at hlv 2 rfl) ?_
  have hcv := cvX9_motion
  obtain ⟨⟨hcode, hini, hpl, hmx, hdd⟩, hin, hsel⟩ := hcv
  have hp : PreV s s.heap RX9 (ad 0) (mo_Pc M a1 a2 D ad ca s.heap.size) [.int a1, .int a2] := ⟨mo_blind _ _ _ _ _ _ _, va_recv hK hP0 (ci := 9) (q0 := 0) rfl (fm_obj_get sh_0), fun U hU hW => ⟨rfl, by rw [hU], by rw [hU]; exact hP0, va_K.moved hW.alike hK, lo_preD hD0, fun w hw => fm_nw_warm hw hW (hN w hw), by rw [hU]; exact hG.go (fun _ _ _ => rfl) hW.alike (vk_R.warm hW hG.2.2.2.2.1) hsub, by rw [hU]; exact hT.go (fun _ _ _ => rfl) hW hsub⟩⟩
  refine vx_calli (vx_runV (As := [.int a1, .int a2]) (rest := [.int 0, .ref qo]) ⟨hx, hb, hml, hown, hg⟩ (x9_motion l hl D ad ca s.heap.size hk) ⟨callB_of 2 hg (fm_good hcode) rfl rfl rfl (hg _ hini) (hg _ lo_k1.2.2) hdd ⟨Nat.le_of_ble_eq_true rfl, Nat.le_of_ble_eq_true rfl⟩, hg _ hin, hg _ hsel⟩ hp rfl rfl hlv.1 rfl (lv_room (Nat.le_of_ble_eq_true rfl)) dL_motion_5 ⟨Nat.le_of_ble_eq_true rfl, Nat.le_of_ble_eq_true rfl⟩) hS (fun q _ h => hsub q h) hsub (fun q _ h => hsub q h) (fun E ce q9 u t H1 locs1 ht hvm _ hB hz hk1 hS1 hce hcv hcl => ?_) (fun r u t H1 locs1 ht hvm hw hB hz hk1 hS1 => ?_)
  · obtain ⟨hE, hP1, hK1⟩ := hB
    rw [ht] at hP1
    have hP2 : va_P D vwCl (lo_ws ad ca M qo f) H1 := lo_app hP1 (fun k q hq => (hPo k q hq).kept (by
      match k, hq with
      | 0, hq => cases hq; exact hk1 qo hql hno
      | k + 1, hq => simp at hq))
    have fin : ∀ (pc : Nat) (ls : Array Slot) (v : Int32), v = nI k → ¬ k = 0 → decode cL_motion pc = .ok (.ireturn, 1) → W p l e lo_rm s m #[.ref (ad 0), .int a1, .int a2, .ref qo] below meth c H1 locs1 (0 + 1) (0 + 6) (MQ below (va_Qi (fun r (f2 : Nat → Int64) => r = nI k ∧ (k = 0 → f2 0 = w.toInt64)) (fun f2 t => va_P D vwCl (lo_ws ad ca M qo f2) t.heap ∧ va_K D vwCl (fm_tys ca) t) A) #[.ref (ad 0), .int a1, .int a2, .ref qo] s 1 6 A) (F0 m pc ls [.int v]) := fun pc ls v hv hk0 hd =>
      W.iret hx hb hr (fun t ht hW => ⟨⟨v, f, rfl, ⟨hv, fun z => absurd z hk0⟩, by rw [ht]; exact hP2, va_K.moved hW.alike hK⟩, hS1.F ht⟩) hS1.2.2 hd hlocks
    rcases hE with ⟨rfl, rfl⟩ | ⟨rfl, rfl⟩
    · refine vx_catch (own := RL) (name := xI) (E := xI) (ce := ce) hown [] ⟨0, 10, 13, 13⟩ [⟨0, 10, 17, 15⟩] htab (fun z hz => by cases hz) (by decide) (by decide) (hg _ lo_k1.1) (va_Nw.use (mo_Bt _ (by decide)) (hT.2.2.2.2 _ (by decide))) hce hcv hcl ?_
      refine lv_astore (lv' := [(4, .ref q9), (0, .ref (ad 0)), (1, .int a1), (2, .int a2), (3, .ref qo)]) hx hb dL_motion_13 hlv (by decide) rfl (fun ls hlv => ?_)
      refine lv_iconst (v := 1) hx hb dL_motion_15 (by decide) ?_
      exact fin 16 ls 1 rfl (by decide) dL_motion_16
    · refine vx_catch (own := RL) (name := xN) (E := xN) (ce := ce) hown [⟨0, 10, 13, 13⟩] ⟨0, 10, 17, 15⟩ [] htab (fun z hz => by
        simp only [List.mem_cons, List.not_mem_nil, or_false] at hz
        subst hz
        exact Or.inr ⟨by decide, xI, hg _ lo_k1.1, hC⟩) (by decide) (by decide) (hg _ lo_k1.2.1) (va_Nw.use (mo_Bt _ (by decide)) (hT.2.2.2.2 _ (by decide))) hce hcv hcl ?_
      refine lv_astore (lv' := [(4, .ref q9), (0, .ref (ad 0)), (1, .int a1), (2, .int a2), (3, .ref qo)]) hx hb dL_motion_17 hlv (by decide) rfl (fun ls hlv => ?_)
      refine lv_iconst (v := 2) hx hb dL_motion_19 (by decide) ?_
      exact fin 20 ls 2 rfl (by decide) dL_motion_20
  · obtain ⟨hr9, hk0⟩ := hw
    obtain ⟨hP1, hK1⟩ := hB
    rw [ht] at hP1
    have hP2 : va_P D vwCl (lo_ws ad ca M qo f) H1 := lo_app hP1 (fun k q hq => (hPo k q hq).kept (by
      match k, hq with
      | 0, hq => cases hq; exact hk1 qo hql hno
      | k + 1, hq => simp at hq))
    refine lv_i2l hx hb dL_motion_8 rfl ?_
    refine va_last hx hb hK hP2 hD hS1 (fm_ws ad ca M).length 1 lo_last rfl (show ¬ ((0 : Int32) < 0 ∨ 1 ≤ (0 : Int32).toNatClampNeg) by decide) dL_motion_9 (fun H2 locs2 hP3 hD3 hS2 => ?_)
    refine lv_goto (tgt := 21) hx hb dL_motion_10 (by decide) ?_
    refine lv_iconst (v := 0) hx hb dL_motion_21 (by decide) ?_
    have hP4 : va_P D vwCl (lo_ws ad ca M qo (vp_updL f 0 r.toInt64)) H2 := by
      have h9 : (fm_ws ad ca M ++ [(qo, lo_c ca f)]).set (fm_ws ad ca M).length (qo, lo_c ca (vp_updL f 0 r.toInt64)) = lo_ws ad ca M qo (vp_updL f 0 r.toInt64) := by simp [lo_ws]
      rw [← h9]
      exact hP3
    exact W.iret hx hb hr (fun t ht hW => ⟨⟨0, vp_updL f 0 r.toInt64, rfl, ⟨by rw [hk0]; rfl, fun _ => by rw [hr9]; rfl⟩, by rw [ht]; exact hP4, va_K.moved hW.alike hK⟩, hS2.F ht⟩) hS2.2.2 dL_motion_22 hlocks
