/-! CONSTRUCTORS: a world that grows. w0 what was there, wt what the constructor has so far (its object first) -/
def cx_ok (own : String) (cc : ByteArray) (nL : Nat) (p : Program) (s : State) (m : MethodId) (args : Array Value) (c : Code) (D : va_G) (sa : Nat → Nat) (ca : FieldType → ClassId) (A : Nat → Prop) : Prop :=
  (p.tables.exec = Jvm.exec ∧ c.code = cc ∧ c.maxLocals = nL ∧ s.vm.findClass own = some m.cls ∧ (∀ w ∈ fm_gw, w.before args s = true)) ∧ va_K D vwCl (fm_tys ca) s ∧ (∀ q, s.heap.size ≤ q → A q) ∧ (∀ w ∈ fm_nw, va_Nw w s) ∧ fm_str sa A s s.heap ∧ hs_str sa A s s.heap
def cn_ok (y : fm_I) (p : Program) (s : State) (m : MethodId) (args : Array Value) (meth : Method) (c : Code) (D : va_G) (sa : Nat → Nat) (ca : FieldType → ClassId) (A : Nat → Prop) : Prop :=
  cx_ok y.1.cls y.2.1 y.2.2.1 p s m args c D sa ca A ∧ meth.sig.returnType = none ∧ meth.locks = false ∧ meth.name = "<init>"
def cn_w (s : State) (D : va_G) (A : Nat → Prop) (ws : va_W) (H : Heap) (locs : List Loc) : Prop := va_P D vwCl ws H ∧ va_D A ws ∧ va_S A s.heap H locs
def cn_rm (d kc nc : Nat) : Room := { frames := d, cells := kc, slots := nc, locals := 64 * d }
def cn_Pc (D : va_G) (sa : Nat → Nat) (ca : FieldType → ClassId) (ws : va_W) (a sz : Nat) : Array Value → State → Prop := va_Pc [.ref a] (fun U => U.heap.size = sz ∧ va_P D vwCl ws U.heap ∧ va_K D vwCl (fm_tys ca) U ∧ va_D (fun _ => True) ws ∧ (∀ w ∈ fm_nw, va_Nw w U) ∧ fm_str sa (va_A ws sz) U U.heap ∧ hs_str sa (va_A ws sz) U U.heap)
def cn_Qc (Q : va_W → Prop) (D : va_G) (ca : FieldType → ClassId) (A : Nat → Prop) : Array Value → State → Outcome → State → Prop := va_Qv Q (fun w t => va_P D vwCl w t.heap ∧ va_K D vwCl (fm_tys ca) t ∧ va_D A w) A
def cn_Met (l : Launch) (D : va_G) (sa : Nat → Nat) (ca : FieldType → ClassId) (y : fm_I) (d kc nc : Nat) (ws : va_W) (a : Nat) (Q : va_W → Prop) : Prop := ∀ sz : Nat, Met l y.1 (fm_wy y) (cn_rm d kc nc) (cn_Pc D sa ca ws a sz) (cn_Qc Q D ca (va_A ws sz)) kc nc (va_A ws sz)
theorem cn_blind (D : va_G) (sa : Nat → Nat) (ca : FieldType → ClassId) (ws : va_W) (a sz : Nat) : FrameBlind (cn_Pc D sa ca ws a sz) := fun x U g mk q => by
  obtain ⟨q0, q1, qP, qK, qD, qN, qF, qG⟩ := q
  exact ⟨q0, q1, qP, va_K.moved (u := U) (U := U.calling g mk x) (Vm.Alike.refl U.vm) qK, qD, fun w hw => va_Nw.same (fm_nw_tab hw) (u := U) (U := U.calling g mk x) rfl (qN w hw), qF.go (U := U.calling g mk x) (fun _ _ _ => rfl) (Vm.Alike.refl U.vm) (vk_R.same (u := U) rfl qF.2.2.2.2.1) (fun _ h => h), qG.go (U := U.calling g mk x) (fun _ _ _ => rfl) (Vm.Alike.refl U.vm) (vk_R.same (u := U) rfl qG.2.2.2.2.1) (fun _ h => h)⟩
theorem cn_meet {l : Launch} {D : va_G} {sa : Nat → Nat} {ca : FieldType → ClassId} {y : fm_I} {d kc nc : Nat} {ws : va_W} {a : Nat} {Q : va_W → Prop} (hy : plainName y.1.cls = true) (hr : y.2.2.2 = none) (hi : y.1.name = "<init>") (hn : 1 ≤ y.2.2.1)
    (h : ∀ (p : Program) (e : Env) (s : State) (m : MethodId) (args : Array Value) (below : List Frame) (meth : Method) (c : Code) (A : Nat → Prop) (ls : Array Slot), cn_ok y p s m args meth c D sa ca A → lv_has ls y.2.2.1 [(0, .ref a)] → cn_w s D A ws s.heap [] → W p l e (cn_rm d kc nc) s m args below meth c s.heap [] 0 0 (MQ below (cn_Qc Q D ca A) args s kc nc A) (F0 m 0 ls [])) : cn_Met l D sa ca y d kc nc ws a Q := by
  intro sz
  refine Met.ofW (cc := y.2.1) (maxL := y.2.2.1) (ret := y.2.2.2) hy rfl ?_
  intro p e s m args below meth c s₁ B hml hv
  obtain ⟨rfl, hsz, hP, hK, hD0, hN, hF, hG⟩ := hv
  subst hsz
  have hts := atoms_spec (ws := fm_wy y) B.pre
  rw [lg_entry_eq]
  exact h p e s m _ below meth c (va_A ws s.heap.size) _ ⟨⟨⟨B.exec, B.bytes, hml, findClass_of_methodNamed B.named, fun w hw => hts w (List.mem_cons_of_mem _ hw)⟩, hK, fun q h => Or.inr h, hN, hF, hG⟩, B.returns.trans hr, B.notSynchronized, (name_of_methodNamed B.named B.method).1.trans hi⟩ (lv_entry [.ref a] (n := y.2.2.1) hn) ⟨hP, hD0.self, va_S.rf⟩
theorem cn_joinP {A0 : Nat → Prop} {D : va_G} {cl : List vw_C} {wr wc w1 : va_W} {H H1 : Heap} (hP : va_P D cl (wr ++ wc) H) (hD : va_D A0 (wr ++ wc)) (hk : ∀ q : Nat, q < H.size → ¬ va_A wc H.size q → H1[q]? = H[q]?) (hF : ∀ q, va_A wc H.size q → A0 q) (hP1 : va_P D cl w1 H1) (hD1 : va_D (va_A wc H.size) w1) : va_P D cl (wr ++ w1) H1 ∧ va_D A0 (wr ++ w1) := by
  have hl : ∀ (k : Nat) (q : Nat × va_E), wr[k]? = some q → (wr ++ wc)[k]? = some q := fun k q hq => by rw [List.getElem?_append_left (List.getElem?_eq_some_iff.mp hq).1]; exact hq
  have apart : ∀ (k : Nat) (q : Nat × va_E), wr[k]? = some q → q.1 < H.size ∧ ¬ va_A wc H.size q.1 := fun k q hq => by
    have hlt := (hP k q (hl k q hq)).lt
    refine ⟨hlt, fun h => ?_⟩
    rcases h with ⟨j, e, h⟩ | h
    · have h2 : (wr ++ wc)[wr.length + j]? = some (q.1, e) := by rw [List.getElem?_append_right (by omega), Nat.add_sub_cancel_left]; exact h
      have := hD.1 k (wr.length + j) q (q.1, e) (hl k q hq) h2 rfl
      have := (List.getElem?_eq_some_iff.mp hq).1
      omega
    · omega
  refine ⟨va_P.app (fun k q hq => (hP k q (hl k q hq)).kept (hk q.1 (apart k q hq).1 (apart k q hq).2)) hP1, va_D.app (lo_preD hD) (hD1.weaken (fun k q _ h => hF q.1 h)) (fun i j x y hx hy hxy => ?_)⟩
  exact (apart i x hx).2 (by rw [hxy]; exact hD1.2 j y hy)
/-- what is known of a constructor, for its calls -/
def fm_ci (y : fm_I) : Prop := fm_cy y 0 ∧ Cond.instanceMethod y.1 ∈ fm_gw ∧ y.1.name = "<init>" ∧ y.2.2.2 = none
section CN
variable {p : Program} {l : Launch} {e : Env} {R : Room} {s : State} {m : MethodId} {args : Array Value} {below : List Frame} {meth : Method} {c : Code} {H : Heap} {locs : List Loc} {k n : Nat} {Qs : State → Prop} {pc : Nat} {ls : Array Slot} {rest : List Value} {own : String} {cc : ByteArray} {nL : Nat} {D : va_G} {sa : Nat → Nat} {ca : FieldType → ClassId} {A : Nat → Prop} {w0 wt : va_W}
theorem cn_call {kc nc d idx a : Nat} {wc : va_W} {Q2 : va_W → Prop} (C : cx_ok own cc nL p s m args c D sa ca A) (hw : cn_w s D A (w0 ++ (wt ++ wc)) H locs) (y2 : fm_I) (hM : cn_Met l D sa ca y2 d kc nc wc a Q2) (hy : fm_ci y2) (hln : fm_ml own idx y2) (hrest : (rest.map fun v => v.category).sum ≤ 8) (hR : d + 1 ≤ R.frames ∧ 8 + (y2.2.2.1 + 11) + 64 * d ≤ R.locals) (hcs : k + kc ≤ R.cells ∧ n + nc ≤ R.slots) (hls : ls.size = nL) (hd : decode cc pc = .ok (.invokespecial idx, 3))
    (kk : ∀ (w1 : va_W) (H1 : Heap) (locs1 : List Loc), Q2 w1 → cn_w s D A (w0 ++ (wt ++ w1)) H1 locs1 → W p l e R s m args below meth c H1 locs1 (k + kc) (n + nc) Qs (F0 m (pc + 3) ls rest)) : W p l e R s m args below meth c H locs k n Qs (F0 m pc ls (.ref a :: rest)) := by
  obtain ⟨⟨hx, hb, hml, hown, hg⟩, hK, hA, hN, hF, hG⟩ := C
  obtain ⟨hP, hD, hS⟩ := hw
  rw [← List.append_assoc] at hP hD
  obtain ⟨⟨hcode, hini, hpl, hmx, hdd⟩, hin, hnm, hrt⟩ := hy
  have hsub : ∀ q, va_A wc H.size q → A q := fun q h => by
    rcases h with ⟨j, x, h⟩ | h
    · exact hD.2 ((w0 ++ wt).length + j) (q, x) (by rw [List.getElem?_append_right (by omega), Nat.add_sub_cancel_left]; exact h)
    · exact hA q (Nat.le_trans hS.1 h)
  have hp : PreS s H (cn_Pc D sa ca wc a H.size) [.ref a] := ⟨cn_blind _ _ _ _ _ _, fun U hU hW => ⟨rfl, by rw [hU], by rw [hU]; exact lo_suf hP, va_K.moved hW.alike hK, ?_, fun w hw => fm_nw_warm hw hW (hN w hw), by rw [hU]; exact hF.go hS.2.1 hW.alike (vk_R.warm hW hF.2.2.2.2.1) hsub, by rw [hU]; exact hG.go hS.2.1 hW.alike (vk_R.warm hW hG.2.2.2.2.1) hsub⟩⟩
  · have hcw : y2.2.2.2 = none → Cond.code y2.1 y2.2.1 y2.2.2.1 none ∈ fm_gw := fun h => h ▸ hcode
    have hgood : GoodIn fm_gw (fm_wy y2) := fm_good hcode
    have hwy : fm_wy y2 = Cond.code y2.1 y2.2.1 y2.2.2.1 none :: fm_gw := by unfold fm_wy; rw [hrt]
    have fin : va_Run p l e R s m args below meth c H locs k n kc nc (F0 m pc ls (.ref a :: rest)) rest (cn_Qc Q2 D ca (va_A wc H.size) [.ref a].toArray) (va_A wc H.size) := by
      rcases hln with hln | ⟨host, hln⟩
      · exact va_runI (As := []) (rest := rest) ⟨hx, hb, hml, hown, hg⟩ (hM H.size) ⟨callB_of 0 hg hgood hwy rfl rfl (hg _ hini) (hg _ hln) hdd hR, hnm, hg _ hin⟩ hp rfl rfl hls rfl (lv_room hrest) hd hcs
      · exact va_runIN (As := []) (rest := rest) ⟨hx, hb, hml, hown, hg⟩ (hM H.size) ⟨va_cnB 0 hg hgood hwy rfl rfl (hN _ hln) (hg _ hini) hdd hR, hnm, hg _ hin⟩ hp rfl rfl hls rfl (lv_room hrest) hd hcs
    refine va_callv fin hS (fun q _ h => hsub q h) hsub (fun w1 t H1 locs1 ht hvm hq hB hz hk1 hS1 => ?_)
    obtain ⟨hP1, hK1, hD1⟩ := hB
    rw [ht] at hP1
    obtain ⟨hP2, hD2⟩ := cn_joinP hP hD hk1 hsub hP1 hD1
    rw [List.append_assoc] at hP2 hD2
    exact kk w1 H1 locs1 hq ⟨hP2, hD2, hS1⟩
  · have h9 : va_D A ((w0 ++ wt) ++ wc) := hD
    refine ⟨fun i j x y h1 h2 h3 => ?_, fun _ _ _ => trivial⟩
    have e1 : ((w0 ++ wt) ++ wc)[(w0 ++ wt).length + i]? = some x := by rw [List.getElem?_append_right (by omega), Nat.add_sub_cancel_left]; exact h1
    have e2 : ((w0 ++ wt) ++ wc)[(w0 ++ wt).length + j]? = some y := by rw [List.getElem?_append_right (by omega), Nat.add_sub_cancel_left]; exact h2
    have := h9.1 _ _ x y e1 e2 h3
    omega
theorem cn_new {ci idx N : Nat} {Cn : String} {T : u_T} (C : cx_ok own cc nL p s m args c D sa ca A) (hw : cn_w s D A (w0 ++ wt) H locs) (hin : ∀ w ∈ u_ws Cn T N, w ∈ fm_gw) (ty0 : Nat → FieldType) (hty : ∀ k, k < N → parseFieldDescriptor (T k).2.2.1 = some (ty0 k)) (hc : vwCl[ci]? = some (Cn, T, N)) (fs : List Value) (hfs : ∀ j, j < N → defaultValue (ty0 j) = vp_V fs j) (h1 : Cond.classLink own idx Cn ∈ fm_gw) (h2 : Cond.instantiable Cn N ∈ fm_gw) (h3 : Cond.initialized Cn ∈ fm_gw) (hcs : k + 1 ≤ R.cells ∧ n + N ≤ R.slots) (hd : decode cc pc = .ok (.new idx, 3))
    (kk : ∀ (q : Nat) (H1 : Heap), cn_w s D A (w0 ++ (wt ++ [(q, .inr (ci, fs))])) H1 locs → W p l e R s m args below meth c H1 locs (k + 1) (n + N) Qs (F0 m (pc + 3) ls (.ref q :: rest))) : W p l e R s m args below meth c H locs k n Qs (F0 m pc ls rest) := by
  obtain ⟨⟨hx, hb, hml, hown, hg⟩, hK, hA, hN, hF, hG⟩ := C
  refine va_new (ci := ci) (fs := fs) (C := Cn) (T := T) (N := N) hx hb hg hin ty0 hty hown (hg _ h1) (hg _ h2) (hg _ h3) hK hw.1 hw.2.1 hw.2.2 hA hc hfs hcs.1 hcs.2 hd (fun q H1 hP hD hS => ?_)
  rw [List.append_assoc] at hP hD
  exact kk q H1 ⟨hP, hD, hS⟩
theorem cn_newa {atype : ArrayType} {ty : FieldType} {N j : Nat} {a0 : vp_A} {x : Int32} (C : cx_ok own cc nL p s m args c D sa ca A) (hw : cn_w s D A (w0 ++ wt) H locs) (hty : newarray.typeOf atype = ty) (harr : Cond.arrayClass ty ∈ fm_gw) (hj : (fm_tys ca)[j]? = some (ca ty, ty)) (hra : ∀ z : ClassId, va_RA s z ty → va_RA s (ca ty) ty → z = ca ty) (ha : ∀ cA : ClassId, vp_cell cA a0 = arrV cA N (fun _ => defaultValue ty)) (hn : ¬ x < 0) (hN : x.toNatClampNeg = N) (hby : N * componentBytes ty ≤ 536870912) (hcs : k + 1 ≤ R.cells ∧ n + N ≤ R.slots) (hd : decode cc pc = .ok (.newarray atype, 2))
    (kk : ∀ (q : Nat) (H1 : Heap), cn_w s D A (w0 ++ (wt ++ [(q, .inl (ca ty, a0))])) H1 locs → W p l e R s m args below meth c H1 locs (k + 1) (n + N) Qs (F0 m (pc + 2) ls (.ref q :: rest))) : W p l e R s m args below meth c H locs k n Qs (F0 m pc ls (.int x :: rest)) := by
  obtain ⟨⟨hx, hb, hml, hown, hg⟩, hK, hA, hN2, hF, hG⟩ := C
  refine va_newa hx hb (by rw [hty]; exact hg _ harr) hty hK hw.1 hw.2.1 hw.2.2 hA ha hn hN hby hcs.1 hcs.2 hd (fun q cA H1 hK2 hP hD hS => ?_)
  have h1 := (hK2.2 4 (cA, ty) rfl).2
  have h2 := (hK.2 j (ca ty, ty) hj).2
  rw [hra cA h1 h2, List.append_assoc] at hP hD
  exact kk q H1 ⟨hP, hD, hS⟩
theorem cn_set {w : va_W} {x y : Nat × va_E} : (w0 ++ x :: w).set w0.length y = w0 ++ y :: w := by simp
theorem cn_at {w : va_W} {x : Nat × va_E} : (w0 ++ x :: w)[w0.length]? = some x := by simp
theorem cn_putF {y : fm_I} {ci a f idx N : Nat} {T : u_T} {fs fs2 : List Value} {w : va_W} {v : Value} {ty : FieldType} (C : cn_ok y p s m args meth c D sa ca A) (hw : cn_w s D A (w0 ++ (a, .inr (ci, fs)) :: w) H locs) (hin : ∀ w ∈ u_ws y.1.cls T N, w ∈ fm_gw) (ty0 : Nat → FieldType) (hty : ∀ k, k < N → parseFieldDescriptor (T k).2.2.1 = some (ty0 k)) (hnm : ∀ a, a < N → ∀ b, b < N → a ≠ b → (T a).2.1 ≠ (T b).2.1) (hc : vwCl[ci]? = some (y.1.cls, T, N)) (hf : f < N) (hlink : Cond.fieldLink y.1.cls idx y.1.cls (T f).2.1 (T f).2.2.1 ∈ fm_gw) (hfin : (T f).2.2.2 = true) (hdecl : (T f).1 = y.1.cls) (ht : ty0 f = ty) (hn : narrow ty v = v) (hfit : fits ty v = true) (hl : f < fs.length) (hfs : fs.set f v = fs2) (hd : decode y.2.1 pc = .ok (.putfield idx, 3))
    (kk : ∀ (H1 : Heap) (locs1 : List Loc), cn_w s D A (w0 ++ (a, .inr (ci, fs2)) :: w) H1 locs1 → W p l e R s m args below meth c H1 locs1 k n Qs (F0 m (pc + 3) ls rest)) : W p l e R s m args below meth c H locs k n Qs (F0 m pc ls (v :: .ref a :: rest)) := by
  obtain ⟨⟨⟨hx, hb, hml, hown, hg⟩, hK, hA, hN, hF, hG⟩, -, -, hi⟩ := C
  refine va_putF hx hb hg hin ty0 hty hnm hown hK hw.1 hw.2.1 hw.2.2 w0.length cn_at hc f hf (hg _ hlink) (fun _ h => by rw [hdecl] at h; exact h) hfin hi hdecl (by rw [hty f hf, ht]) hn hfit hl hd (fun H1 locs1 hP hD hS => ?_)
  rw [cn_set, hfs] at hP hD
  exact kk H1 locs1 ⟨hP, hD, hS⟩
theorem cn_put {y : fm_I} {ci a f idx N : Nat} {T : u_T} {fs fs2 : List Value} {w : va_W} {v : Value} {ty : FieldType} (C : cn_ok y p s m args meth c D sa ca A) (hw : cn_w s D A (w0 ++ (a, .inr (ci, fs)) :: w) H locs) (hin : ∀ w ∈ u_ws y.1.cls T N, w ∈ fm_gw) (ty0 : Nat → FieldType) (hty : ∀ k, k < N → parseFieldDescriptor (T k).2.2.1 = some (ty0 k)) (hnm : ∀ a, a < N → ∀ b, b < N → a ≠ b → (T a).2.1 ≠ (T b).2.1) (hc : vwCl[ci]? = some (y.1.cls, T, N)) (hf : f < N) (hlink : Cond.fieldLink y.1.cls idx y.1.cls (T f).2.1 (T f).2.2.1 ∈ fm_gw) (hfin : (T f).2.2.2 = false) (hdecl : (T f).1 = y.1.cls) (ht : ty0 f = ty) (hn : narrow ty v = v) (hfit : fits ty v = true) (hl : f < fs.length) (hfs : fs.set f v = fs2) (hd : decode y.2.1 pc = .ok (.putfield idx, 3))
    (kk : ∀ (H1 : Heap) (locs1 : List Loc), cn_w s D A (w0 ++ (a, .inr (ci, fs2)) :: w) H1 locs1 → W p l e R s m args below meth c H1 locs1 k n Qs (F0 m (pc + 3) ls rest)) : W p l e R s m args below meth c H locs k n Qs (F0 m pc ls (v :: .ref a :: rest)) := by
  obtain ⟨⟨⟨hx, hb, hml, hown, hg⟩, hK, hA, hN, hF, hG⟩, -, -, hi⟩ := C
  refine va_put hx hb hg hin ty0 hty hnm hown hK hw.1 hw.2.1 hw.2.2 w0.length cn_at hc f hf (hg _ hlink) (fun _ h => by rw [hdecl] at h; exact h) hfin (by rw [hty f hf, ht]) hn hfit hl hd (fun H1 locs1 hP hD hS => ?_)
  rw [cn_set, hfs] at hP hD
  exact kk H1 locs1 ⟨hP, hD, hS⟩
theorem cn_ret {y : fm_I} {Q : va_W → Prop} {ws : va_W} {kc nc : Nat} (C : cn_ok y p s m args meth c D sa ca A) (hw : cn_w s D A ws H locs) (hq : Q ws) (hk : k ≤ kc) (hn : n ≤ nc) (hd : decode y.2.1 pc = .ok (.return_, 1)) : W p l e R s m args below meth c H locs k n (MQ below (cn_Qc Q D ca A) args s kc nc A) (F0 m pc ls []) := by
  refine W.widen (k := kc) (n := nc) hk hn ?_
  exact W.vret C.1.1.1 C.1.1.2.1 C.2.1 (fun t ht hW => ⟨⟨ws, rfl, hq, by rw [ht]; exact hw.1, va_K.moved hW.alike C.1.2.1, hw.2.1⟩, hw.2.2.F ht⟩) hw.2.2.2.2 hd C.2.2.1
theorem cn_obj {y : fm_I} {a idx : Nat} (C : cn_ok y p s m args meth c D sa ca A) (hl : lv_has ls y.2.2.1 ((0, .ref a) :: [])) (h1 : Cond.methodLink y.1.cls idx objectInit ∈ fm_gw) (hR : 1 ≤ R.frames ∧ 30 ≤ R.locals) (d0 : decode y.2.1 0 = .ok (.aload_n 0, 1)) (d1 : decode y.2.1 1 = .ok (.invokespecial idx, 3)) (kk : W p l e R s m args below meth c H locs k n Qs (F0 m 4 ls [])) : W p l e R s m args below meth c H locs k n Qs (F0 m 0 ls []) := by
  obtain ⟨⟨⟨hx, hb, hml, hown, hg⟩, hK, hA, hN, hF, hG⟩, -, -, hi⟩ := C
  refine lv_aload_n hx hb d0 rfl (lv_at hl 0 rfl) ?_
  have hob : Cond.instanceMethod objectInit ∈ fm_gw ∧ Cond.code objectInit ⟨#[0xb1]⟩ 1 none ∈ fm_gw := by decide +kernel
  refine W.objInit hx hb hown (hg _ h1) (hg _ hob.1) (hg _ hob.2) rfl (by rw [hml]; exact hl.1) rfl d1 (by omega) (by show _ ≤ _; first | (simp; omega) | omega) ?_
  exact W.eq (g2 := F0 m 4 ls []) rfl kk
end CN
