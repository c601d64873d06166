/-! fields -/
def fm_lk (own : String) (idx ci k : Nat) : Prop := ∃ (C : String) (T : u_T) (N : Nat), vwCl[ci]? = some (C, T, N) ∧ k < N ∧ (∀ w ∈ u_ws C T N, w ∈ fm_gw) ∧ (Cond.fieldLink own idx (T k).1 (T k).2.1 (T k).2.2.1 ∈ fm_gw ∨ ∃ host, Cond.fieldLinkNest own idx (T k).1 (T k).2.1 (T k).2.2.1 host ∈ fm_nw)
def fm_lp (own : String) (idx ci k : Nat) (ty : FieldType) : Prop := ∃ (C : String) (T : u_T) (N : Nat) (ty0 : Nat → FieldType), vwCl[ci]? = some (C, T, N) ∧ k < N ∧ (∀ w ∈ u_ws C T N, w ∈ fm_gw) ∧ (Cond.fieldLink own idx (T k).1 (T k).2.1 (T k).2.2.1 ∈ fm_gw ∨ ∃ host, Cond.fieldLinkNest own idx (T k).1 (T k).2.1 (T k).2.2.1 host ∈ fm_nw) ∧ (∀ k, k < N → parseFieldDescriptor (T k).2.2.1 = some (ty0 k)) ∧ (∀ a, a < N → ∀ b, b < N → a ≠ b → (T a).2.1 ≠ (T b).2.1) ∧ (T k).2.2.2 = false ∧ ty0 k = ty
theorem fm_lp.lk {own : String} {idx ci k : Nat} {ty : FieldType} (h : fm_lp own idx ci k ty) : fm_lk own idx ci k := by
  obtain ⟨C, T, N, ty0, h1, h2, h3, h4, -⟩ := h
  exact ⟨C, T, N, h1, h2, h3, h4⟩
theorem fm_obj_get {ad : Nat → Nat} {ca : FieldType → ClassId} {M : fm_M} {p ci : Nat} {ks : List (Option (Option Nat))} (h : SHP[p]? = some (.inr (.inr (ci, ks)))) : (fm_ws ad ca M)[p]? = some (ad p, .inr (ci, ks.mapIdx fun k kd => fm_re ad (fm_v M p k kd))) := fm_ws_get h
theorem fm_get {d : Nat} {y : fm_I} {Q : Option Value → fm_M → Prop} {pc : Nat} {L : List (Option Value)} {r : List Value} {M : fm_M} {p ci k idx : Nat} {ks : List (Option (Option Nat))} {kd : Option (Option Nat)} (hk : fm_lk y.1.cls idx ci k) (hs : SHP[p]? = some (.inr (.inr (ci, ks)))) (hv : ks[k]? = some kd) (hd : decode y.2.1 pc = .ok (.getfield idx, 3)) (kk : fm_mw d y Q (pc + 3) L (fm_v M p k kd :: r) M) : fm_mw d y Q pc L (.ref p :: r) M := by
  intro pr l e s m args below meth c D ad ca A H locs ls C hl hP hD hS
  obtain ⟨Cn, T, N, h1, h2, h3, h4⟩ := hk
  have hg := C.2.2.2.2.2.2.1
  have hq : (ks.mapIdx fun k kd => fm_re ad (fm_v M p k kd))[k]? = some (fm_re ad (fm_v M p k kd)) := by rw [List.getElem?_mapIdx, hv]; rfl
  rcases h4 with h4 | ⟨host, h4⟩
  · exact va_get C.1 C.2.1 hg h3 C.2.2.2.2.2.1 C.2.2.2.2.2.2.2.1 hP p (fm_obj_get hs) h1 k h2 (hg _ h4) (fun _ h => h) hq hd (kk pr l e s m args below meth c D ad ca A H locs ls C hl hP hD hS)
  · exact va_getN C.1 C.2.1 hg h3 C.2.2.2.2.2.1 C.2.2.2.2.2.2.2.1 hP p (fm_obj_get hs) h1 k h2 (va_Nw.use rfl (C.2.2.2.2.2.2.2.2.2.1 _ h4)) (fun _ h => h) hq hd (kk pr l e s m args below meth c D ad ca A H locs ls C hl hP hD hS)
theorem fm_geti {d : Nat} {y : fm_I} {Q : Option Value → fm_M → Prop} {pc : Nat} {L : List (Option Value)} {r : List Value} {M : fm_M} {p ci k idx : Nat} {ks : List (Option (Option Nat))} (hk : fm_lk y.1.cls idx ci k) (hs : SHP[p]? = some (.inr (.inr (ci, ks)))) (hv : ks[k]? = some (none)) (hd : decode y.2.1 pc = .ok (.getfield idx, 3)) (kk : fm_mw d y Q (pc + 3) L (.int (M.1 p k) :: r) M) : fm_mw d y Q pc L (.ref p :: r) M := fm_get hk hs hv hd kk
/-- -1 is no place: it stands for null -/
theorem nI_nn {q : Nat} (hq : q < 2 ^ 31) : ¬ nI q = -1 := fun e => by
  have h1 := nI_clamp hq
  rw [e, show (-1 : Int32).toNatClampNeg = 0 from by decide] at h1
  subst h1
  exact absurd e (by decide)
theorem fm_getm {d : Nat} {y : fm_I} {Q : Option Value → fm_M → Prop} {pc : Nat} {L : List (Option Value)} {r : List Value} {M : fm_M} {p ci k idx : Nat} {ks : List (Option (Option Nat))} (hnn : ¬ M.1 p k = -1) (hk : fm_lk y.1.cls idx ci k) (hs : SHP[p]? = some (.inr (.inr (ci, ks)))) (hv : ks[k]? = some (some none)) (hd : decode y.2.1 pc = .ok (.getfield idx, 3)) (kk : fm_mw d y Q (pc + 3) L (.ref (M.1 p k).toNatClampNeg :: r) M) : fm_mw d y Q pc L (.ref p :: r) M := fm_get hk hs hv hd (by rw [show fm_v M p k (some none) = .ref (M.1 p k).toNatClampNeg from if_neg hnn]; exact kk)
theorem fm_getr {d : Nat} {y : fm_I} {Q : Option Value → fm_M → Prop} {pc : Nat} {L : List (Option Value)} {r : List Value} {M : fm_M} {p ci k idx q : Nat} {ks : List (Option (Option Nat))} (hk : fm_lk y.1.cls idx ci k) (hs : SHP[p]? = some (.inr (.inr (ci, ks)))) (hv : ks[k]? = some (some (some q))) (hd : decode y.2.1 pc = .ok (.getfield idx, 3)) (kk : fm_mw d y Q (pc + 3) L (.ref q :: r) M) : fm_mw d y Q pc L (.ref p :: r) M := fm_get hk hs hv hd kk
theorem fm_put {d : Nat} {y : fm_I} {Q : Option Value → fm_M → Prop} {pc : Nat} {L : List (Option Value)} {r : List Value} {M : fm_M} {p ci k idx : Nat} {ks : List (Option (Option Nat))} {kd : Option (Option Nat)} {ty : FieldType} {v : Value} {n : Int32} (hk : fm_lp y.1.cls idx ci k ty) (hs : SHP[p]? = some (.inr (.inr (ci, ks)))) (hv : ks[k]? = some kd) (hw : fm_v (fm_up M p k n) p k kd = v) (hn : ∀ ad, narrow ty (fm_re ad v) = fm_re ad v) (hf : ∀ ad, fits ty (fm_re ad v) = true) (hd : decode y.2.1 pc = .ok (.putfield idx, 3)) (kk : fm_mw d y Q (pc + 3) L r (fm_up M p k n)) : fm_mw d y Q pc L (v :: .ref p :: r) M := by
  intro pr l e s m args below meth c D ad ca A H locs ls C hl hP hD hS
  obtain ⟨Cn, T, N, ty0, h1, h2, h3, h4, h5, h6, h7, h8⟩ := hk
  have hg := C.2.2.2.2.2.2.1
  have hlen : k < (ks.mapIdx fun k kd => fm_re ad (fm_v M p k kd)).length := by rw [List.length_mapIdx]; exact (List.getElem?_eq_some_iff.mp hv).1
  have hd2 : parseFieldDescriptor (T k).2.2.1 = some ty := by rw [h5 k h2, h8]
  have hset := fm_ws_put (ad := ad) (ca := ca) (M := M) (v := n) (w := fm_re ad v) hs hv (by rw [hw])
  rcases h4 with h4 | ⟨host, h4⟩
  · exact va_put C.1 C.2.1 hg h3 ty0 h5 h6 C.2.2.2.2.2.1 C.2.2.2.2.2.2.2.1 hP hD hS p (fm_obj_get hs) h1 k h2 (hg _ h4) (fun _ h => h) h7 hd2 (hn ad) (hf ad) hlen hd (fun H1 locs1 hP hD hS => kk pr l e s m args below meth c D ad ca A H1 locs1 ls C hl (hset ▸ hP) (hset ▸ hD) hS)
  · exact va_putN C.1 C.2.1 hg h3 ty0 h5 h6 C.2.2.2.2.2.1 C.2.2.2.2.2.2.2.1 hP hD hS p (fm_obj_get hs) h1 k h2 (va_Nw.use rfl (C.2.2.2.2.2.2.2.2.2.1 _ h4)) (fun _ h => h) h7 hd2 (hn ad) (hf ad) hlen hd (fun H1 locs1 hP hD hS => kk pr l e s m args below meth c D ad ca A H1 locs1 ls C hl (hset ▸ hP) (hset ▸ hD) hS)
theorem fm_up_eq {M : fm_M} {p k : Nat} {v : Int32} : (fm_up M p k v).1 p k = v := by simp only [fm_up, fm_row_eq, upd, if_true]
theorem fm_puti {d : Nat} {y : fm_I} {Q : Option Value → fm_M → Prop} {pc : Nat} {L : List (Option Value)} {r : List Value} {M : fm_M} {p ci k idx : Nat} {ks : List (Option (Option Nat))} {n : Int32} (hk : fm_lp y.1.cls idx ci k .int) (hs : SHP[p]? = some (.inr (.inr (ci, ks)))) (hv : ks[k]? = some none) (hd : decode y.2.1 pc = .ok (.putfield idx, 3)) (kk : fm_mw d y Q (pc + 3) L r (fm_up M p k n)) : fm_mw d y Q pc L (.int n :: .ref p :: r) M := fm_put hk hs hv (by simp only [fm_v, fm_up_eq]) (fun _ => rfl) (fun _ => rfl) hd kk
theorem fm_putz {d : Nat} {y : fm_I} {Q : Option Value → fm_M → Prop} {pc : Nat} {L : List (Option Value)} {r : List Value} {M : fm_M} {p ci k idx : Nat} {ks : List (Option (Option Nat))} {n : Int32} (hz : n = 0 ∨ n = 1) (hk : fm_lp y.1.cls idx ci k .boolean) (hs : SHP[p]? = some (.inr (.inr (ci, ks)))) (hv : ks[k]? = some none) (hd : decode y.2.1 pc = .ok (.putfield idx, 3)) (kk : fm_mw d y Q (pc + 3) L r (fm_up M p k n)) : fm_mw d y Q pc L (.int n :: .ref p :: r) M := fm_put hk hs hv (by simp only [fm_v, fm_up_eq]) (fun _ => by rcases hz with rfl | rfl <;> rfl) (fun _ => by rcases hz with rfl | rfl <;> rfl) hd kk
theorem fm_putm {d : Nat} {y : fm_I} {Q : Option Value → fm_M → Prop} {pc : Nat} {L : List (Option Value)} {r : List Value} {M : fm_M} {p ci k idx q : Nat} {ks : List (Option (Option Nat))} {cn : String} (hq : q < 2 ^ 31) (hk : fm_lp y.1.cls idx ci k (.object cn)) (hs : SHP[p]? = some (.inr (.inr (ci, ks)))) (hv : ks[k]? = some (some none)) (hd : decode y.2.1 pc = .ok (.putfield idx, 3)) (kk : fm_mw d y Q (pc + 3) L r (fm_up M p k (nI q))) : fm_mw d y Q pc L (.ref q :: .ref p :: r) M := fm_put (n := nI q) hk hs hv (by simp only [fm_v, fm_up_eq, nI_clamp hq, if_neg (nI_nn hq)]) (fun _ => rfl) (fun _ => rfl) hd kk
/-! arrays -/
theorem fm_iald {d : Nat} {y : fm_I} {Q : Option Value → fm_M → Prop} {pc : Nat} {L : List (Option Value)} {r : List Value} {M : fm_M} {p n : Nat} {i : Int32} (hs : SHP[p]? = some (.inl (.int, n))) (hin : vp_in i n) (hd : decode y.2.1 pc = .ok (.iaload, 1)) (k : fm_mw d y Q (pc + 1) L (.int (M.1 p i.toNatClampNeg) :: r) M) : fm_mw d y Q pc L (.int i :: .ref p :: r) M :=
  fun pr l e s m args below meth c D ad ca A H locs ls C hl hP hD hS => va_iald C.1 C.2.1 C.2.2.2.2.2.2.2.1 hP p 0 (fm_ws_get hs) rfl hin hd (k pr l e s m args below meth c D ad ca A H locs ls C hl hP hD hS)
theorem fm_bald {d : Nat} {y : fm_I} {Q : Option Value → fm_M → Prop} {pc : Nat} {L : List (Option Value)} {r : List Value} {M : fm_M} {p n : Nat} {i : Int32} (hs : SHP[p]? = some (.inl (.byte, n))) (hin : vp_in i n) (hd : decode y.2.1 pc = .ok (.baload, 1)) (k : fm_mw d y Q (pc + 1) L (.int (M.1 p i.toNatClampNeg) :: r) M) : fm_mw d y Q pc L (.int i :: .ref p :: r) M :=
  fun pr l e s m args below meth c D ad ca A H locs ls C hl hP hD hS => va_bald C.1 C.2.1 C.2.2.2.2.2.2.2.1 hP p 2 (fm_ws_get hs) rfl hin hd (k pr l e s m args below meth c D ad ca A H locs ls C hl hP hD hS)
theorem fm_zald {d : Nat} {y : fm_I} {Q : Option Value → fm_M → Prop} {pc : Nat} {L : List (Option Value)} {r : List Value} {M : fm_M} {p n : Nat} {i : Int32} (hs : SHP[p]? = some (.inl (.boolean, n))) (hin : vp_in i n) (hd : decode y.2.1 pc = .ok (.baload, 1)) (k : fm_mw d y Q (pc + 1) L (.int (M.1 p i.toNatClampNeg) :: r) M) : fm_mw d y Q pc L (.int i :: .ref p :: r) M :=
  fun pr l e s m args below meth c D ad ca A H locs ls C hl hP hD hS => va_zald C.1 C.2.1 C.2.2.2.2.2.2.2.1 hP p 3 (fm_ws_get hs) rfl hin hd (k pr l e s m args below meth c D ad ca A H locs ls C hl hP hD hS)
theorem fm_lald {d : Nat} {y : fm_I} {Q : Option Value → fm_M → Prop} {pc : Nat} {L : List (Option Value)} {r : List Value} {M : fm_M} {p n : Nat} {i : Int32} (hs : SHP[p]? = some (.inr (.inl n))) (hin : vp_in i n) (hd : decode y.2.1 pc = .ok (.laload, 1)) (k : fm_mw d y Q (pc + 1) L (.long (M.2 p i.toNatClampNeg) :: r) M) : fm_mw d y Q pc L (.int i :: .ref p :: r) M :=
  fun pr l e s m args below meth c D ad ca A H locs ls C hl hP hD hS => va_lald C.1 C.2.1 C.2.2.2.2.2.2.2.1 hP p 1 (fm_ws_get hs) rfl hin hd (k pr l e s m args below meth c D ad ca A H locs ls C hl hP hD hS)
theorem fm_iast {d : Nat} {y : fm_I} {Q : Option Value → fm_M → Prop} {pc : Nat} {L : List (Option Value)} {r : List Value} {M : fm_M} {p n : Nat} {i x : Int32} (hs : SHP[p]? = some (.inl (.int, n))) (hin : vp_in i n) (hd : decode y.2.1 pc = .ok (.iastore, 1)) (k : fm_mw d y Q (pc + 1) L r (fm_up M p i.toNatClampNeg x)) : fm_mw d y Q pc L (.int x :: .int i :: .ref p :: r) M := by
  intro pr l e s m args below meth c D ad ca A H locs ls C hl hP hD hS
  have hset := fm_ws_set (ad := ad) (ca := ca) (M := M) (M' := fm_up M p i.toNatClampNeg x) hs rfl fm_row_ne
  simp only [fm_cell, fm_up, fm_row_eq] at hset
  exact va_iast C.1 C.2.1 C.2.2.2.2.2.2.2.1 hP hD hS p 0 (fm_ws_get hs) rfl hin hd (fun H1 locs1 hP hD hS => k pr l e s m args below meth c D ad ca A H1 locs1 ls C hl (hset ▸ hP) (hset ▸ hD) hS)
theorem fm_bast {d : Nat} {y : fm_I} {Q : Option Value → fm_M → Prop} {pc : Nat} {L : List (Option Value)} {r : List Value} {M : fm_M} {p n : Nat} {i x : Int32} (hs : SHP[p]? = some (.inl (.byte, n))) (hin : vp_in i n) (hd : decode y.2.1 pc = .ok (.bastore, 1)) (k : fm_mw d y Q (pc + 1) L r (fm_up M p i.toNatClampNeg (vp_nar .byte x))) : fm_mw d y Q pc L (.int x :: .int i :: .ref p :: r) M := by
  intro pr l e s m args below meth c D ad ca A H locs ls C hl hP hD hS
  have hset := fm_ws_set (ad := ad) (ca := ca) (M := M) (M' := fm_up M p i.toNatClampNeg (vp_nar .byte x)) hs rfl fm_row_ne
  simp only [fm_cell, fm_up, fm_row_eq] at hset
  exact va_bast C.1 C.2.1 C.2.2.2.2.2.2.2.1 hP hD hS p 2 (fm_ws_get hs) rfl hin hd (fun H1 locs1 hP hD hS => k pr l e s m args below meth c D ad ca A H1 locs1 ls C hl (hset ▸ hP) (hset ▸ hD) hS)
theorem fm_zast {d : Nat} {y : fm_I} {Q : Option Value → fm_M → Prop} {pc : Nat} {L : List (Option Value)} {r : List Value} {M : fm_M} {p n : Nat} {i x : Int32} (hs : SHP[p]? = some (.inl (.boolean, n))) (hin : vp_in i n) (hd : decode y.2.1 pc = .ok (.bastore, 1)) (k : fm_mw d y Q (pc + 1) L r (fm_up M p i.toNatClampNeg (vp_nar .boolean x))) : fm_mw d y Q pc L (.int x :: .int i :: .ref p :: r) M := by
  intro pr l e s m args below meth c D ad ca A H locs ls C hl hP hD hS
  have hset := fm_ws_set (ad := ad) (ca := ca) (M := M) (M' := fm_up M p i.toNatClampNeg (vp_nar .boolean x)) hs rfl fm_row_ne
  simp only [fm_cell, fm_up, fm_row_eq] at hset
  exact va_zast C.1 C.2.1 C.2.2.2.2.2.2.2.1 hP hD hS p 3 (fm_ws_get hs) rfl hin hd (fun H1 locs1 hP hD hS => k pr l e s m args below meth c D ad ca A H1 locs1 ls C hl (hset ▸ hP) (hset ▸ hD) hS)
theorem fm_last {d : Nat} {y : fm_I} {Q : Option Value → fm_M → Prop} {pc : Nat} {L : List (Option Value)} {r : List Value} {M : fm_M} {p n : Nat} {i : Int32} {x : Int64} (hs : SHP[p]? = some (.inr (.inl n))) (hin : vp_in i n) (hd : decode y.2.1 pc = .ok (.lastore, 1)) (k : fm_mw d y Q (pc + 1) L r (fm_upL M p i.toNatClampNeg x)) : fm_mw d y Q pc L (.long x :: .int i :: .ref p :: r) M := by
  intro pr l e s m args below meth c D ad ca A H locs ls C hl hP hD hS
  have hset := fm_ws_set (ad := ad) (ca := ca) (M := M) (M' := fm_upL M p i.toNatClampNeg x) hs rfl fm_upL_ne
  simp only [fm_cell, fm_upL_eq] at hset
  exact va_last C.1 C.2.1 C.2.2.2.2.2.2.2.1 hP hD hS p 1 (fm_ws_get hs) rfl hin hd (fun H1 locs1 hP hD hS => k pr l e s m args below meth c D ad ca A H1 locs1 ls C hl (hset ▸ hP) (hset ▸ hD) hS)
theorem fm_alen {d : Nat} {y : fm_I} {Q : Option Value → fm_M → Prop} {pc : Nat} {L : List (Option Value)} {r : List Value} {M : fm_M} {p n : Nat} (hs : SHP[p]? = some (.inl (.int, n))) (hd : decode y.2.1 pc = .ok (.arraylength, 1)) (k : fm_mw d y Q (pc + 1) L (.int (nI n) :: r) M) : fm_mw d y Q pc L (.ref p :: r) M :=
  fun pr l e s m args below meth c D ad ca A H locs ls C hl hP hD hS => va_alen C.1 C.2.1 C.2.2.2.2.2.2.2.1 hP p 0 (fm_ws_get hs) (ty := .int) rfl rfl hd (k pr l e s m args below meth c D ad ca A H locs ls C hl hP hD hS)
theorem fm_alenb {d : Nat} {y : fm_I} {Q : Option Value → fm_M → Prop} {pc : Nat} {L : List (Option Value)} {r : List Value} {M : fm_M} {p n : Nat} (hs : SHP[p]? = some (.inl (.byte, n))) (hd : decode y.2.1 pc = .ok (.arraylength, 1)) (k : fm_mw d y Q (pc + 1) L (.int (nI n) :: r) M) : fm_mw d y Q pc L (.ref p :: r) M :=
  fun pr l e s m args below meth c D ad ca A H locs ls C hl hP hD hS => va_alen C.1 C.2.1 C.2.2.2.2.2.2.2.1 hP p 2 (fm_ws_get hs) (ty := .byte) rfl rfl hd (k pr l e s m args below meth c D ad ca A H locs ls C hl hP hD hS)
theorem fm_alenz {d : Nat} {y : fm_I} {Q : Option Value → fm_M → Prop} {pc : Nat} {L : List (Option Value)} {r : List Value} {M : fm_M} {p n : Nat} (hs : SHP[p]? = some (.inl (.boolean, n))) (hd : decode y.2.1 pc = .ok (.arraylength, 1)) (k : fm_mw d y Q (pc + 1) L (.int (nI n) :: r) M) : fm_mw d y Q pc L (.ref p :: r) M :=
  fun pr l e s m args below meth c D ad ca A H locs ls C hl hP hD hS => va_alen C.1 C.2.1 C.2.2.2.2.2.2.2.1 hP p 3 (fm_ws_get hs) (ty := .boolean) rfl rfl hd (k pr l e s m args below meth c D ad ca A H locs ls C hl hP hD hS)
/-! returns -/
theorem fm_iret {d : Nat} {y : fm_I} {Q : Option Value → fm_M → Prop} {pc : Nat} {L : List (Option Value)} {M : fm_M} {v : Int32} (hr : y.2.2.2 = some .int) (hq : Q (some (.int v)) M) (hd : decode y.2.1 pc = .ok (.ireturn, 1)) : fm_mw d y Q pc L [.int v] M :=
  fun pr l e s m args below meth c D ad ca A H locs ls C hl hP hD hS => W.iret C.1 C.2.1 (C.2.2.2.1.trans hr) (fun t ht hW => ⟨⟨some (.int v), M, rfl, hq, by rw [ht]; exact hP, va_K.moved hW.alike C.2.2.2.2.2.2.2.1, hD⟩, hS.F ht⟩) hS.2.2 hd C.2.2.2.2.1
theorem fm_zret {d : Nat} {y : fm_I} {Q : Option Value → fm_M → Prop} {pc : Nat} {L : List (Option Value)} {M : fm_M} {v : Int32} (hr : y.2.2.2 = some .boolean) (hz : v = 0 ∨ v = 1) (hq : Q (some (.int v)) M) (hd : decode y.2.1 pc = .ok (.ireturn, 1)) : fm_mw d y Q pc L [.int v] M :=
  fun pr l e s m args below meth c D ad ca A H locs ls C hl hP hD hS => W.zret C.1 C.2.1 (C.2.2.2.1.trans hr) (by rcases hz with rfl | rfl <;> rfl) (fun t ht hW => ⟨⟨some (.int v), M, rfl, hq, by rw [ht]; exact hP, va_K.moved hW.alike C.2.2.2.2.2.2.2.1, hD⟩, hS.F ht⟩) hS.2.2 hd C.2.2.2.2.1
theorem fm_lret {d : Nat} {y : fm_I} {Q : Option Value → fm_M → Prop} {pc : Nat} {L : List (Option Value)} {M : fm_M} {v : Int64} (hr : y.2.2.2 = some .long) (hq : Q (some (.long v)) M) (hd : decode y.2.1 pc = .ok (.lreturn, 1)) : fm_mw d y Q pc L [.long v] M :=
  fun pr l e s m args below meth c D ad ca A H locs ls C hl hP hD hS => W.lret C.1 C.2.1 (C.2.2.2.1.trans hr) (fun t ht hW => ⟨⟨some (.long v), M, rfl, hq, by rw [ht]; exact hP, va_K.moved hW.alike C.2.2.2.2.2.2.2.1, hD⟩, hS.F ht⟩) hS.2.2 hd C.2.2.2.2.1
theorem fm_aret {d : Nat} {y : fm_I} {Q : Option Value → fm_M → Prop} {pc : Nat} {L : List (Option Value)} {M : fm_M} {v : Nat} {cn : String} (hr : y.2.2.2 = some (.object cn)) (hq : Q (some (.ref v)) M) (hd : decode y.2.1 pc = .ok (.areturn, 1)) : fm_mw d y Q pc L [.ref v] M :=
  fun pr l e s m args below meth c D ad ca A H locs ls C hl hP hD hS => W.aret (v := .ref (ad v)) C.1 C.2.1 (C.2.2.2.1.trans hr) (Or.inl ⟨cn, rfl⟩) (Or.inr ⟨ad v, rfl⟩) (fun t ht hW => ⟨⟨some (.ref v), M, rfl, hq, by rw [ht]; exact hP, va_K.moved hW.alike C.2.2.2.2.2.2.2.1, hD⟩, hS.F ht⟩) hS.2.2 hd C.2.2.2.2.1
theorem fm_vret {d : Nat} {y : fm_I} {Q : Option Value → fm_M → Prop} {pc : Nat} {L : List (Option Value)} {M : fm_M} (hr : y.2.2.2 = none) (hq : Q none M) (hd : decode y.2.1 pc = .ok (.return_, 1)) : fm_mw d y Q pc L [] M :=
  fun pr l e s m args below meth c D ad ca A H locs ls C hl hP hD hS => W.vret C.1 C.2.1 (C.2.2.2.1.trans hr) (fun t ht hW => ⟨⟨none, M, rfl, hq, by rw [ht]; exact hP, va_K.moved hW.alike C.2.2.2.2.2.2.2.1, hD⟩, hS.F ht⟩) hS.2.2 hd C.2.2.2.2.1
/-! the contract that a walk gives, and calls -/
def fm_wy (y : fm_I) : List Cond := Cond.code y.1 y.2.1 y.2.2.1 y.2.2.2 :: fm_gw
def fm_Pc (M : fm_M) (As : List Value) (D : va_G) (ad : Nat → Nat) (ca : FieldType → ClassId) (sz : Nat) : Array Value → State → Prop := va_Pc (As.map (fm_re ad)) (fun U => U.heap.size = sz ∧ va_P D vwCl (fm_ws ad ca M) U.heap ∧ va_K D vwCl (fm_tys ca) U ∧ va_D (fun _ => True) (fm_ws ad ca M) ∧ (∀ w ∈ fm_nw, va_Nw w U) ∧ fm_str ad (va_A (fm_ws ad ca M) sz) U U.heap)
theorem fm_meet {d : Nat} {y : fm_I} {As : List Value} {M : fm_M} {Q : Option Value → fm_M → Prop} (h : fm_ct d y As M Q) (hy : plainName y.1.cls = true) (hn : (fm_en As).length ≤ y.2.2.1) (l : Launch) (D : va_G) (ad : Nat → Nat) (ca : FieldType → ClassId) (sz : Nat) :
    Met l y.1 (fm_wy y) (fm_room d) (fm_Pc M As D ad ca sz) (fm_Qc Q D ad ca (va_A (fm_ws ad ca M) sz)) 0 0 (va_A (fm_ws ad ca M) sz) := by
  refine Met.ofW (cc := y.2.1) (maxL := y.2.2.1) (ret := y.2.2.2) hy rfl ?_
  intro p e s m args below meth c s₁ B hml hv
  obtain ⟨rfl, hsz, hP, hK, hD0, hN, hG⟩ := hv
  subst hsz
  have hts := atoms_spec (ws := fm_wy y) B.pre
  have hl := lv_entry (As.map (fm_re ad)) (n := y.2.2.1) (by rw [fm_en_len]; exact hn)
  rw [lg_entry_eq]
  exact h p l e s m _ below meth c D ad ca (va_A (fm_ws ad ca M) s.heap.size) s.heap [] _ ⟨B.exec, B.bytes, hml, B.returns, B.notSynchronized, findClass_of_methodNamed B.named, fun w hw => hts w (List.mem_cons_of_mem _ hw), hK, fun q h => Or.inr h, hN, hG⟩ (fm_lv_ent hl) hP hD0.self va_S.rf
theorem fm_run {p : Program} {l : Launch} {e : Env} {R : Room} {s : State} {m : MethodId} {args : Array Value} {below : List Frame} {meth : Method} {c : Code} {H : Heap} {locs : List Loc} {cells slots : Nat} {Qs : State → Prop} {pc : Nat} {ls : Array Slot} {rest st0 : List Value} {a : Array Value} {A : Nat → Prop} {H0 : Heap} {D : va_G} {ad : Nat → Nat} {ca : FieldType → ClassId} {M : fm_M} {Q : Option Value → fm_M → Prop}
    (hr : va_Run p l e R s m args below meth c H locs cells slots 0 0 (F0 m pc ls st0) rest (fm_Qc Q D ad ca (va_A (fm_ws ad ca M) H.size) a) (va_A (fm_ws ad ca M) H.size)) (hK : va_K D vwCl (fm_tys ca) s) (hD : va_D A (fm_ws ad ca M)) (hA : ∀ q, H0.size ≤ q → A q) (hS : va_S A H0 H locs)
    (kk : ∀ (r : Option Value) (M' : fm_M) (H1 : Heap) (locs1 : List Loc), Q r M' → va_P D vwCl (fm_ws ad ca M') H1 → va_D A (fm_ws ad ca M') → va_S A H0 H1 locs1 → W p l e R s m args below meth c H1 locs1 cells slots Qs (F0 m (pc + 3) ls ((r.map (fm_re ad)).toList ++ rest))) : W p l e R s m args below meth c H locs cells slots Qs (F0 m pc ls st0) := by
  have hF : ∀ q, va_A (fm_ws ad ca M) H.size q → A q := fun q h => by
    rcases h with ⟨k, x, h⟩ | h
    · exact hD.2 k (q, x) h
    · exact hA q (Nat.le_trans hS.1 h)
  intro T hT X
  obtain ⟨v, st₀, t, T', L, h0, X', hL, e1, e2, ⟨⟨r, M', hv, hq, hP1, hK1, hD1⟩, hz, hk⟩, st⟩ := hr T hT X
  cases hv
  rw [h0] at hz hk
  obtain ⟨t2, a1, b1⟩ := kk r M' T'.heap (locs ++ L) hq (by rw [e1]; exact hP1) (hD1.weaken (fun _ _ _ h => hF _ h))
    ⟨Nat.le_trans hS.1 (by rw [e1]; exact hz), fun q h1 h2 => by rw [e1, hk q (Nat.lt_of_lt_of_le h1 hS.1) (fun z => h2 (hF q z))]; exact hS.2.1 q h1 h2, fun q hq => by
      rcases List.mem_append.mp hq with h | h
      · exact hS.2.2 q h
      · exact hF _ (hL q h)⟩ T' rfl X'
  exact ⟨t2, st t2 a1, b1⟩
theorem fm_wsA {ad : Nat → Nat} {ca : FieldType → ClassId} {M : fm_M} {A : Nat → Prop} {H0 H : Heap} {locs : List Loc} (hD : va_D A (fm_ws ad ca M)) (hA : ∀ q, H0.size ≤ q → A q) (hS : va_S A H0 H locs) : ∀ q, va_A (fm_ws ad ca M) H.size q → A q := fun q h => by
  rcases h with ⟨k, x, h⟩ | h
  · exact hD.2 k (q, x) h
  · exact hA q (Nat.le_trans hS.1 h)
theorem fm_good {y : fm_I} (h : Cond.code y.1 y.2.1 y.2.2.1 y.2.2.2 ∈ fm_gw) : GoodIn fm_gw (fm_wy y) := by
  intro w hw
  have hm : w ∈ fm_gw := by
    rcases List.mem_cons.mp hw with rfl | hw
    · exact h
    · exact hw
  exact ⟨hm, good_of_word (List.mem_filter.mp hm).2⟩
/-- what is known of a method, for its calls: n arguments beside the receiver -/
def fm_cy (y : fm_I) (n : Nat) : Prop := Cond.code y.1 y.2.1 y.2.2.1 y.2.2.2 ∈ fm_gw ∧ Cond.initialized y.1.cls ∈ fm_gw ∧ plainName y.1.cls = true ∧ y.2.2.1 + 19 ≤ 64 ∧ (y.1.cls ≠ "java/lang/invoke/MethodHandle" ∧ y.1.cls ≠ "java/lang/invoke/VarHandle" ∧ (parseMethodDescriptor y.1.desc).map (fun d => d.parameters.length) = some n)
def fm_cv (y : fm_I) (n : Nat) : Prop := fm_cy y n ∧ Cond.instanceMethod y.1 ∈ fm_gw ∧ Cond.selects y.1.cls y.1 y.1 ∈ fm_gw
def fm_cs (y : fm_I) (n : Nat) : Prop := fm_cy y n ∧ Cond.static y.1 ∈ fm_gw
def fm_ml (own : String) (idx : Nat) (y : fm_I) : Prop := Cond.methodLink own idx y.1 ∈ fm_gw ∨ ∃ host, Cond.methodLinkNest own idx y.1 host ∈ fm_nw
theorem fm_cats (ad : Nat → Nat) (r : List Value) : ((r.map (fm_re ad)).map fun v => v.category) = r.map fun v => v.category := by
  rw [List.map_map]
  exact List.map_congr_left (fun v _ => fm_cat ad v)
theorem fm_blind (M : fm_M) (As : List Value) (D : va_G) (ad : Nat → Nat) (ca : FieldType → ClassId) (sz : Nat) : FrameBlind (fm_Pc M As D ad ca sz) := fun a U g mk q => by
  obtain ⟨q0, q1, qP, qK, qD, qN, qG⟩ := q
  exact ⟨q0, q1, qP, va_K.moved (u := U) (U := U.calling g mk a) (Vm.Alike.refl U.vm) qK, qD, fun w hw => va_Nw.same (fm_nw_tab hw) (u := U) (U := U.calling g mk a) rfl (qN w hw), qG.go (U := U.calling g mk a) (fun _ _ _ => rfl) (Vm.Alike.refl U.vm) (vk_R.same (u := U) rfl qG.2.2.2.2.1) (fun _ h => h)⟩
theorem fm_opt (ad : Nat → Nat) (r : Option Value) (S : List Value) : (r.toList ++ S).map (fm_re ad) = (r.map (fm_re ad)).toList ++ S.map (fm_re ad) := by cases r <;> rfl
theorem fm_callV {d : Nat} {y : fm_I} {Q : Option Value → fm_M → Prop} {pc : Nat} {L : List (Option Value)} {St : List Value} {M : fm_M} {b ci idx n N : Nat} {ks : List (Option (Option Nat))} {T : u_T} (y2 : fm_I) (As rest : List Value) (hS0 : St = As.reverse ++ .ref b :: rest) (hy : fm_cv y2 n) (hln : fm_ml y.1.cls idx y2) (hs : SHP[b]? = some (.inr (.inr (ci, ks)))) (hc : vwCl[ci]? = some (y2.1.cls, T, N)) (hn : As.length = n) (hlen : (fm_en (.ref b :: As)).length ≤ y2.2.2.1) (hrest : (rest.map fun v => v.category).sum ≤ 8) (hd : decode y.2.1 pc = .ok (.invokevirtual idx, 3)) (hM : fm_ct d y2 (.ref b :: As) M (fun r M' => fm_mw (d + 1) y Q (pc + 3) L (r.toList ++ rest) M')) : fm_mw (d + 1) y Q pc L St M := by
  intro p l e s m args below meth c D ad ca A H locs ls C hl hP hD hS
  subst hS0
  have hg := C.2.2.2.2.2.2.1
  have hK := C.2.2.2.2.2.2.2.1
  have hA := C.2.2.2.2.2.2.2.2.1
  have hN := C.2.2.2.2.2.2.2.2.2.1
  have hG := C.2.2.2.2.2.2.2.2.2.2
  obtain ⟨⟨hcode, hini, hpl, hmx, hdd⟩, hin, hsel⟩ := hy
  have hMet := fm_meet hM hpl hlen l D ad ca H.size
  have hR : (fm_room d).frames + 1 ≤ (fm_room (d + 1)).frames ∧ 8 + (y2.2.2.1 + 11) + (fm_room d).locals ≤ (fm_room (d + 1)).locals := ⟨Nat.le_refl _, by simp only [fm_room]; omega⟩
  have hst : (F0 m pc ls ((As.reverse ++ .ref b :: rest).map (fm_re ad))).stack = (As.map (fm_re ad)).reverse ++ Value.ref (ad b) :: rest.map (fm_re ad) := by
    simp only [F0, List.map_append, List.map_reverse, List.map_cons, fm_re]
  have hw8 : 2 * (F0 m pc ls ((As.reverse ++ .ref b :: rest).map (fm_re ad))).monitorRoom + ((rest.map (fm_re ad)).map fun v => v.category).sum ≤ 8 := lv_room (by rw [fm_cats]; exact hrest)
  have hp : PreV s H y2.1.cls (ad b) (fm_Pc M (.ref b :: As) D ad ca H.size) (As.map (fm_re ad)) := ⟨fm_blind _ _ _ _ _ _, va_recv hK hP hc (fm_obj_get hs), fun U hU hW => ⟨rfl, by rw [hU], by rw [hU]; exact hP, va_K.moved hW.alike hK, hD.weaken (fun _ _ _ _ => trivial), fun w hw => fm_nw_warm hw hW (hN w hw), by rw [hU]; exact hG.go hS.2.1 hW.alike (vk_R.warm hW hG.2.2.2.2.1) (fm_wsA hD hA hS)⟩⟩
  have kk : ∀ (r : Option Value) (M' : fm_M) (H1 : Heap) (locs1 : List Loc), fm_mw (d + 1) y Q (pc + 3) L (r.toList ++ rest) M' → va_P D vwCl (fm_ws ad ca M') H1 → va_D A (fm_ws ad ca M') → va_S A s.heap H1 locs1 → W p l e (fm_room (d + 1)) s m args below meth c H1 locs1 0 0 (MQ below (fm_Qc Q D ad ca A) args s 0 0 A) (F0 m (pc + 3) ls ((r.map (fm_re ad)).toList ++ rest.map (fm_re ad))) := fun r M' H1 locs1 hq hP hD hS => by
    have := hq p l e s m args below meth c D ad ca A H1 locs1 ls C hl hP hD hS
    rw [fm_opt] at this
    exact this
  rcases hln with hln | ⟨host, hln⟩
  · exact fm_run (va_runV (As := As.map (fm_re ad)) (rest := rest.map (fm_re ad)) ⟨C.1, C.2.1, C.2.2.1, C.2.2.2.2.2.1, hg⟩ hMet ⟨callB_of n hg (fm_good hcode) rfl rfl rfl (hg _ hini) (hg _ hln) hdd hR, hg _ hin, hg _ hsel⟩ hp rfl (by rw [List.length_map]; exact hn) hl.1 hst hw8 hd ⟨Nat.le_refl _, Nat.le_refl _⟩) hK hD hA hS kk
  · exact fm_run (va_runVN (As := As.map (fm_re ad)) (rest := rest.map (fm_re ad)) ⟨C.1, C.2.1, C.2.2.1, C.2.2.2.2.2.1, hg⟩ hMet ⟨va_cnB n hg (fm_good hcode) rfl rfl rfl (hN _ hln) (hg _ hini) hdd hR, hg _ hin, hg _ hsel⟩ hp rfl (by rw [List.length_map]; exact hn) hl.1 hst hw8 hd ⟨Nat.le_refl _, Nat.le_refl _⟩) hK hD hA hS kk
theorem fm_callS {d : Nat} {y : fm_I} {Q : Option Value → fm_M → Prop} {pc : Nat} {L : List (Option Value)} {St : List Value} {M : fm_M} {idx n : Nat} (y2 : fm_I) (As rest : List Value) (hS0 : St = As.reverse ++ rest) (hy : fm_cs y2 n) (hln : fm_ml y.1.cls idx y2) (hn : As.length = n) (hlen : (fm_en As).length ≤ y2.2.2.1) (hrest : (rest.map fun v => v.category).sum ≤ 8) (hd : decode y.2.1 pc = .ok (.invokestatic idx, 3)) (hM : fm_ct d y2 As M (fun r M' => fm_mw (d + 1) y Q (pc + 3) L (r.toList ++ rest) M')) : fm_mw (d + 1) y Q pc L St M := by
  intro p l e s m args below meth c D ad ca A H locs ls C hl hP hD hS
  subst hS0
  have hg := C.2.2.2.2.2.2.1
  have hK := C.2.2.2.2.2.2.2.1
  have hA := C.2.2.2.2.2.2.2.2.1
  have hN := C.2.2.2.2.2.2.2.2.2.1
  have hG := C.2.2.2.2.2.2.2.2.2.2
  obtain ⟨⟨hcode, hini, hpl, hmx, hdd⟩, hst9⟩ := hy
  have hMet := fm_meet hM hpl hlen l D ad ca H.size
  have hR : (fm_room d).frames + 1 ≤ (fm_room (d + 1)).frames ∧ 8 + (y2.2.2.1 + 11) + (fm_room d).locals ≤ (fm_room (d + 1)).locals := ⟨Nat.le_refl _, by simp only [fm_room]; omega⟩
  have hst : (F0 m pc ls ((As.reverse ++ rest).map (fm_re ad))).stack = (As.map (fm_re ad)).reverse ++ rest.map (fm_re ad) := by
    simp only [F0, List.map_append, List.map_reverse]
  have hw8 : 2 * (F0 m pc ls ((As.reverse ++ rest).map (fm_re ad))).monitorRoom + ((rest.map (fm_re ad)).map fun v => v.category).sum ≤ 8 := lv_room (by rw [fm_cats]; exact hrest)
  have hp : PreS s H (fm_Pc M As D ad ca H.size) (As.map (fm_re ad)) := ⟨fm_blind _ _ _ _ _ _, fun U hU hW => ⟨rfl, by rw [hU], by rw [hU]; exact hP, va_K.moved hW.alike hK, hD.weaken (fun _ _ _ _ => trivial), fun w hw => fm_nw_warm hw hW (hN w hw), by rw [hU]; exact hG.go hS.2.1 hW.alike (vk_R.warm hW hG.2.2.2.2.1) (fm_wsA hD hA hS)⟩⟩
  have kk : ∀ (r : Option Value) (M' : fm_M) (H1 : Heap) (locs1 : List Loc), fm_mw (d + 1) y Q (pc + 3) L (r.toList ++ rest) M' → va_P D vwCl (fm_ws ad ca M') H1 → va_D A (fm_ws ad ca M') → va_S A s.heap H1 locs1 → W p l e (fm_room (d + 1)) s m args below meth c H1 locs1 0 0 (MQ below (fm_Qc Q D ad ca A) args s 0 0 A) (F0 m (pc + 3) ls ((r.map (fm_re ad)).toList ++ rest.map (fm_re ad))) := fun r M' H1 locs1 hq hP hD hS => by
    have := hq p l e s m args below meth c D ad ca A H1 locs1 ls C hl hP hD hS
    rw [fm_opt] at this
    exact this
  rcases hln with hln | ⟨host, hln⟩
  · exact fm_run (va_runS (As := As.map (fm_re ad)) (rest := rest.map (fm_re ad)) ⟨C.1, C.2.1, C.2.2.1, C.2.2.2.2.2.1, hg⟩ hMet ⟨callB_of n hg (fm_good hcode) rfl rfl rfl (hg _ hini) (hg _ hln) hdd hR, hg _ hst9⟩ hp rfl (by rw [List.length_map]; exact hn) hl.1 hst hw8 hd ⟨Nat.le_refl _, Nat.le_refl _⟩) hK hD hA hS kk
  · exact fm_run (va_runSN (As := As.map (fm_re ad)) (rest := rest.map (fm_re ad)) ⟨C.1, C.2.1, C.2.2.1, C.2.2.2.2.2.1, hg⟩ hMet ⟨va_cnB n hg (fm_good hcode) rfl rfl rfl (hN _ hln) (hg _ hini) hdd hR, hg _ hst9, trivial⟩ hp rfl (by rw [List.length_map]; exact hn) hl.1 hst hw8 hd ⟨Nat.le_refl _, Nat.le_refl _⟩) hK hD hA hS kk
/-- a weaker end -/
theorem fm_mw.mono {d : Nat} {y : fm_I} {Q Q2 : Option Value → fm_M → Prop} {pc : Nat} {L : List (Option Value)} {St : List Value} {M : fm_M} (h : fm_mw d y Q pc L St M) (hQ : ∀ r M, Q r M → Q2 r M) : fm_mw d y Q2 pc L St M := by
  intro p l e s m args below meth c D ad ca A H locs ls C hl hP hD hS T hT X
  obtain ⟨t, a1, o, b1, b2, ⟨⟨r, M', hv, hq, hr⟩, hf⟩, b3⟩ := h p l e s m args below meth c D ad ca A H locs ls C hl hP hD hS T hT X
  exact ⟨t, a1, o, b1, b2, ⟨⟨r, M', hv, hQ r M' hq, hr⟩, hf⟩, b3⟩
theorem fm_ct.mono {d : Nat} {y : fm_I} {Q Q2 : Option Value → fm_M → Prop} {As : List Value} {M : fm_M} (h : fm_ct d y As M Q) (hQ : ∀ r M, Q r M → Q2 r M) : fm_ct d y As M Q2 := fm_mw.mono h hQ
