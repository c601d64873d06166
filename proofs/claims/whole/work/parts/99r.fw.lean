/-! a call of the flat walk, out of any frame of the machine -/
theorem fw_run {p : Program} {l : Launch} {e : Env} {R : Room} {s : State} {m : MethodId} {args : Array Value} {below : List Frame} {meth : Method} {c : Code} {H : Heap} {locs : List Loc} {cells slots : Nat} {Qs : State → Prop} {pc : Nat} {ls : Array Slot} {rest st0 : List Value} {a : Array Value} {A : Nat → Prop} {H0 : Heap} {D : va_G} {ad : Nat → Nat} {ca : FieldType → ClassId} {M : fm_M} {Q : Option Value → fm_M → Prop}
    (hr : va_Run p l e R s m args below meth c H locs cells slots 0 0 (F0 m pc ls st0) rest (fm_Qc Q D ad ca (va_A (fm_ws ad ca M) H.size) a) (va_A (fm_ws ad ca M) H.size)) (hD : va_D A (fm_ws ad ca M)) (hA : ∀ q, H0.size ≤ q → A q) (hS : va_S A H0 H locs)
    (kk : ∀ (r : Option Value) (M' : fm_M) (H1 : Heap) (locs1 : List Loc), Q r M' → va_P D vwCl (fm_ws ad ca M') H1 → va_D A (fm_ws ad ca M') → va_S A H0 H1 locs1 → H.size ≤ H1.size → (∀ q : Nat, q < H.size → ¬ va_A (fm_ws ad ca M) H.size q → H1[q]? = H[q]?) → W p l e R s m args below meth c H1 locs1 cells slots Qs (F0 m (pc + 3) ls ((r.map (fm_re ad)).toList ++ rest))) : W p l e R s m args below meth c H locs cells slots Qs (F0 m pc ls st0) := by
  have hF : ∀ q, va_A (fm_ws ad ca M) H.size q → A q := fm_wsA hD hA hS
  intro T hT X
  obtain ⟨v, st₀, t, T', L, h0, X', hL, e1, e2, ⟨⟨r, M', hv, hq, hP1, hK1, hD1⟩, hz, hk⟩, st⟩ := hr T hT X
  cases hv
  rw [h0] at hz hk
  obtain ⟨t2, a1, b1⟩ := kk r M' T'.heap (locs ++ L) hq (by rw [e1]; exact hP1) (hD1.weaken (fun _ _ _ h => hF _ h))
    ⟨Nat.le_trans hS.1 (by rw [e1]; exact hz), fun q h1 h2 => by rw [e1, hk q (Nat.lt_of_lt_of_le h1 hS.1) (fun z => h2 (hF q z))]; exact hS.2.1 q h1 h2, fun q hq => by
      rcases List.mem_append.mp hq with h | h
      · exact hS.2.2 q h
      · exact hF _ (hL q h)⟩ (by rw [e1]; exact hz) (fun q h1 h2 => by rw [e1]; exact hk q h1 h2) T' rfl X'
  exact ⟨t2, st t2 a1, b1⟩
/-- what a frame must know for its calls -/
def fw_ok (own : String) (cc : ByteArray) (nL : Nat) (p : Program) (s : State) (m : MethodId) (args : Array Value) (c : Code) (D : va_G) (ad : Nat → Nat) (ca : FieldType → ClassId) (A : Nat → Prop) : Prop :=
  (p.tables.exec = Jvm.exec ∧ c.code = cc ∧ c.maxLocals = nL ∧ s.vm.findClass own = some m.cls ∧ (∀ w ∈ fm_gw, w.before args s = true)) ∧ va_K D vwCl (fm_tys ca) s ∧ (∀ q, s.heap.size ≤ q → A q) ∧ (∀ w ∈ fm_nw, va_Nw w s) ∧ fm_str ad A s s.heap
theorem fw_callV {p : Program} {l : Launch} {e : Env} {R : Room} {s : State} {m : MethodId} {args : Array Value} {below : List Frame} {meth : Method} {c : Code} {H : Heap} {locs : List Loc} {cells slots : Nat} {Qs : State → Prop} {pc : Nat} {ls : Array Slot} {St : List Value} {A : Nat → Prop} {D : va_G} {ad : Nat → Nat} {ca : FieldType → ClassId} {M : fm_M} {Q : Option Value → fm_M → Prop} {own : String} {cc : ByteArray} {nL d b ci idx n N : Nat} {ks : List (Option (Option Nat))} {T : u_T}
    (C : fw_ok own cc nL p s m args c D ad ca A) (y2 : fm_I) (As rest : List Value) (hSt : St = (As.map (fm_re ad)).reverse ++ .ref (ad b) :: rest) (hM : fm_ct d y2 (.ref b :: As) M Q) (hy : fm_cv y2 n) (hln : Cond.methodLink own idx y2.1 ∈ fm_gw) (hs : SHP[b]? = some (.inr (.inr (ci, ks)))) (hc : vwCl[ci]? = some (y2.1.cls, T, N)) (hn : As.length = n) (hlen : (fm_en (.ref b :: As)).length ≤ y2.2.2.1) (hrest : (rest.map fun v => v.category).sum ≤ 8)
    (hR : d + 1 ≤ R.frames ∧ 8 + (y2.2.2.1 + 11) + 64 * d ≤ R.locals) (hcs : cells ≤ R.cells ∧ slots ≤ R.slots) (hls : ls.size = nL) (hd : decode cc pc = .ok (.invokevirtual idx, 3))
    (hP : va_P D vwCl (fm_ws ad ca M) H) (hD : va_D A (fm_ws ad ca M)) (hS : va_S A s.heap H locs)
    (kk : ∀ (r : Option Value) (M' : fm_M) (H1 : Heap) (locs1 : List Loc), Q r M' → va_P D vwCl (fm_ws ad ca M') H1 → va_D A (fm_ws ad ca M') → va_S A s.heap H1 locs1 → H.size ≤ H1.size → (∀ q : Nat, q < H.size → ¬ va_A (fm_ws ad ca M) H.size q → H1[q]? = H[q]?) → W p l e R s m args below meth c H1 locs1 cells slots Qs (F0 m (pc + 3) ls ((r.map (fm_re ad)).toList ++ rest))) : W p l e R s m args below meth c H locs cells slots Qs (F0 m pc ls St) := by
  subst hSt
  obtain ⟨⟨hx, hb, hml, hown, hg⟩, hK, hA, hN, hG⟩ := C
  obtain ⟨⟨hcode, hini, hpl, hmx, hdd⟩, hin, hsel⟩ := hy
  have hMet := fm_meet hM hpl hlen l D ad ca H.size
  have hp : PreV s H y2.1.cls (ad b) (fm_Pc M (.ref b :: As) D ad ca H.size) (As.map (fm_re ad)) := ⟨fm_blind _ _ _ _ _ _, va_recv hK hP hc (fm_obj_get hs), fun U hU hW => ⟨rfl, by rw [hU], by rw [hU]; exact hP, va_K.moved hW.alike hK, hD.weaken (fun _ _ _ _ => trivial), fun w hw => fm_nw_warm hw hW (hN w hw), by rw [hU]; exact hG.go hS.2.1 hW.alike (vk_R.warm hW hG.2.2.2.2.1) (fm_wsA hD hA hS)⟩⟩
  exact fw_run (va_runV (As := As.map (fm_re ad)) (rest := rest) ⟨hx, hb, hml, hown, hg⟩ hMet ⟨callB_of n hg (fm_good hcode) rfl rfl rfl (hg _ hini) (hg _ hln) hdd hR, hg _ hin, hg _ hsel⟩ hp rfl (by rw [List.length_map]; exact hn) hls rfl (lv_room hrest) hd ⟨hcs.1, hcs.2⟩) hD hA hS kk
