/-! the law's own frame: its context, its world, a read of the script, a call -/
def la_ok (p : Program) (s : State) (m : MethodId) (c : Code) (b L : Nat) (xs : Nat → Int32) (D : va_G) (ad : Nat → Nat) (ca : FieldType → ClassId) (A : Nat → Prop) : Prop :=
  fw_ok RL cL_law 7 p s m #[.ref b] c D ad ca A ∧ va_X b L xs s s.heap ∧ b < s.heap.size ∧ ¬ A b ∧ L ≤ 3072
def la_w (s : State) (D : va_G) (ad : Nat → Nat) (ca : FieldType → ClassId) (A : Nat → Prop) (qo : Nat) (f : Nat → Int64) (M : fm_M) (H : Heap) (locs : List Loc) : Prop :=
  va_P D vwCl (fm_ws ad ca M) H ∧ va_D A (lo_ws ad ca M qo f) ∧ va_S A s.heap H locs ∧ va_P D vwCl [(qo, lo_c ca f)] H
theorem la_fst {A : Nat → Prop} {w w' : va_W} (h : w.map Prod.fst = w'.map Prod.fst) (hD : va_D A w) : va_D A w' := by
  have e : ∀ (k : Nat) (q : Nat × va_E), w'[k]? = some q → ∃ q0, w[k]? = some q0 ∧ q0.1 = q.1 := fun k q hq => by
    have h1 : (w'.map Prod.fst)[k]? = some q.1 := by rw [List.getElem?_map, hq]; rfl
    rw [← h, List.getElem?_map] at h1
    cases hw : w[k]? with
    | none => rw [hw] at h1; cases h1
    | some q0 => rw [hw] at h1; exact ⟨q0, rfl, Option.some.inj h1⟩
  refine ⟨fun i j p q h1 h2 h3 => ?_, fun k q hq => ?_⟩
  · obtain ⟨p0, a1, a2⟩ := e i p h1
    obtain ⟨q0, b1, b2⟩ := e j q h2
    exact hD.1 i j p0 q0 a1 b1 (by rw [a2, b2, h3])
  · obtain ⟨q0, a1, a2⟩ := e k q hq
    rw [← a2]
    exact hD.2 k q0 a1
theorem la_D {A : Nat → Prop} {ad : Nat → Nat} {ca : FieldType → ClassId} {M M' : fm_M} {qo : Nat} {f f' : Nat → Int64} (hD : va_D A (lo_ws ad ca M qo f)) : va_D A (lo_ws ad ca M' qo f') := by
  have e : ∀ M : fm_M, (fm_ws ad ca M).map Prod.fst = SHP.mapIdx (fun p _ => ad p) := fun M => by
    apply List.ext_getElem?
    intro k
    simp only [fm_ws, List.getElem?_map, List.getElem?_mapIdx]
    cases SHP[k]? <;> rfl
  refine la_fst ?_ hD
  simp only [lo_ws, List.map_append, e, List.map_cons, List.map_nil]
theorem la_qo {s : State} {D : va_G} {ad : Nat → Nat} {ca : FieldType → ClassId} {A : Nat → Prop} {qo : Nat} {f : Nat → Int64} {M : fm_M} {H : Heap} {locs : List Loc} (hw : la_w s D ad ca A qo f M H locs) : qo < H.size ∧ ¬ va_A (fm_ws ad ca M) H.size qo := by
  have hl : qo < H.size := (hw.2.2.2 0 _ rfl).lt
  exact ⟨hl, lo_out hw.2.1 hl⟩
theorem la_one {D : va_G} {cl : List vw_C} {q : Nat} {x : va_E} {H H1 : Heap} (h : va_P D cl [(q, x)] H) (e : H1[q]? = H[q]?) : va_P D cl [(q, x)] H1 := fun k z hz => by
  match k, hz with
  | 0, hz => cases hz; exact (h 0 _ rfl).kept e
  | k + 1, hz => simp at hz
section LA
variable {p : Program} {l : Launch} {e : Env} {s : State} {m : MethodId} {below : List Frame} {meth : Method} {c : Code} {b L : Nat} {xs : Nat → Int32} {D : va_G} {ad : Nat → Nat} {ca : FieldType → ClassId} {A : Nat → Prop} {qo i : Nat} {f : Nat → Int64} {M : fm_M} {H : Heap} {locs : List Loc} {cells slots : Nat} {Qs : State → Prop} {ls : Array Slot} {pc : Nat} {St : List Value}
abbrev la_L (b : Nat) (ad : Nat → Nat) (qo i : Nat) : List (Nat × Value) := [(0, .ref b), (1, .ref (ad 0)), (2, .ref (ad 76)), (3, .ref qo), (4, .int (nI i))]
theorem la_call {Q : Option Value → fm_M → Prop} {q ci idx n N : Nat} {ks : List (Option (Option Nat))} {T : u_T} (C : la_ok p s m c b L xs D ad ca A) (hcs : cells ≤ room_1.cells ∧ slots ≤ room_1.slots) (hls : ls.size = 7) (y2 : fm_I) (As rest : List Value) (hSt : St = (As.map (fm_re ad)).reverse ++ .ref (ad q) :: rest) (hM : fm_ct 1000 y2 (.ref q :: As) M Q) (hy : fm_cv y2 n) (hln : Cond.methodLink RL idx y2.1 ∈ fm_gw) (hs : SHP[q]? = some (.inr (.inr (ci, ks)))) (hc : vwCl[ci]? = some (y2.1.cls, T, N)) (hn : As.length = n) (hlen : (fm_en (.ref q :: As)).length ≤ y2.2.2.1) (hrest : (rest.map fun v => v.category).sum ≤ 8) (hd : decode cL_law pc = .ok (.invokevirtual idx, 3)) (hw : la_w s D ad ca A qo f M H locs)
    (kk : ∀ (r : Option Value) (M' : fm_M) (H1 : Heap) (locs1 : List Loc), Q r M' → la_w s D ad ca A qo f M' H1 locs1 → W p l e room_1 s m #[.ref b] below meth c H1 locs1 cells slots Qs (F0 m (pc + 3) ls ((r.map (fm_re ad)).toList ++ rest))) : W p l e room_1 s m #[.ref b] below meth c H locs cells slots Qs (F0 m pc ls St) := by
  obtain ⟨ql, qn⟩ := la_qo hw
  have hmx : y2.2.2.1 + 19 ≤ 64 := hy.1.2.2.2.1
  exact fw_callV (d := 1000) C.1 y2 As rest hSt hM hy hln hs hc hn hlen hrest ⟨Nat.le_of_ble_eq_true rfl, by show 8 + (y2.2.2.1 + 11) + 64 * 1000 ≤ 84000; omega⟩ hcs hls hd hw.1 (lo_preD hw.2.1) hw.2.2.1 (fun r M' H1 locs1 hq hP hD hS hz hk => kk r M' H1 locs1 hq ⟨hP, la_D hw.2.1, hS, la_one hw.2.2.2 (hk qo ql qn)⟩)
theorem la_rd {k : Nat} (C : la_ok p s m c b L xs D ad ca A) (hS : va_S A s.heap H locs) (hl : lv_has ls 7 (la_L b ad qo i)) (hi : i + 6 ≤ L) (hk : k < 6) (d0 : decode cL_law pc = .ok (.aload_n 0, 1)) (d1 : decode cL_law (pc + 1) = .ok (.iload 4, 2)) (d2 : decode cL_law (pc + 3) = .ok (.iconst (k : Int), 1)) (d3 : decode cL_law (pc + 4) = .ok (.iadd, 1)) (d4 : decode cL_law (pc + 5) = .ok (.iaload, 1))
    (kk : W p l e room_1 s m #[.ref b] below meth c H locs cells slots Qs (F0 m (pc + 6) ls (.int (xs (i + k)) :: St))) : W p l e room_1 s m #[.ref b] below meth c H locs cells slots Qs (F0 m pc ls St) := by
  obtain ⟨⟨⟨hx, hb, -⟩, -⟩, hX, hbl, hbA, hL⟩ := C
  have hk2 : Int32.ofInt (k : Int) = nI k := by
    have : k = 0 ∨ k = 1 ∨ k = 2 ∨ k = 3 ∨ k = 4 ∨ k = 5 := by omega
    rcases this with rfl | rfl | rfl | rfl | rfl | rfl <;> rfl
  refine lv_aload_n hx hb d0 rfl (lv_at hl 0 rfl) ?_
  refine lv_iload hx hb d1 (lv_at hl 4 rfl) ?_
  refine lv_iconst (v := nI k) hx hb d2 hk2 ?_
  refine lv_iadd hx hb d3 ?_
  rw [nI_add]
  refine va_sld hx hb hX hbl hbA hS (vp_in_nI (show i + k < L by omega) (by omega)) d4 ?_
  rw [nI_clamp (by omega)]
  exact kk
def la_b (x : Int32) : Int32 := if x = 0 then 0 else 1
theorem la_bl {x : Int32} {t7 t8 : Nat} (C : la_ok p s m c b L xs D ad ca A) (h7 : pc + 7 = t7) (h8 : pc + 8 = t8) (d0 : decode cL_law pc = .ok (.ifCond .eq 7, 3)) (d1 : decode cL_law (pc + 3) = .ok (.iconst 1, 1)) (d2 : decode cL_law (pc + 4) = .ok (.goto 4, 3)) (d3 : decode cL_law t7 = .ok (.iconst 0, 1))
    (kk : W p l e room_1 s m #[.ref b] below meth c H locs cells slots Qs (F0 m t8 ls (.int (la_b x) :: St))) : W p l e room_1 s m #[.ref b] below meth c H locs cells slots Qs (F0 m pc ls (.int x :: St)) := by
  obtain ⟨⟨⟨hx, hb, -⟩, -⟩, -⟩ := C
  refine lv_if_eq (tgt := t7) hx hb d0 (by omega) (fun h => ?_) (fun h => ?_)
  · refine lv_iconst (v := 0) hx hb d3 (by decide) ?_
    rw [la_b, if_pos h] at kk
    rw [show t7 + 1 = t8 by omega]
    exact kk
  · refine lv_iconst (v := 1) hx hb d1 (by decide) ?_
    refine lv_goto (tgt := t8) hx hb d2 (by omega) ?_
    rw [la_b, if_neg h] at kk
    exact kk
theorem la_cmp (x : Int64) : lg_cmp x x = 0 := by
  unfold lg_cmp
  first | (split <;> simp_all) | simp
end LA
