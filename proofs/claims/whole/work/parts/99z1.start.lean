set_option maxHeartbeats 20000000 in
set_option maxRecDepth 100000 in
/-- THE LAW, from its entry -/
theorem whole_start {p : Program} {e : Env} {s : State} {m : MethodId} {below : List Frame} {meth : Method} {c : Code} (l : Launch) (hst : l.stackTraces = false) {b L : Nat} {xs : Nat → Int32} (hL : L ≤ 3072) (C0 : lw_At p s m meth c b L xs) : W p l e room_1 s m #[Value.ref b] below meth c s.heap [] 0 0 (lw_Z below #[Value.ref b] s) (entryFrame m ([Value.ref b] : List Value).toArray 7) := by
  obtain ⟨hx, hb, hr, hml, hown, hts, hX, hbl, hlocks, hgv⟩ := id C0
  obtain ⟨A, hAd⟩ : ∃ A : Nat → Prop, A = fun q : Nat => s.heap.size ≤ q := ⟨_, rfl⟩
  have hA : ∀ q : Nat, s.heap.size ≤ q → A q := fun q h => by rw [hAd]; exact h
  have hAn : ∀ a : Nat, a < s.heap.size → ¬ A a := fun a h z => by rw [hAd] at z; exact absurd (show s.heap.size ≤ a from z) (by omega)
  have hg : ∀ w ∈ fm_gw, w.before #[Value.ref b] s = true := fun w hw => hts w (List.mem_filter.mp hw).1
  have hN : ∀ w ∈ fm_nw, va_Nw w s := fun w hw => va_any (fm_nw_tab hw) (hts w (List.mem_filter.mp hw).1)
  obtain ⟨D, ca, hK⟩ := st_K hg
  obtain ⟨sa, hF, hG, hT, hC⟩ := st_S hts hgv hAn
  have C : cx_ok RL cL_law 7 p s m #[Value.ref b] c D sa ca A := ⟨⟨hx, hb, hml, hown, hg⟩, hK, hA, hN, hF, hG⟩
  have hl := lv_entry ([.ref b]) (n := 7) (Nat.le_of_ble_eq_true rfl)
  rw [lg_entry_eq]
  generalize (lg_sl ([.ref b]) ++ List.replicate (7 - (lg_sl ([.ref b])).length) Slot.unset).toArray = ls at hl ⊢
  have hl : lv_has ls 7 [(0, .ref b)] := hl
  have hw0 : cn_w s D A ([] ++ []) s.heap [] := ⟨fun k q h => by simp at h, ⟨fun i j p q h => by simp at h, fun k q h => by simp at h⟩, va_S.rf⟩
  refine cn_new (w0 := []) (wt := []) (ci := 9) (T := TX9) C hw0 fm_in9 tyX9 tyX9_ok rfl [.null, .null, .null, .null, .null, .int 0, .null, .null, .null, .null, .null] (fun j hj => by rcases (show j = 0 ∨ j = 1 ∨ j = 2 ∨ j = 3 ∨ j = 4 ∨ j = 5 ∨ j = 6 ∨ j = 7 ∨ j = 8 ∨ j = 9 ∨ j = 10 by omega) with rfl | rfl | rfl | rfl | rfl | rfl | rfl | rfl | rfl | rfl | rfl <;> rfl) (fm_t1 25 rfl rfl) (fm_t1 26 rfl rfl) (fm_t1 1 rfl rfl) ⟨Nat.le_of_ble_eq_true rfl, Nat.le_of_ble_eq_true rfl⟩ dL_law_0 (fun q1 H hw1 => ?_)
  refine lv_dup hx hb dL_law_3 rfl ?_
  refine cn_call (w0 := []) (wt := []) (wc := [(q1, .inr (9, [.null, .null, .null, .null, .null, .int 0, .null, .null, .null, .null, .null]))]) C hw1 mX9_init (ctor_X9 l D sa ca q1) ciX9 (Or.inl (fm_t1 27 rfl rfl)) (Nat.le_of_ble_eq_true rfl) ⟨Nat.le_of_ble_eq_true rfl, Nat.le_of_ble_eq_true rfl⟩ ⟨Nat.le_of_ble_eq_true rfl, Nat.le_of_ble_eq_true rfl⟩ hl.1 dL_law_4 (fun w9 H locs hq hw2 => ?_)
  obtain ⟨g, b0, rfl, hgw, hw9⟩ := hq
  rw [List.nil_append, List.nil_append] at hw2
  refine lv_astore_n (lv' := [(1, .ref (b0 0)), (0, .ref b)]) hx hb dL_law_7 rfl hl (by decide) rfl (fun ls hl => ?_)
  refine cn_new (w0 := []) (wt := w9) (ci := 10) (T := TX10) C hw2 fm_in10 tyX10 tyX10_ok rfl [.int 0, .null, .int 0, .null, .null, .null, .null, .null, .null, .null, .null, .null, .null, .null, .null, .null, .null, .int 0, .int 0, .int 0, .int 0, .int 0, .int 0, .int 0, .int 0, .int 0, .int 0, .int 0, .int 0, .int 0, .null, .null, .int 0, .null, .null, .null, .null, .null, .null, .null, .null, .int 0, .int 0, .int 0, .int 0, .int 0, .int 0, .int 0, .null, .null, .null, .null, .int 0, .int 0, .int 0, .int 0, .int 0, .null, .null, .null, .null] (fun j hj => by rcases (show j = 0 ∨ j = 1 ∨ j = 2 ∨ j = 3 ∨ j = 4 ∨ j = 5 ∨ j = 6 ∨ j = 7 ∨ j = 8 ∨ j = 9 ∨ j = 10 ∨ j = 11 ∨ j = 12 ∨ j = 13 ∨ j = 14 ∨ j = 15 ∨ j = 16 ∨ j = 17 ∨ j = 18 ∨ j = 19 ∨ j = 20 ∨ j = 21 ∨ j = 22 ∨ j = 23 ∨ j = 24 ∨ j = 25 ∨ j = 26 ∨ j = 27 ∨ j = 28 ∨ j = 29 ∨ j = 30 ∨ j = 31 ∨ j = 32 ∨ j = 33 ∨ j = 34 ∨ j = 35 ∨ j = 36 ∨ j = 37 ∨ j = 38 ∨ j = 39 ∨ j = 40 ∨ j = 41 ∨ j = 42 ∨ j = 43 ∨ j = 44 ∨ j = 45 ∨ j = 46 ∨ j = 47 ∨ j = 48 ∨ j = 49 ∨ j = 50 ∨ j = 51 ∨ j = 52 ∨ j = 53 ∨ j = 54 ∨ j = 55 ∨ j = 56 ∨ j = 57 ∨ j = 58 ∨ j = 59 ∨ j = 60 by omega) with rfl | rfl | rfl | rfl | rfl | rfl | rfl | rfl | rfl | rfl | rfl | rfl | rfl | rfl | rfl | rfl | rfl | rfl | rfl | rfl | rfl | rfl | rfl | rfl | rfl | rfl | rfl | rfl | rfl | rfl | rfl | rfl | rfl | rfl | rfl | rfl | rfl | rfl | rfl | rfl | rfl | rfl | rfl | rfl | rfl | rfl | rfl | rfl | rfl | rfl | rfl | rfl | rfl | rfl | rfl | rfl | rfl | rfl | rfl | rfl | rfl <;> rfl) (fm_t5 215 rfl rfl) (fm_t5 216 rfl rfl) (fm_t1 15 rfl rfl) ⟨Nat.le_of_ble_eq_true rfl, Nat.le_of_ble_eq_true rfl⟩ dL_law_8 (fun q2 H hw3 => ?_)
  refine lv_dup hx hb dL_law_11 rfl ?_
  rw [List.nil_append] at hw3
  refine cn_call (w0 := []) (wt := []) (wc := w9 ++ [(q2, .inr (10, [.int 0, .null, .int 0, .null, .null, .null, .null, .null, .null, .null, .null, .null, .null, .null, .null, .null, .null, .int 0, .int 0, .int 0, .int 0, .int 0, .int 0, .int 0, .int 0, .int 0, .int 0, .int 0, .int 0, .int 0, .null, .null, .int 0, .null, .null, .null, .null, .null, .null, .null, .null, .int 0, .int 0, .int 0, .int 0, .int 0, .int 0, .int 0, .null, .null, .null, .null, .int 0, .int 0, .int 0, .int 0, .int 0, .null, .null, .null, .null]))]) C hw3 mX10_init (ctor_X10 l D sa ca g hgw b0 w9 hw9 q2) ciX10 (Or.inl (fm_t5 217 rfl rfl)) (Nat.le_of_ble_eq_true rfl) ⟨Nat.le_of_ble_eq_true rfl, Nat.le_of_ble_eq_true rfl⟩ ⟨Nat.le_of_ble_eq_true rfl, Nat.le_of_ble_eq_true rfl⟩ hl.1 dL_law_12 (fun wf H locs hq hw4 => ?_)
  obtain ⟨ad, M, h0, rfl, hsa, hI, hwf⟩ := hq
  rw [List.nil_append, List.nil_append] at hw4
  refine lv_astore_n (lv' := [(2, .ref (ad 76)), (1, .ref (b0 0)), (0, .ref b)]) hx hb dL_law_15 rfl hl (by decide) rfl (fun ls hl => ?_)
  refine lv_iconst (v := 1) hx hb dL_law_16 (by decide) ?_
  refine cn_newa (w0 := []) (wt := wf) (ty := .long) (N := 1) (j := 1) (a0 := (1, .inr (.inl fun _ => 0))) C hw4 rfl (fm_t1 80 rfl rfl) rfl (fun z h1 h2 => Option.some.inj (h1.symm.trans h2)) (fun _ => rfl) (by decide) (by decide) (by decide) ⟨Nat.le_of_ble_eq_true rfl, Nat.le_of_ble_eq_true rfl⟩ dL_law_17 (fun qo H hw5 => ?_)
  refine lv_astore_n (lv' := [(3, .ref qo), (2, .ref (ad 76)), (1, .ref (b0 0)), (0, .ref b)]) hx hb dL_law_19 rfl hl (by decide) rfl (fun ls hl => ?_)
  refine lv_iconst (v := nI 0) hx hb dL_law_20 (by decide) ?_
  refine lv_istore (lv' := [(4, .int (nI 0)), (3, .ref qo), (2, .ref (ad 76)), (1, .ref (b0 0)), (0, .ref b)]) hx hb dL_law_21 hl (by decide) rfl (fun ls hl => ?_)
  rw [← h0] at hl
  rw [List.nil_append, hwf] at hw5
  have hw : cn_w s D A (fm_ws ad ca M ++ [(qo, lo_c ca (fun _ => 0))]) H locs := hw5
  have hF2 : fm_str ad A s s.heap := by
    unfold fm_str
    rw [hsa 1000 (by omega), hsa 1001 (by omega), hsa 1002 (by omega)]
    exact hF
  have hT2 : mo_tw ad A s s.heap := by
    unfold mo_tw
    rw [hsa 1003 (by omega), hsa 1004 (by omega)]
    exact hT
  have C2 : la_ok p s m c b L xs D ad ca A := ⟨⟨⟨hx, hb, hml, hown, hg⟩, hK, hA, hN, hF2⟩, hX, hbl, hAn b hbl, hL⟩
  have hla : la_w s D ad ca A qo (fun _ => 0) M H locs := ⟨lo_pre hw.1, hw.2.1, hw.2.2, lo_suf hw.1⟩
  refine W.widen (k := 1000 + 0) (n := 100000 + 0) (Nat.le_of_ble_eq_true rfl) (Nat.le_of_ble_eq_true rfl) ?_
  subst hAd
  exact la_loop hst hT2 hC C2 hr hlocks (L + 1) 0 (fun _ => 0) M H locs ls (Nat.zero_le _) (by omega) hI hla (lv_sub hl [4, 3, 2, 1, 0] rfl)
