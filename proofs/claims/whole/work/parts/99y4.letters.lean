/-! lettersOf: a word's letters as a number -/
def lt_step (acc : Int32) (j : Nat) : Int32 := (acc <<< ((5 : Int32) &&& 31)) ||| (if hs_chr j = 32 then 0 else hs_chr j - 97 + 1)
def lt_fold : Nat → Nat → Int32 → Int32
  | 0, _, acc => acc
  | n + 1, j, acc => lt_fold n (j + 1) (lt_step acc j)
def lt_w (w : Nat) : Int32 := lt_fold 6 (6 * w) 0
theorem lt_ok : ∀ w, w < 22 → lt_w w = nI (iv_words[w]?.getD 0) := by decide +kernel
set_option maxHeartbeats 4000000 in
theorem hs_letters (l : Launch) (sa : Nat → Nat) {w : Nat} (hw : w < 22) : hs_Met l 5 mX6_lettersOf sa [.int (nI w)] (some (.int (lt_w w))) := by
  refine hs_meet (by decide +kernel) (Nat.le_of_ble_eq_true rfl) ?_
  intro p e s m args below meth c ls C hls
  obtain ⟨⟨hx, hb, hml, hown, hg⟩, hr, hlk, hG⟩ := C
  have hl : lv_has ls 4 [(0, .int (nI w))] := by rw [hls]; exact lv_entry [.int (nI w)] (n := 4) (Nat.le_of_ble_eq_true rfl)
  have hS : va_S hs_no s.heap s.heap [] := va_S.rf
  have loop : ∀ (n j : Nat) (acc : Int32) (H : Heap) (locs : List Loc) (ls : Array Slot), j + n = 6 * w + 6 → lt_fold n j acc = lt_w w → lv_has ls 4 [(0, .int (nI w)), (1, .int acc), (2, .int (nI j))] → va_S hs_no s.heap H locs → W p l e (fm_room 5) s m args below meth c H locs 0 0 (MQ below (hs_Qc (some (.int (lt_w w)))) args s 0 0 hs_no) (F0 m 7 ls []) := by
    intro n
    induction n with
    | zero =>
      intro j acc H locs ls hj hf hl hS
      refine lv_iload_n hx hb dX6_lettersOf_7 rfl (lv_at hl 2 rfl) ?_
      refine lv_iload_n hx hb dX6_lettersOf_8 rfl (lv_at hl 0 rfl) ?_
      refine lv_iconst (v := 1) hx hb dX6_lettersOf_9 (by decide) ?_
      refine lv_iadd hx hb dX6_lettersOf_10 ?_
      refine lv_bipush (v := nI 6) hx hb dX6_lettersOf_11 (by decide) ?_
      refine lv_imul hx hb dX6_lettersOf_13 ?_
      refine lv_icmp_ge (tgt := 60) hx hb dX6_lettersOf_14 (by decide) (fun _ => ?_) (fun q => absurd (by rw [nI_1, pk_mul]; exact nI_le (by omega) (by omega)) q)
      refine lv_iload_n hx hb dX6_lettersOf_60 rfl (lv_at hl 1 rfl) ?_
      exact W.iret hx hb hr (fun t ht hW => ⟨by rw [show acc = lt_w w from hf], hS.F ht⟩) hS.2.2 dX6_lettersOf_61 hlk
    | succ n ih =>
      intro j acc H locs ls hj hf hl hS
      refine lv_iload_n hx hb dX6_lettersOf_7 rfl (lv_at hl 2 rfl) ?_
      refine lv_iload_n hx hb dX6_lettersOf_8 rfl (lv_at hl 0 rfl) ?_
      refine lv_iconst (v := 1) hx hb dX6_lettersOf_9 (by decide) ?_
      refine lv_iadd hx hb dX6_lettersOf_10 ?_
      refine lv_bipush (v := nI 6) hx hb dX6_lettersOf_11 (by decide) ?_
      refine lv_imul hx hb dX6_lettersOf_13 ?_
      refine lv_icmp_ge (tgt := 60) hx hb dX6_lettersOf_14 (by decide) (fun q => absurd q (by rw [nI_1, pk_mul]; exact nI_ge (by omega) (by omega))) (fun _ => ?_)
      refine lv_iload_n hx hb dX6_lettersOf_17 rfl (lv_at hl 2 rfl) ?_
      refine va_ldcS hx hb (own := "ForkCouncil$Reader") hown hG.2.2.2.2.1 dX6_lettersOf_18 ?_
      refine hs_callV (d := 2) ⟨hx, hb, hml, hown, hg⟩ hG hS mJ0_length_8abf5 [] rfl (hs_c_len l sa) cvJ0_length_8abf5 rfl nl_6_36 rfl (Nat.le_of_ble_eq_true rfl) ⟨Nat.le_of_ble_eq_true rfl, Nat.le_of_ble_eq_true rfl⟩ ⟨Nat.le_of_ble_eq_true rfl, Nat.le_of_ble_eq_true rfl⟩ hl.1 dX6_lettersOf_20 (fun H locs hS _ _ => ?_)
      refine lv_icmp_ge (tgt := 60) hx hb dX6_lettersOf_23 (by decide) (fun q => absurd q (nI_ge (b := 132) (show j < 132 by omega) (by omega))) (fun _ => ?_)
      refine va_ldcS hx hb (own := "ForkCouncil$Reader") hown hG.2.2.2.2.1 dX6_lettersOf_26 ?_
      refine lv_iload_n hx hb dX6_lettersOf_28 rfl (lv_at hl 2 rfl) ?_
      refine hs_callV (d := 3) ⟨hx, hb, hml, hown, hg⟩ hG hS mJ0_charAt_5068e [.int (nI j)] rfl (hs_c_at l sa (show j < 132 by omega)) cvJ0_charAt_5068e rfl nl_6_42 rfl (Nat.le_of_ble_eq_true rfl) ⟨Nat.le_of_ble_eq_true rfl, Nat.le_of_ble_eq_true rfl⟩ ⟨Nat.le_of_ble_eq_true rfl, Nat.le_of_ble_eq_true rfl⟩ hl.1 dX6_lettersOf_29 (fun H locs hS _ _ => ?_)
      refine lv_istore_n (lv' := [(3, .int (hs_chr j)), (0, .int (nI w)), (1, .int acc), (2, .int (nI j))]) hx hb dX6_lettersOf_32 rfl hl (by decide) rfl (fun ls hl => ?_)
      refine lv_iload_n hx hb dX6_lettersOf_33 rfl (lv_at hl 2 rfl) ?_
      refine lv_iconst (v := 5) hx hb dX6_lettersOf_34 (by decide) ?_
      refine lv_ishl hx hb dX6_lettersOf_35 ?_
      refine lv_iload_n hx hb dX6_lettersOf_36 rfl (lv_at hl 0 rfl) ?_
      refine lv_bipush (v := 32) hx hb dX6_lettersOf_37 (by decide) ?_
      have fin : ∀ t : Int32, t = (if hs_chr j = 32 then 0 else hs_chr j - 97 + 1) → W p l e (fm_room 5) s m args below meth c H locs 0 0 (MQ below (hs_Qc (some (.int (lt_w w)))) args s 0 0 hs_no) (F0 m 52 ls [.int t, .int (acc <<< ((5 : Int32) &&& 31))]) := by
        intro t ht
        refine lv_ior hx hb dX6_lettersOf_52 ?_
        rw [ht, show (acc <<< ((5 : Int32) &&& 31)) ||| (if hs_chr j = 32 then 0 else hs_chr j - 97 + 1) = lt_step acc j from rfl]
        refine lv_istore_n (lv' := [(1, .int (lt_step acc j)), (3, .int (hs_chr j)), (0, .int (nI w)), (2, .int (nI j))]) hx hb dX6_lettersOf_53 rfl hl (by decide) rfl (fun ls hl => ?_)
        refine lv_iinc (v := nI (j + 1)) (lv' := [(2, .int (nI (j + 1))), (1, .int (lt_step acc j)), (3, .int (hs_chr j)), (0, .int (nI w))]) hx hb dX6_lettersOf_54 hl (k := 3) rfl (by first | exact nI_1 j | exact (nI_1 j).symm) (by decide) rfl (fun ls hl => ?_)
        refine lv_goto (tgt := 7) hx hb dX6_lettersOf_57 (by decide) ?_
        exact ih (j + 1) (lt_step acc j) H locs ls (by omega) hf (lv_sub hl [3, 1, 0] rfl) hS
      refine lv_icmp_ne (tgt := 46) hx hb dX6_lettersOf_39 (by decide) (fun q => ?_) (fun q => ?_)
      · refine lv_iload_n hx hb dX6_lettersOf_46 rfl (lv_at hl 0 rfl) ?_
        refine lv_bipush (v := 97) hx hb dX6_lettersOf_47 (by decide) ?_
        refine lv_isub hx hb dX6_lettersOf_49 ?_
        refine lv_iconst (v := 1) hx hb dX6_lettersOf_50 (by decide) ?_
        refine lv_iadd hx hb dX6_lettersOf_51 ?_
        exact fin _ (by rw [if_neg q])
      · refine lv_iconst (v := 0) hx hb dX6_lettersOf_42 (by decide) ?_
        refine lv_goto (tgt := 52) hx hb dX6_lettersOf_43 (by decide) ?_
        exact fin 0 (by rw [if_pos q])
  refine lv_iconst (v := 0) hx hb dX6_lettersOf_0 (by decide) ?_
  refine lv_istore_n (lv' := [(1, .int 0), (0, .int (nI w))]) hx hb dX6_lettersOf_1 rfl hl (by decide) rfl (fun ls hl => ?_)
  refine lv_iload_n hx hb dX6_lettersOf_2 rfl (lv_at hl 1 rfl) ?_
  refine lv_bipush (v := nI 6) hx hb dX6_lettersOf_3 (by decide) ?_
  refine lv_imul hx hb dX6_lettersOf_5 ?_
  rw [pk_mul]
  refine lv_istore_n (lv' := [(2, .int (nI (w * 6))), (1, .int 0), (0, .int (nI w))]) hx hb dX6_lettersOf_6 rfl hl (by decide) rfl (fun ls hl => ?_)
  exact loop 6 (w * 6) 0 _ _ ls (by omega) (by rw [Nat.mul_comm]; rfl) (lv_sub hl [2, 1, 0] rfl) hS
