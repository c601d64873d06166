abbrev W_X10_isWord  : Nat → Nat → Prop := fm_W []
theorem fr_X10_isWord (a1 : Int32) (M : fm_M) : fm_Fr (W_X10_isWord) M (F_X10_isWord a1 M) := by
  rw [F_X10_isWord]
  refine fr_it ?_ ?_
  · refine fr_it ?_ ?_
    · refine fr_it ?_ ?_
      · exact fr_some
      · exact fr_some
    · exact fr_some
  · exact fr_some
abbrev W_X10_isSign  : Nat → Nat → Prop := fm_W []
theorem fr_X10_isSign (a1 : Int32) (M : fm_M) : fm_Fr (W_X10_isSign) M (F_X10_isSign a1 M) := by
  rw [F_X10_isSign]
  refine fr_it ?_ ?_
  · refine fr_it ?_ ?_
    · refine fr_it ?_ ?_
      · exact fr_some
      · exact fr_some
    · exact fr_some
  · exact fr_some
abbrev W_X10_goOn  : Nat → Nat → Prop := fm_W [(76, some 20), (76, some 21), (76, some 22), (76, some 23)]
theorem fr_X10_goOn  (M : fm_M) : fm_Fr (W_X10_goOn) M (F_X10_goOn  M) := by
  rw [F_X10_goOn]
  refine fr_it ?_ ?_
  · refine fr_bd (fr_mono (fr_X10_token  _) (fm_Wsub [0, 1, 2, 3] rfl)) (fun v1 M2 => ?_)
    exact fr_some
  · exact fr_some
abbrev W_X10_numeral  : Nat → Nat → Prop := fm_W [(76, some 20), (76, some 21), (76, some 22), (76, some 23), (76, some 24), (76, some 25)]
theorem frJ_X10_numeral_46  (l1 : Int32) (l2 : Int32) (M : fm_M) : fm_Fr (W_X10_numeral) M (J_X10_numeral_46 l1 l2 M) := by
  rw [J_X10_numeral_46]
  refine fr_it ?_ ?_
  · refine fr_lt (fun x3 => ?_)
    refine fr_bd (fr_mono (fr_X10_token  _) (fm_Wsub [0, 1, 2, 3] rfl)) (fun v4 M5 => ?_)
    exact fr_some
  · exact fr_some
theorem frJ_X10_numeral_41  (l1 : Int32) (l2 : Int32) (M : fm_M) : fm_Fr (W_X10_numeral) M (J_X10_numeral_41 l1 l2 M) := by
  rw [J_X10_numeral_41]
  refine fr_bd (fr_mono (fr_X10_wrong _ _) (fm_Wsub [4, 5] rfl)) (fun v1 M2 => ?_)
  exact frJ_X10_numeral_46  _ _ _
theorem fr_X10_numeral (a1 : Int32) (a2 : Int32) (M : fm_M) : fm_Fr (W_X10_numeral) M (F_X10_numeral a1 a2 M) := by
  rw [F_X10_numeral]
  refine fr_it ?_ ?_
  · refine fr_it ?_ ?_
    · refine fr_it ?_ ?_
      · exact frJ_X10_numeral_41  _ _ _
      · refine fr_it ?_ ?_
        · exact frJ_X10_numeral_46  _ _ _
        · exact frJ_X10_numeral_41  _ _ _
    · refine fr_bd (fr_mono (fr_X10_wrong _ _) (fm_Wsub [4, 5] rfl)) (fun v6 M7 => ?_)
      exact frJ_X10_numeral_46  _ _ _
  · exact fr_some
abbrev W_X10_found (a0 : Nat) : Nat → Nat → Prop := fm_W []
theorem frG_X10_found_3 (a0 : Nat) : ∀ (n : Nat) (n0 : Nat) (l1 : Int32) (l2 : Int32) (l3 : Int32) (l4 : Int32) (M : fm_M), fm_Fr (W_X10_found a0) M (G_X10_found_3 n a0 n0 l1 l2 l3 l4 M) := by
  intro n
  induction n with
  | zero => intro n0 l1 l2 l3 l4 M; simp only [G_X10_found_3]; exact fr_none
  | succ n ih0 =>
    intro n0 l1 l2 l3 l4 M
    have ih := ih0 n0 l1 l2 l3
    rw [G_X10_found_3]
    refine fr_it ?_ ?_
    · exact fr_some
    · refine fr_gdh (fun g1 => ?_)
      refine fr_it ?_ ?_
      · exact fr_some
      · exact ih _ _
theorem fr_X10_found (a0 : Nat) (a1 : Int32) (a2 : Int32) (a3 : Int32) (M : fm_M) : fm_Fr (W_X10_found a0) M (F_X10_found a0 a1 a2 a3 M) := by
  rw [F_X10_found]
  refine fr_bn (fun n0 => ?_)
  refine fr_bs (frG_X10_found_3 _ _ _ _ _ _ _ _) (fun w2 M3 => ?_) (fun _ _ => fr_some)
  exact fr_some
abbrev W_X10_fresh (a1 : Nat) : Nat → Nat → Prop := fm_W [(76, some 20), (76, some 21), (76, some 22), (76, some 23), (76, some 24), (76, some 25)]
theorem frJ_X10_fresh_44 (a1 : Nat) (n1 : Nat) (l2 : Int32) (l3 : Int32) (M : fm_M) : fm_Fr (W_X10_fresh a1) M (J_X10_fresh_44 a1 n1 l2 l3 M) := by
  rw [J_X10_fresh_44]
  refine fr_it ?_ ?_
  · refine fr_lt (fun x3 => ?_)
    refine fr_bd (fr_mono (fr_X10_token  _) (fm_Wsub [0, 1, 2, 3] rfl)) (fun v4 M5 => ?_)
    exact fr_some
  · exact fr_some
theorem fr_X10_fresh (a1 : Nat) (a2 : Int32) (a3 : Int32) (M : fm_M) : fm_Fr (W_X10_fresh a1) M (F_X10_fresh a1 a2 a3 M) := by
  rw [F_X10_fresh]
  refine fr_bn (fun n1 => ?_)
  refine fr_it ?_ ?_
  · refine fr_it ?_ ?_
    · refine fr_bd (fr_mono (fr_X10_found _ _ _ _ _) (fm_Wsub [] rfl)) (fun v1 M2 => ?_)
      refine fr_it ?_ ?_
      · exact frJ_X10_fresh_44 _ _ _ _ _
      · refine fr_bd (fr_mono (fr_X10_wrong _ _) (fm_Wsub [4, 5] rfl)) (fun v6 M7 => ?_)
        exact frJ_X10_fresh_44 _ _ _ _ _
    · refine fr_bd (fr_mono (fr_X10_wrong _ _) (fm_Wsub [4, 5] rfl)) (fun v8 M9 => ?_)
      exact frJ_X10_fresh_44 _ _ _ _ _
  · exact fr_some
abbrev W_X10_fresher  : Nat → Nat → Prop := fm_W []
theorem fr_X10_fresher (a1 : Int32) (M : fm_M) : fm_Fr (W_X10_fresher) M (F_X10_fresher a1 M) := by
  rw [F_X10_fresher]
  refine fr_gdh (fun g1 => ?_)
  exact fr_some
abbrev W_X10_reads  : Nat → Nat → Prop := fm_W [(78, none)]
theorem fr_X10_reads (a1 : Int32) (a2 : Int32) (M : fm_M) : fm_Fr (W_X10_reads) M (F_X10_reads a1 a2 M) := by
  rw [F_X10_reads]
  refine fr_gdh (fun g1 => ?_)
  refine fr_up (fm_Wi 0 rfl) (fun M2 => ?_)
  exact fr_some
abbrev W_X10_isFull  : Nat → Nat → Prop := fm_W []
theorem frJ_X10_isFull_29  (l1 : Int32) (M : fm_M) : fm_Fr (W_X10_isFull) M (J_X10_isFull_29 l1 M) := by
  rw [J_X10_isFull_29]
  refine fr_it ?_ ?_
  · refine fr_bd (fr_mono (fr_X10_fresher _ _) (fm_Wsub [] rfl)) (fun v1 M2 => ?_)
    refine fr_it ?_ ?_
    · exact fr_some
    · exact fr_some
  · exact fr_some
theorem frJ_X10_isFull_14  (l1 : Int32) (M : fm_M) : fm_Fr (W_X10_isFull) M (J_X10_isFull_14 l1 M) := by
  rw [J_X10_isFull_14]
  refine fr_it ?_ ?_
  · refine fr_bd (fr_mono (fr_X10_fresher _ _) (fm_Wsub [] rfl)) (fun v3 M4 => ?_)
    refine fr_it ?_ ?_
    · exact fr_some
    · exact frJ_X10_isFull_29  _ _
  · exact frJ_X10_isFull_29  _ _
theorem fr_X10_isFull (a1 : Int32) (M : fm_M) : fm_Fr (W_X10_isFull) M (F_X10_isFull a1 M) := by
  rw [F_X10_isFull]
  refine fr_it ?_ ?_
  · refine fr_bd (fr_mono (fr_X10_fresher _ _) (fm_Wsub [] rfl)) (fun v5 M6 => ?_)
    refine fr_it ?_ ?_
    · exact fr_some
    · exact frJ_X10_isFull_14  _ _
  · exact frJ_X10_isFull_14  _ _
abbrev W_X10_isOnce  : Nat → Nat → Prop := fm_W []
theorem fr_X10_isOnce (a0 : Int32) (M : fm_M) : fm_Fr (W_X10_isOnce) M (F_X10_isOnce a0 M) := by
  rw [F_X10_isOnce]
  refine fr_it ?_ ?_
  · exact fr_some
  · refine fr_it ?_ ?_
    · exact fr_some
    · refine fr_it ?_ ?_
      · exact fr_some
      · exact fr_some
abbrev W_X10_crackLine  : Nat → Nat → Prop := fm_W [(76, some 20), (76, some 21), (76, some 22), (76, some 23), (76, some 24), (76, some 25), (78, none)]
theorem frJ_X10_crackLine_89  (l1 : Int32) (M : fm_M) : fm_Fr (W_X10_crackLine) M (J_X10_crackLine_89 l1 M) := by
  rw [J_X10_crackLine_89]
  refine fr_bd (fr_mono (fr_X10_goOn  _) (fm_Wsub [0, 1, 2, 3] rfl)) (fun v1 M2 => ?_)
  refine fr_it ?_ ?_
  · refine fr_bd (fr_mono (fr_X10_fresher _ _) (fm_Wsub [] rfl)) (fun v3 M4 => ?_)
    refine fr_bd (fr_mono (fr_X10_reads _ _ _) (fm_Wsub [6] rfl)) (fun v5 M6 => ?_)
    exact fr_some
  · exact fr_some
theorem frJ_X10_crackLine_63  (l1 : Int32) (M : fm_M) : fm_Fr (W_X10_crackLine) M (J_X10_crackLine_63 l1 M) := by
  rw [J_X10_crackLine_63]
  refine fr_it ?_ ?_
  · refine fr_bd (fr_mono (fr_X10_fresher _ _) (fm_Wsub [] rfl)) (fun v7 M8 => ?_)
    refine fr_it ?_ ?_
    · refine fr_bd (fr_mono (fr_X10_wrong _ _) (fm_Wsub [4, 5] rfl)) (fun v9 M10 => ?_)
      exact frJ_X10_crackLine_89  _ _
    · exact frJ_X10_crackLine_89  _ _
  · exact frJ_X10_crackLine_89  _ _
theorem frJ_X10_crackLine_42  (s0 : Int32) (M : fm_M) : fm_Fr (W_X10_crackLine) M (J_X10_crackLine_42 s0 M) := by
  rw [J_X10_crackLine_42]
  refine fr_it ?_ ?_
  · refine fr_it ?_ ?_
    · refine fr_bd (fr_mono (fr_X10_wrong _ _) (fm_Wsub [4, 5] rfl)) (fun v11 M12 => ?_)
      exact frJ_X10_crackLine_89  _ _
    · exact frJ_X10_crackLine_63  _ _
  · exact frJ_X10_crackLine_63  _ _
theorem frJ_X10_crackLine_13   (M : fm_M) : fm_Fr (W_X10_crackLine) M (J_X10_crackLine_13 M) := by
  rw [J_X10_crackLine_13]
  refine fr_it ?_ ?_
  · refine fr_bd (fr_mono (fr_X10_fresher _ _) (fm_Wsub [] rfl)) (fun v13 M14 => ?_)
    refine fr_bd (fr_mono (fr_X10_found _ _ _ _ _) (fm_Wsub [] rfl)) (fun v15 M16 => ?_)
    exact frJ_X10_crackLine_42  _ _
  · exact frJ_X10_crackLine_42  _ _
theorem fr_X10_crackLine  (M : fm_M) : fm_Fr (W_X10_crackLine) M (F_X10_crackLine  M) := by
  rw [F_X10_crackLine]
  refine fr_it ?_ ?_
  · exact frJ_X10_crackLine_13   _
  · refine fr_bd (fr_mono (fr_X10_wrong _ _) (fm_Wsub [4, 5] rfl)) (fun v17 M18 => ?_)
    exact frJ_X10_crackLine_13   _
abbrev W_X10_knot  : Nat → Nat → Prop := fm_W [(76, some 24), (76, some 25), (76, some 29)]
theorem fr_X10_knot  (M : fm_M) : fm_Fr (W_X10_knot) M (F_X10_knot  M) := by
  rw [F_X10_knot]
  refine fr_it ?_ ?_
  · refine fr_it ?_ ?_
    · refine fr_bd (fr_mono (fr_X10_wrong _ _) (fm_Wsub [0, 1] rfl)) (fun v2 M3 => ?_)
      exact fr_some
    · refine fr_up (fm_Wf 2 rfl) (fun M1 => ?_)
      exact fr_some
  · exact fr_some
abbrev W_X10_puts  : Nat → Nat → Prop := fm_W [(78, none), (90, none), (91, none)]
theorem fr_X10_puts (a1 : Int32) (a2 : Int32) (M : fm_M) : fm_Fr (W_X10_puts) M (F_X10_puts a1 a2 M) := by
  rw [F_X10_puts]
  refine fr_it ?_ ?_
  · refine fr_bd (fr_mono (fr_X10_fresher _ _) (fm_Wsub [] rfl)) (fun v1 M2 => ?_)
    refine fr_gdh (fun g3 => ?_)
    refine fr_up (fm_Wi 1 rfl) (fun M4 => ?_)
    refine fr_bd (fr_mono (fr_X10_fresher _ _) (fm_Wsub [] rfl)) (fun v5 M6 => ?_)
    refine fr_gdh (fun g7 => ?_)
    refine fr_up (fm_Wi 2 rfl) (fun M8 => ?_)
    refine fr_bd (fr_mono (fr_X10_fresher _ _) (fm_Wsub [] rfl)) (fun v9 M10 => ?_)
    refine fr_bd (fr_mono (fr_X10_reads _ _ _) (fm_Wsub [0] rfl)) (fun v11 M12 => ?_)
    exact fr_some
  · exact fr_some
abbrev W_X10_half (a0 : Nat) : Nat → Nat → Prop := fm_W [(a0, none)]
theorem frG_X10_half_7 (a0 : Nat) : ∀ (n : Nat) (n0 : Nat) (l1 : Int32) (l2 : Int32) (M : fm_M), fm_Fr (W_X10_half a0) M (G_X10_half_7 n a0 n0 l1 l2 M) := by
  intro n
  induction n with
  | zero => intro n0 l1 l2 M; simp only [G_X10_half_7]; exact fr_none
  | succ n ih0 =>
    intro n0 l1 l2 M
    have ih := ih0 n0 l1
    rw [G_X10_half_7]
    refine fr_it ?_ ?_
    · exact fr_some
    · refine fr_gdh (fun g2 => ?_)
      refine fr_gdh (fun g3 => ?_)
      refine fr_up (fm_Wi 0 rfl) (fun M4 => ?_)
      exact ih _ _
theorem fr_X10_half (a0 : Nat) (M : fm_M) : fm_Fr (W_X10_half a0) M (F_X10_half a0 M) := by
  rw [F_X10_half]
  refine fr_bn (fun n0 => ?_)
  refine fr_lt (fun x1 => ?_)
  refine fr_bd (frG_X10_half_7 _ _ _ _ _ _) (fun w5 M6 => ?_)
  exact fr_some
abbrev W_X10_starts  : Nat → Nat → Prop := fm_W [(100, none), (101, none), (94, none), (95, none), (96, none), (97, none), (98, none), (99, none)]
theorem frG_X10_starts_35  : ∀ (n : Nat)  (l1 : Int32) (l2 : Int32) (M : fm_M), fm_Fr (W_X10_starts) M (G_X10_starts_35 n l1 l2 M) := by
  intro n
  induction n with
  | zero => intro l1 l2 M; simp only [G_X10_starts_35]; exact fr_none
  | succ n ih0 =>
    intro l1 l2 M
    have ih := ih0 l1
    rw [G_X10_starts_35]
    refine fr_it ?_ ?_
    · exact fr_some
    · refine fr_gdh (fun g10 => ?_)
      refine fr_it ?_ ?_
      · refine fr_gdh (fun g11 => ?_)
        refine fr_up (fm_Wi 6 rfl) (fun M12 => ?_)
        exact ih _ _
      · refine fr_gdh (fun g13 => ?_)
        refine fr_gdh (fun g14 => ?_)
        refine fr_up (fm_Wi 6 rfl) (fun M15 => ?_)
        exact ih _ _
theorem frJ_X10_starts_116  (rec : Int32 → fm_M → Option ((Int32) × fm_M)) (ih : ∀ (l2 : Int32) (M : fm_M), fm_Fr (W_X10_starts) M (rec l2 M)) (l1 : Int32) (l2 : Int32) (s1 : Int32) (s2 : Int32) (M : fm_M) : fm_Fr (W_X10_starts) M (J_X10_starts_116 rec l1 l2 s1 s2 M) := by
  rw [J_X10_starts_116]
  refine fr_gdh (fun g19 => ?_)
  refine fr_up (fm_Wi 7 rfl) (fun M20 => ?_)
  refine fr_gdh (fun g21 => ?_)
  refine fr_up (fm_Wi 0 rfl) (fun M22 => ?_)
  refine fr_gdh (fun g23 => ?_)
  refine fr_up (fm_Wi 1 rfl) (fun M24 => ?_)
  exact ih _ _
theorem frG_X10_starts_80  : ∀ (n : Nat)  (l1 : Int32) (l2 : Int32) (M : fm_M), fm_Fr (W_X10_starts) M (G_X10_starts_80 n l1 l2 M) := by
  intro n
  induction n with
  | zero => intro l1 l2 M; simp only [G_X10_starts_80]; exact fr_none
  | succ n ih0 =>
    intro l1 l2 M
    have ih := ih0 l1
    rw [G_X10_starts_80]
    refine fr_it ?_ ?_
    · exact fr_some
    · refine fr_gdh (fun g18 => ?_)
      refine fr_it ?_ ?_
      · exact frJ_X10_starts_116  _ (fun y0 y1 => ih y0 y1) _ _ _ _ _
      · refine fr_gdh (fun g25 => ?_)
        exact frJ_X10_starts_116  _ (fun y0 y1 => ih y0 y1) _ _ _ _ _
theorem fr_X10_starts (a1 : Int32) (M : fm_M) : fm_Fr (W_X10_starts) M (F_X10_starts a1 M) := by
  rw [F_X10_starts]
  refine fr_gdh (fun g1 => ?_)
  refine fr_up (fm_Wi 2 rfl) (fun M2 => ?_)
  refine fr_gdh (fun g3 => ?_)
  refine fr_gdh (fun g4 => ?_)
  refine fr_up (fm_Wi 3 rfl) (fun M5 => ?_)
  refine fr_gdh (fun g6 => ?_)
  refine fr_up (fm_Wi 4 rfl) (fun M7 => ?_)
  refine fr_gdh (fun g8 => ?_)
  refine fr_up (fm_Wi 5 rfl) (fun M9 => ?_)
  refine fr_bd (frG_X10_starts_35  _ _ _ _) (fun w16 M17 => ?_)
  refine fr_bd (frG_X10_starts_80  _ _ _ _) (fun w26 M27 => ?_)
  exact fr_some
abbrev W_X10_begins  : Nat → Nat → Prop := fm_W [(100, none), (101, none), (94, none), (95, none), (96, none), (97, none), (98, none), (99, none)]
theorem fr_X10_begins  (M : fm_M) : fm_Fr (W_X10_begins) M (F_X10_begins  M) := by
  rw [F_X10_begins]
  refine fr_bd (fr_mono (fr_X10_starts _ _) (fm_Wsub [0, 1, 2, 3, 4, 5, 6, 7] rfl)) (fun v1 M2 => ?_)
  exact fr_some
abbrev W_X10_fault  : Nat → Nat → Prop := fm_W [(76, some 0)]
theorem fr_X10_fault (a1 : Int32) (M : fm_M) : fm_Fr (W_X10_fault) M (F_X10_fault a1 M) := by
  rw [F_X10_fault]
  refine fr_up (fm_Wf 0 rfl) (fun M1 => ?_)
  refine fr_it ?_ ?_
  · exact fr_some
  · refine fr_it ?_ ?_
    · exact fr_some
    · exact fr_some
abbrev W_X10_named  : Nat → Nat → Prop := fm_W [(76, some 0)]
theorem fr_X10_named (a1 : Int32) (a2 : Int32) (M : fm_M) : fm_Fr (W_X10_named) M (F_X10_named a1 a2 M) := by
  rw [F_X10_named]
  refine fr_up (fm_Wf 0 rfl) (fun M1 => ?_)
  refine fr_it ?_ ?_
  · refine fr_gdh (fun g2 => ?_)
    refine fr_bd (fr_mono (fr_X10_found _ _ _ _ _) (fm_Wsub [] rfl)) (fun v3 M4 => ?_)
    exact fr_some
  · refine fr_it ?_ ?_
    · refine fr_gdh (fun g5 => ?_)
      refine fr_bd (fr_mono (fr_X10_found _ _ _ _ _) (fm_Wsub [] rfl)) (fun v6 M7 => ?_)
      exact fr_some
    · exact fr_some
abbrev W_X10_is  : Nat → Nat → Prop := fm_W []
theorem fr_X10_is (a0 : Int32) (M : fm_M) : fm_Fr (W_X10_is) M (F_X10_is a0 M) := by
  rw [F_X10_is]
  refine fr_it ?_ ?_
  · exact fr_some
  · exact fr_some
abbrev W_X10_works  : Nat → Nat → Prop := fm_W [(76, some 32)]
theorem frJ_X10_works_407  (l1 : Int32) (l2 : Int64) (l4 : Int64) (l6 : Int64) (M : fm_M) : fm_Fr (W_X10_works) M (J_X10_works_407 l1 l2 l4 l6 M) := by
  rw [J_X10_works_407]
  refine fr_gdh (fun g7 => ?_)
  refine fr_upL (fun M8 => ?_)
  refine fr_it ?_ ?_
  · exact fr_some
  · refine fr_it ?_ ?_
    · exact fr_some
    · exact fr_some
theorem frJ_X10_works_212  (l1 : Int32) (l2 : Int64) (l4 : Int64) (M : fm_M) : fm_Fr (W_X10_works) M (J_X10_works_212 l1 l2 l4 M) := by
  rw [J_X10_works_212]
  refine fr_lt (fun x6 => ?_)
  exact frJ_X10_works_407  _ _ _ _ _
theorem frJ_X10_works_250  (l1 : Int32) (l2 : Int64) (l4 : Int64) (s0 : Int32) (M : fm_M) : fm_Fr (W_X10_works) M (J_X10_works_250 l1 l2 l4 s0 M) := by
  rw [J_X10_works_250]
  refine fr_bd (fr_mono (fr_X10_is _ _) (fm_Wsub [] rfl)) (fun v14 M15 => ?_)
  exact frJ_X10_works_407  _ _ _ _ _
theorem frJ_X10_works_290  (l1 : Int32) (l2 : Int64) (l4 : Int64) (s0 : Int32) (M : fm_M) : fm_Fr (W_X10_works) M (J_X10_works_290 l1 l2 l4 s0 M) := by
  rw [J_X10_works_290]
  refine fr_bd (fr_mono (fr_X10_is _ _) (fm_Wsub [] rfl)) (fun v16 M17 => ?_)
  exact frJ_X10_works_407  _ _ _ _ _
theorem frJ_X10_works_270  (l1 : Int32) (l2 : Int64) (l4 : Int64) (s0 : Int32) (M : fm_M) : fm_Fr (W_X10_works) M (J_X10_works_270 l1 l2 l4 s0 M) := by
  rw [J_X10_works_270]
  refine fr_bd (fr_mono (fr_X10_is _ _) (fm_Wsub [] rfl)) (fun v18 M19 => ?_)
  exact frJ_X10_works_407  _ _ _ _ _
theorem frJ_X10_works_310  (l1 : Int32) (l2 : Int64) (l4 : Int64) (s0 : Int32) (M : fm_M) : fm_Fr (W_X10_works) M (J_X10_works_310 l1 l2 l4 s0 M) := by
  rw [J_X10_works_310]
  refine fr_bd (fr_mono (fr_X10_is _ _) (fm_Wsub [] rfl)) (fun v20 M21 => ?_)
  exact frJ_X10_works_407  _ _ _ _ _
theorem frJ_X10_works_350  (l1 : Int32) (l2 : Int64) (l4 : Int64) (s0 : Int32) (M : fm_M) : fm_Fr (W_X10_works) M (J_X10_works_350 l1 l2 l4 s0 M) := by
  rw [J_X10_works_350]
  refine fr_bd (fr_mono (fr_X10_is _ _) (fm_Wsub [] rfl)) (fun v22 M23 => ?_)
  exact frJ_X10_works_407  _ _ _ _ _
theorem frJ_X10_works_330  (l1 : Int32) (l2 : Int64) (l4 : Int64) (s0 : Int32) (M : fm_M) : fm_Fr (W_X10_works) M (J_X10_works_330 l1 l2 l4 s0 M) := by
  rw [J_X10_works_330]
  refine fr_bd (fr_mono (fr_X10_is _ _) (fm_Wsub [] rfl)) (fun v24 M25 => ?_)
  exact frJ_X10_works_407  _ _ _ _ _
theorem frJ_X10_works_376  (l1 : Int32) (l2 : Int64) (l4 : Int64) (s0 : Int32) (M : fm_M) : fm_Fr (W_X10_works) M (J_X10_works_376 l1 l2 l4 s0 M) := by
  rw [J_X10_works_376]
  refine fr_bd (fr_mono (fr_X10_is _ _) (fm_Wsub [] rfl)) (fun v26 M27 => ?_)
  exact frJ_X10_works_407  _ _ _ _ _
theorem frJ_X10_works_375  (l1 : Int32) (l2 : Int64) (l4 : Int64) (M : fm_M) : fm_Fr (W_X10_works) M (J_X10_works_375 l1 l2 l4 M) := by
  rw [J_X10_works_375]
  exact frJ_X10_works_376  _ _ _ _ _
theorem frJ_X10_works_402  (l1 : Int32) (l2 : Int64) (l4 : Int64) (s0 : Int32) (M : fm_M) : fm_Fr (W_X10_works) M (J_X10_works_402 l1 l2 l4 s0 M) := by
  rw [J_X10_works_402]
  refine fr_bd (fr_mono (fr_X10_is _ _) (fm_Wsub [] rfl)) (fun v28 M29 => ?_)
  exact frJ_X10_works_407  _ _ _ _ _
theorem frJ_X10_works_397  (l1 : Int32) (l2 : Int64) (l4 : Int64) (M : fm_M) : fm_Fr (W_X10_works) M (J_X10_works_397 l1 l2 l4 M) := by
  rw [J_X10_works_397]
  exact frJ_X10_works_402  _ _ _ _ _
theorem fr_X10_works (a1 : Int32) (M : fm_M) : fm_Fr (W_X10_works) M (F_X10_works a1 M) := by
  rw [F_X10_works]
  refine fr_gdh (fun g1 => ?_)
  refine fr_lt (fun x2 => ?_)
  refine fr_it ?_ ?_
  · refine fr_it ?_ ?_
    · refine fr_bd (fr_mono (fr_X10_is _ _) (fm_Wsub [] rfl)) (fun v34 M35 => ?_)
      refine fr_gdh (fun g36 => ?_)
      refine fr_upL (fun M37 => ?_)
      exact fr_some
    · refine fr_bd (fr_mono (fr_X10_is _ _) (fm_Wsub [] rfl)) (fun v30 M31 => ?_)
      refine fr_gdh (fun g32 => ?_)
      refine fr_upL (fun M33 => ?_)
      exact fr_some
  · refine fr_gdh (fun g3 => ?_)
    refine fr_lt (fun x4 => ?_)
    refine fr_up (fm_Wf 0 rfl) (fun M5 => ?_)
    refine fr_it ?_ ?_
    · refine fr_it ?_ ?_
      · exact frJ_X10_works_212  _ _ _ _
      · refine fr_gdh (fun g9 => ?_)
        refine fr_it ?_ ?_
        · exact frJ_X10_works_212  _ _ _ _
        · exact fr_some
    · refine fr_it ?_ ?_
      · refine fr_lt (fun x10 => ?_)
        exact frJ_X10_works_407  _ _ _ _ _
      · refine fr_it ?_ ?_
        · refine fr_lt (fun x11 => ?_)
          exact frJ_X10_works_407  _ _ _ _ _
        · refine fr_it ?_ ?_
          · refine fr_it ?_ ?_
            · exact fr_some
            · refine fr_gdh (fun g12 => ?_)
              refine fr_lt (fun x13 => ?_)
              exact frJ_X10_works_407  _ _ _ _ _
          · refine fr_it ?_ ?_
            · refine fr_it ?_ ?_
              · exact frJ_X10_works_250  _ _ _ _ _
              · exact frJ_X10_works_250  _ _ _ _ _
            · refine fr_it ?_ ?_
              · refine fr_it ?_ ?_
                · exact frJ_X10_works_290  _ _ _ _ _
                · exact frJ_X10_works_290  _ _ _ _ _
              · refine fr_it ?_ ?_
                · refine fr_it ?_ ?_
                  · exact frJ_X10_works_270  _ _ _ _ _
                  · exact frJ_X10_works_270  _ _ _ _ _
                · refine fr_it ?_ ?_
                  · refine fr_it ?_ ?_
                    · exact frJ_X10_works_310  _ _ _ _ _
                    · exact frJ_X10_works_310  _ _ _ _ _
                  · refine fr_it ?_ ?_
                    · refine fr_it ?_ ?_
                      · exact frJ_X10_works_350  _ _ _ _ _
                      · exact frJ_X10_works_350  _ _ _ _ _
                    · refine fr_it ?_ ?_
                      · refine fr_it ?_ ?_
                        · exact frJ_X10_works_330  _ _ _ _ _
                        · exact frJ_X10_works_330  _ _ _ _ _
                      · refine fr_it ?_ ?_
                        · refine fr_it ?_ ?_
                          · exact frJ_X10_works_375  _ _ _ _
                          · refine fr_it ?_ ?_
                            · exact frJ_X10_works_375  _ _ _ _
                            · exact frJ_X10_works_376  _ _ _ _ _
                        · refine fr_it ?_ ?_
                          · refine fr_it ?_ ?_
                            · exact frJ_X10_works_402  _ _ _ _ _
                            · exact frJ_X10_works_397  _ _ _ _
                          · exact frJ_X10_works_397  _ _ _ _
abbrev W_X10_goes  : Nat → Nat → Prop := fm_W [(76, some 32)]
theorem frJ_X10_goes_85  (rec : Int32 → fm_M → Option (((Int32) ⊕ Int32) × fm_M)) (ih : ∀ (l2 : Int32) (M : fm_M), fm_Fr (W_X10_goes) M (rec l2 M)) (l1 : Int32) (l2 : Int32) (s1 : Int32) (s2 : Int64) (M : fm_M) : fm_Fr (W_X10_goes) M (J_X10_goes_85 rec l1 l2 s1 s2 M) := by
  rw [J_X10_goes_85]
  refine fr_gdh (fun g9 => ?_)
  refine fr_upL (fun M10 => ?_)
  refine fr_up (fm_Wf 0 rfl) (fun M11 => ?_)
  exact ih _ _
theorem frG_X10_goes_12  : ∀ (n : Nat)  (l1 : Int32) (l2 : Int32) (M : fm_M), fm_Fr (W_X10_goes) M (G_X10_goes_12 n l1 l2 M) := by
  intro n
  induction n with
  | zero => intro l1 l2 M; simp only [G_X10_goes_12]; exact fr_none
  | succ n ih0 =>
    intro l1 l2 M
    have ih := ih0 l1
    rw [G_X10_goes_12]
    refine fr_gdh (fun g4 => ?_)
    refine fr_it ?_ ?_
    · exact fr_some
    · refine fr_gdh (fun g5 => ?_)
      refine fr_it ?_ ?_
      · refine fr_gdh (fun g13 => ?_)
        refine fr_bd (fr_mono (fr_X10_works _ _) (fm_Wsub [0] rfl)) (fun v14 M15 => ?_)
        refine fr_it ?_ ?_
        · exact fr_some
        · exact ih _ _
      · refine fr_gdh (fun g6 => ?_)
        refine fr_it ?_ ?_
        · refine fr_gdh (fun g12 => ?_)
          exact frJ_X10_goes_85  _ (fun y0 y1 => ih y0 y1) _ _ _ _ _
        · refine fr_gdh (fun g7 => ?_)
          refine fr_gdh (fun g8 => ?_)
          exact frJ_X10_goes_85  _ (fun y0 y1 => ih y0 y1) _ _ _ _ _
theorem fr_X10_goes (a1 : Int32) (M : fm_M) : fm_Fr (W_X10_goes) M (F_X10_goes a1 M) := by
  rw [F_X10_goes]
  refine fr_up (fm_Wf 0 rfl) (fun M1 => ?_)
  refine fr_gdh (fun g2 => ?_)
  refine fr_lt (fun x3 => ?_)
  refine fr_bs (frG_X10_goes_12  _ _ _ _) (fun w16 M17 => ?_) (fun _ _ => fr_some)
  exact fr_some
abbrev W_X10_hasLaw  : Nat → Nat → Prop := fm_W []
theorem fr_X10_hasLaw (a1 : Int32) (M : fm_M) : fm_Fr (W_X10_hasLaw) M (F_X10_hasLaw a1 M) := by
  rw [F_X10_hasLaw]
  refine fr_gdh (fun g1 => ?_)
  refine fr_gdh (fun g2 => ?_)
  refine fr_it ?_ ?_
  · exact fr_some
  · exact fr_some
abbrev W_X10_copies  : Nat → Nat → Prop := fm_W [(100, none), (101, none), (94, none), (95, none), (96, none), (97, none), (98, none), (99, none)]
theorem frG_X10_copies_50  : ∀ (n : Nat)  (l1 : Int32) (l2 : Int32) (l3 : Int32) (M : fm_M), fm_Fr (W_X10_copies) M (G_X10_copies_50 n l1 l2 l3 M) := by
  intro n
  induction n with
  | zero => intro l1 l2 l3 M; simp only [G_X10_copies_50]; exact fr_none
  | succ n ih0 =>
    intro l1 l2 l3 M
    have ih := ih0 l1 l2
    rw [G_X10_copies_50]
    refine fr_it ?_ ?_
    · exact fr_some
    · refine fr_gdh (fun g13 => ?_)
      refine fr_gdh (fun g14 => ?_)
      refine fr_up (fm_Wi 6 rfl) (fun M15 => ?_)
      exact ih _ _
theorem frG_X10_copies_86  : ∀ (n : Nat)  (l1 : Int32) (l2 : Int32) (l3 : Int32) (M : fm_M), fm_Fr (W_X10_copies) M (G_X10_copies_86 n l1 l2 l3 M) := by
  intro n
  induction n with
  | zero => intro l1 l2 l3 M; simp only [G_X10_copies_86]; exact fr_none
  | succ n ih0 =>
    intro l1 l2 l3 M
    have ih := ih0 l1 l2
    rw [G_X10_copies_86]
    refine fr_it ?_ ?_
    · exact fr_some
    · refine fr_gdh (fun g18 => ?_)
      refine fr_gdh (fun g19 => ?_)
      refine fr_up (fm_Wi 7 rfl) (fun M20 => ?_)
      refine fr_gdh (fun g21 => ?_)
      refine fr_gdh (fun g22 => ?_)
      refine fr_up (fm_Wi 0 rfl) (fun M23 => ?_)
      refine fr_gdh (fun g24 => ?_)
      refine fr_gdh (fun g25 => ?_)
      refine fr_up (fm_Wi 1 rfl) (fun M26 => ?_)
      exact ih _ _
theorem fr_X10_copies (a1 : Int32) (a2 : Int32) (M : fm_M) : fm_Fr (W_X10_copies) M (F_X10_copies a1 a2 M) := by
  rw [F_X10_copies]
  refine fr_gdh (fun g1 => ?_)
  refine fr_gdh (fun g2 => ?_)
  refine fr_up (fm_Wi 2 rfl) (fun M3 => ?_)
  refine fr_gdh (fun g4 => ?_)
  refine fr_gdh (fun g5 => ?_)
  refine fr_up (fm_Wi 3 rfl) (fun M6 => ?_)
  refine fr_gdh (fun g7 => ?_)
  refine fr_gdh (fun g8 => ?_)
  refine fr_up (fm_Wi 4 rfl) (fun M9 => ?_)
  refine fr_gdh (fun g10 => ?_)
  refine fr_gdh (fun g11 => ?_)
  refine fr_up (fm_Wi 5 rfl) (fun M12 => ?_)
  refine fr_bd (frG_X10_copies_50  _ _ _ _ _) (fun w16 M17 => ?_)
  refine fr_bd (frG_X10_copies_86  _ _ _ _ _) (fun w27 M28 => ?_)
  exact fr_some
abbrev W_X10_isFork  : Nat → Nat → Prop := fm_W []
theorem fr_X10_isFork (a1 : Int32) (M : fm_M) : fm_Fr (W_X10_isFork) M (F_X10_isFork a1 M) := by
  rw [F_X10_isFork]
  refine fr_it ?_ ?_
  · exact fr_some
  · refine fr_gdh (fun g1 => ?_)
    refine fr_it ?_ ?_
    · exact fr_some
    · exact fr_some
abbrev W_X10_isMotion  : Nat → Nat → Prop := fm_W []
theorem fr_X10_isMotion (a1 : Int32) (M : fm_M) : fm_Fr (W_X10_isMotion) M (F_X10_isMotion a1 M) := by
  rw [F_X10_isMotion]
  refine fr_it ?_ ?_
  · exact fr_some
  · refine fr_gdh (fun g1 => ?_)
    refine fr_it ?_ ?_
    · exact fr_some
    · exact fr_some
abbrev W_X10_isNote  : Nat → Nat → Prop := fm_W []
theorem fr_X10_isNote (a0 : Int32) (M : fm_M) : fm_Fr (W_X10_isNote) M (F_X10_isNote a0 M) := by
  rw [F_X10_isNote]
  refine fr_it ?_ ?_
  · exact fr_some
  · refine fr_it ?_ ?_
    · exact fr_some
    · exact fr_some
abbrev W_X10_wetAt  : Nat → Nat → Prop := fm_W []
theorem fr_X10_wetAt (a1 : Int32) (M : fm_M) : fm_Fr (W_X10_wetAt) M (F_X10_wetAt a1 M) := by
  rw [F_X10_wetAt]
  refine fr_gdh (fun g1 => ?_)
  refine fr_it ?_ ?_
  · exact fr_some
  · refine fr_gdh (fun g2 => ?_)
    refine fr_gdh (fun g3 => ?_)
    refine fr_gdh (fun g4 => ?_)
    exact fr_some
abbrev W_X10_dampIn  : Nat → Nat → Prop := fm_W []
theorem fr_X10_dampIn (a1 : Int32) (M : fm_M) : fm_Fr (W_X10_dampIn) M (F_X10_dampIn a1 M) := by
  rw [F_X10_dampIn]
  refine fr_it ?_ ?_
  · exact fr_some
  · refine fr_it ?_ ?_
    · refine fr_gdh (fun g1 => ?_)
      refine fr_bd (fr_mono (fr_X10_wetAt _ _) (fm_Wsub [] rfl)) (fun v2 M3 => ?_)
      exact fr_some
    · exact fr_some
abbrev W_X10_widthIn  : Nat → Nat → Prop := fm_W []
theorem fr_X10_widthIn (a1 : Int32) (M : fm_M) : fm_Fr (W_X10_widthIn) M (F_X10_widthIn a1 M) := by
  rw [F_X10_widthIn]
  refine fr_it ?_ ?_
  · exact fr_some
  · refine fr_gdh (fun g1 => ?_)
    exact fr_some
abbrev W_X10_isThere  : Nat → Nat → Prop := fm_W []
theorem fr_X10_isThere (a1 : Int32) (M : fm_M) : fm_Fr (W_X10_isThere) M (F_X10_isThere a1 M) := by
  rw [F_X10_isThere]
  refine fr_it ?_ ?_
  · refine fr_it ?_ ?_
    · exact fr_some
    · exact fr_some
  · exact fr_some
abbrev W_X10_isCracked  : Nat → Nat → Prop := fm_W []
theorem fr_X10_isCracked (a1 : Int32) (M : fm_M) : fm_Fr (W_X10_isCracked) M (F_X10_isCracked a1 M) := by
  rw [F_X10_isCracked]
  refine fr_it ?_ ?_
  · exact fr_some
  · refine fr_gdh (fun g1 => ?_)
    refine fr_it ?_ ?_
    · exact fr_some
    · exact fr_some
abbrev W_X10_isTouched  : Nat → Nat → Prop := fm_W []
theorem fr_X10_isTouched (a1 : Int32) (a2 : Int32) (M : fm_M) : fm_Fr (W_X10_isTouched) M (F_X10_isTouched a1 a2 M) := by
  rw [F_X10_isTouched]
  refine fr_it ?_ ?_
  · exact fr_some
  · refine fr_gdh (fun g1 => ?_)
    refine fr_it ?_ ?_
    · exact fr_some
    · exact fr_some
abbrev W_X10_wetPitch  : Nat → Nat → Prop := fm_W []
theorem fr_X10_wetPitch (a1 : Int32) (a2 : Int32) (M : fm_M) : fm_Fr (W_X10_wetPitch) M (F_X10_wetPitch a1 a2 M) := by
  rw [F_X10_wetPitch]
  refine fr_bd (fr_mono (fr_X10_dampIn _ _) (fm_Wsub [] rfl)) (fun v1 M2 => ?_)
  exact fr_some
abbrev W_X10_beatsOf  : Nat → Nat → Prop := fm_W []
theorem fr_X10_beatsOf (a1 : Int32) (a2 : Int32) (a3 : Int32) (M : fm_M) : fm_Fr (W_X10_beatsOf) M (F_X10_beatsOf a1 a2 a3 M) := by
  rw [F_X10_beatsOf]
  refine fr_bd (fr_mono (fr_X10_wetPitch _ _ _) (fm_Wsub [] rfl)) (fun v1 M2 => ?_)
  exact fr_some
abbrev W_X10_calls  : Nat → Nat → Prop := fm_W []
theorem fr_X10_calls (a1 : Int32) (a2 : Int32) (a3 : Int32) (a4 : Int32) (a5 : Int32) (a6 : Int32) (M : fm_M) : fm_Fr (W_X10_calls) M (F_X10_calls a1 a2 a3 a4 a5 a6 M) := by
  rw [F_X10_calls]
  refine fr_gdh (fun g1 => ?_)
  refine fr_upL (fun M2 => ?_)
  refine fr_gdh (fun g3 => ?_)
  refine fr_upL (fun M4 => ?_)
  refine fr_gdh (fun g5 => ?_)
  refine fr_upL (fun M6 => ?_)
  refine fr_gdh (fun g7 => ?_)
  refine fr_upL (fun M8 => ?_)
  refine fr_gdh (fun g9 => ?_)
  refine fr_upL (fun M10 => ?_)
  refine fr_bd (fr_mono (fr_X10_dampIn _ _) (fm_Wsub [] rfl)) (fun v11 M12 => ?_)
  refine fr_gdh (fun g13 => ?_)
  refine fr_upL (fun M14 => ?_)
  refine fr_gdh (fun g15 => ?_)
  refine fr_gdh (fun g16 => ?_)
  refine fr_upL (fun M17 => ?_)
  exact fr_some
abbrev W_X10_callsHum  : Nat → Nat → Prop := fm_W []
theorem fr_X10_callsHum (a1 : Int32) (a2 : Int32) (a3 : Int32) (a4 : Int32) (M : fm_M) : fm_Fr (W_X10_callsHum) M (F_X10_callsHum a1 a2 a3 a4 M) := by
  rw [F_X10_callsHum]
  refine fr_bd (fr_mono (fr_X10_wetPitch _ _ _) (fm_Wsub [] rfl)) (fun v1 M2 => ?_)
  refine fr_bd (fr_mono (fr_X10_widthIn _ _) (fm_Wsub [] rfl)) (fun v3 M4 => ?_)
  refine fr_gdh (fun g5 => ?_)
  refine fr_bd (fr_mono (fr_X10_beatsOf _ _ _ _) (fm_Wsub [] rfl)) (fun v6 M7 => ?_)
  refine fr_bd (fr_mono (fr_X10_calls _ _ _ _ _ _ _) (fm_Wsub [] rfl)) (fun v8 M9 => ?_)
  exact fr_some
abbrev W_X10_callsRust  : Nat → Nat → Prop := fm_W []
theorem fr_X10_callsRust (a1 : Int32) (a2 : Int32) (M : fm_M) : fm_Fr (W_X10_callsRust) M (F_X10_callsRust a1 a2 M) := by
  rw [F_X10_callsRust]
  refine fr_gdh (fun g1 => ?_)
  refine fr_bd (fr_mono (fr_X10_wetPitch _ _ _) (fm_Wsub [] rfl)) (fun v2 M3 => ?_)
  refine fr_bd (fr_mono (fr_X10_widthIn _ _) (fm_Wsub [] rfl)) (fun v4 M5 => ?_)
  refine fr_gdh (fun g6 => ?_)
  refine fr_bd (fr_mono (fr_X10_calls _ _ _ _ _ _ _) (fm_Wsub [] rfl)) (fun v7 M8 => ?_)
  exact fr_some
abbrev W_X10_within  : Nat → Nat → Prop := fm_W [(76, some 32)]
theorem fr_X10_within (a1 : Int32) (a2 : Int32) (a3 : Int32) (M : fm_M) : fm_Fr (W_X10_within) M (F_X10_within a1 a2 a3 M) := by
  rw [F_X10_within]
  refine fr_bd (fr_mono (fr_X10_hasLaw _ _) (fm_Wsub [] rfl)) (fun v1 M2 => ?_)
  refine fr_it ?_ ?_
  · exact fr_some
  · refine fr_bd (fr_mono (fr_X10_goes _ _) (fm_Wsub [0] rfl)) (fun v3 M4 => ?_)
    refine fr_it ?_ ?_
    · exact fr_some
    · refine fr_gdh (fun g5 => ?_)
      exact fr_some
abbrev W_X10_loudAt  : Nat → Nat → Prop := fm_W [(76, some 32)]
theorem frJ_X10_loudAt_38  (l1 : Int32) (l2 : Int32) (l3 : Int32) (l4 : Int32) (s0 : Int32) (M : fm_M) : fm_Fr (W_X10_loudAt) M (J_X10_loudAt_38 l1 l2 l3 l4 s0 M) := by
  rw [J_X10_loudAt_38]
  refine fr_it ?_ ?_
  · refine fr_bd (fr_mono (fr_X10_within _ _ _ _) (fm_Wsub [0] rfl)) (fun v5 M6 => ?_)
    exact fr_some
  · refine fr_gdh (fun g7 => ?_)
    refine fr_bd (fr_mono (fr_X10_within _ _ _ _) (fm_Wsub [0] rfl)) (fun v8 M9 => ?_)
    exact fr_some
theorem frJ_X10_loudAt_33  (l1 : Int32) (l2 : Int32) (l3 : Int32) (l4 : Int32) (M : fm_M) : fm_Fr (W_X10_loudAt) M (J_X10_loudAt_33 l1 l2 l3 l4 M) := by
  rw [J_X10_loudAt_33]
  exact frJ_X10_loudAt_38  _ _ _ _ _ _
theorem fr_X10_loudAt (a1 : Int32) (a2 : Int32) (a3 : Int32) (a4 : Int32) (M : fm_M) : fm_Fr (W_X10_loudAt) M (F_X10_loudAt a1 a2 a3 a4 M) := by
  rw [F_X10_loudAt]
  refine fr_bd (fr_mono (fr_X10_callsHum _ _ _ _ _) (fm_Wsub [] rfl)) (fun v1 M2 => ?_)
  refine fr_bd (fr_mono (fr_X10_isCracked _ _) (fm_Wsub [] rfl)) (fun v3 M4 => ?_)
  refine fr_it ?_ ?_
  · refine fr_bd (fr_mono (fr_X10_beatsOf _ _ _ _) (fm_Wsub [] rfl)) (fun v10 M11 => ?_)
    refine fr_bd (fr_mono (fr_X10_widthIn _ _) (fm_Wsub [] rfl)) (fun v12 M13 => ?_)
    refine fr_it ?_ ?_
    · exact frJ_X10_loudAt_38  _ _ _ _ _ _
    · exact frJ_X10_loudAt_33  _ _ _ _ _
  · exact frJ_X10_loudAt_33  _ _ _ _ _
abbrev W_X10_humOf  : Nat → Nat → Prop := fm_W [(76, some 32)]
theorem fr_X10_humOf (a1 : Int32) (a2 : Int32) (a3 : Int32) (M : fm_M) : fm_Fr (W_X10_humOf) M (F_X10_humOf a1 a2 a3 M) := by
  rw [F_X10_humOf]
  refine fr_bd (fr_mono (fr_X10_isThere _ _) (fm_Wsub [] rfl)) (fun v1 M2 => ?_)
  refine fr_it ?_ ?_
  · exact fr_some
  · refine fr_bd (fr_mono (fr_X10_isTouched _ _ _) (fm_Wsub [] rfl)) (fun v3 M4 => ?_)
    refine fr_it ?_ ?_
    · refine fr_gdh (fun g5 => ?_)
      refine fr_bd (fr_mono (fr_X10_loudAt _ _ _ _ _) (fm_Wsub [0] rfl)) (fun v6 M7 => ?_)
      exact fr_some
    · exact fr_some
abbrev W_X10_humAll  : Nat → Nat → Prop := fm_W [(76, some 32)]
theorem frG_X10_humAll_5  : ∀ (n : Nat)  (l1 : Int32) (l2 : Int32) (l3 : Int32) (l4 : Int32) (M : fm_M), fm_Fr (W_X10_humAll) M (G_X10_humAll_5 n l1 l2 l3 l4 M) := by
  intro n
  induction n with
  | zero => intro l1 l2 l3 l4 M; simp only [G_X10_humAll_5]; exact fr_none
  | succ n ih0 =>
    intro l1 l2 l3 l4 M
    have ih := ih0 l1 l2
    rw [G_X10_humAll_5]
    refine fr_gdh (fun g1 => ?_)
    refine fr_it ?_ ?_
    · exact fr_some
    · refine fr_bd (fr_mono (fr_X10_humOf _ _ _ _) (fm_Wsub [0] rfl)) (fun v2 M3 => ?_)
      refine fr_lt (fun x4 => ?_)
      exact ih _ _ _
theorem fr_X10_humAll (a1 : Int32) (a2 : Int32) (M : fm_M) : fm_Fr (W_X10_humAll) M (F_X10_humAll a1 a2 M) := by
  rw [F_X10_humAll]
  refine fr_bd (frG_X10_humAll_5  _ _ _ _ _ _) (fun w5 M6 => ?_)
  exact fr_some
abbrev W_X10_passes  : Nat → Nat → Prop := fm_W [(76, some 32)]
theorem frJ_X10_passes_45  (l1 : Int32) (l2 : Int32) (l3 : Int32) (M : fm_M) : fm_Fr (W_X10_passes) M (J_X10_passes_45 l1 l2 l3 M) := by
  rw [J_X10_passes_45]
  refine fr_gdh (fun g5 => ?_)
  refine fr_it ?_ ?_
  · exact fr_some
  · exact fr_some
theorem fr_X10_passes (a1 : Int32) (a2 : Int32) (a3 : Int32) (M : fm_M) : fm_Fr (W_X10_passes) M (F_X10_passes a1 a2 a3 M) := by
  rw [F_X10_passes]
  refine fr_bd (fr_mono (fr_X10_calls _ _ _ _ _ _ _) (fm_Wsub [] rfl)) (fun v1 M2 => ?_)
  refine fr_bd (fr_mono (fr_X10_hasLaw _ _) (fm_Wsub [] rfl)) (fun v3 M4 => ?_)
  refine fr_it ?_ ?_
  · exact frJ_X10_passes_45  _ _ _ _
  · refine fr_bd (fr_mono (fr_X10_goes _ _) (fm_Wsub [0] rfl)) (fun v6 M7 => ?_)
    refine fr_it ?_ ?_
    · exact frJ_X10_passes_45  _ _ _ _
    · refine fr_gdh (fun g8 => ?_)
      refine fr_it ?_ ?_
      · exact fr_some
      · exact fr_some
abbrev W_X10_strikes  : Nat → Nat → Prop := fm_W [(100, none), (101, none), (76, some 32)]
theorem fr_X10_strikes (a1 : Int32) (a2 : Int32) (M : fm_M) : fm_Fr (W_X10_strikes) M (F_X10_strikes a1 a2 M) := by
  rw [F_X10_strikes]
  refine fr_lt (fun x1 => ?_)
  refine fr_gdh (fun g2 => ?_)
  refine fr_bd (fr_mono (fr_X10_humAll _ _ _) (fm_Wsub [2] rfl)) (fun v3 M4 => ?_)
  refine fr_gdh (fun g5 => ?_)
  refine fr_up (fm_Wi 1 rfl) (fun M6 => ?_)
  refine fr_gdh (fun g7 => ?_)
  refine fr_gdh (fun g8 => ?_)
  refine fr_bd (fr_mono (fr_X10_passes _ _ _ _) (fm_Wsub [2] rfl)) (fun v9 M10 => ?_)
  refine fr_it ?_ ?_
  · refine fr_gdh (fun g11 => ?_)
    refine fr_up (fm_Wi 0 rfl) (fun M12 => ?_)
    exact fr_some
  · refine fr_gdh (fun g13 => ?_)
    refine fr_up (fm_Wi 0 rfl) (fun M14 => ?_)
    exact fr_some
abbrev W_X10_dayGoes  : Nat → Nat → Prop := fm_W [(100, none), (101, none), (76, some 32), (94, none), (97, none), (98, none)]
theorem frG_X10_dayGoes_2  : ∀ (n : Nat)  (l1 : Int32) (l2 : Int32) (M : fm_M), fm_Fr (W_X10_dayGoes) M (G_X10_dayGoes_2 n l1 l2 M) := by
  intro n
  induction n with
  | zero => intro l1 l2 M; simp only [G_X10_dayGoes_2]; exact fr_none
  | succ n ih0 =>
    intro l1 l2 M
    have ih := ih0 l1
    rw [G_X10_dayGoes_2]
    refine fr_gdh (fun g1 => ?_)
    refine fr_it ?_ ?_
    · exact fr_some
    · refine fr_lt (fun x2 => ?_)
      refine fr_gdh (fun g3 => ?_)
      refine fr_it ?_ ?_
      · refine fr_gdh (fun g4 => ?_)
        refine fr_gdh (fun g5 => ?_)
        refine fr_it ?_ ?_
        · refine fr_bd (fr_mono (fr_X10_strikes _ _ _) (fm_Wsub [0, 1, 2] rfl)) (fun v6 M7 => ?_)
          exact ih _ _
        · exact ih _ _
      · exact ih _ _
theorem frG_X10_dayGoes_58  : ∀ (n : Nat)  (l1 : Int32) (l2 : Int32) (M : fm_M), fm_Fr (W_X10_dayGoes) M (G_X10_dayGoes_58 n l1 l2 M) := by
  intro n
  induction n with
  | zero => intro l1 l2 M; simp only [G_X10_dayGoes_58]; exact fr_none
  | succ n ih0 =>
    intro l1 l2 M
    have ih := ih0 l1
    rw [G_X10_dayGoes_58]
    refine fr_gdh (fun g10 => ?_)
    refine fr_it ?_ ?_
    · exact fr_some
    · refine fr_it ?_ ?_
      · exact fr_some
      · refine fr_bd (fr_mono (fr_X10_callsRust _ _ _) (fm_Wsub [] rfl)) (fun v11 M12 => ?_)
        refine fr_lt (fun x13 => ?_)
        refine fr_gdh (fun g14 => ?_)
        refine fr_gdh (fun g15 => ?_)
        refine fr_bd (fr_mono (fr_X10_within _ _ _ _) (fm_Wsub [2] rfl)) (fun v16 M17 => ?_)
        refine fr_gdh (fun g18 => ?_)
        refine fr_up (fm_Wi 5 rfl) (fun M19 => ?_)
        exact ih _ _
theorem fr_X10_dayGoes (a1 : Int32) (M : fm_M) : fm_Fr (W_X10_dayGoes) M (F_X10_dayGoes a1 M) := by
  rw [F_X10_dayGoes]
  refine fr_bd (frG_X10_dayGoes_2  _ _ _ _) (fun w8 M9 => ?_)
  refine fr_bd (frG_X10_dayGoes_58  _ _ _ _) (fun w20 M21 => ?_)
  refine fr_gdh (fun g22 => ?_)
  refine fr_up (fm_Wi 4 rfl) (fun M23 => ?_)
  refine fr_gdh (fun g24 => ?_)
  refine fr_gdh (fun g25 => ?_)
  refine fr_up (fm_Wi 3 rfl) (fun M26 => ?_)
  exact fr_some
abbrev W_X10_goesOn  : Nat → Nat → Prop := fm_W [(100, none), (101, none), (76, some 32), (94, none), (97, none), (98, none)]
theorem frG_X10_goesOn_2  : ∀ (n : Nat)  (l1 : Int32) (l2 : Int32) (M : fm_M), fm_Fr (W_X10_goesOn) M (G_X10_goesOn_2 n l1 l2 M) := by
  intro n
  induction n with
  | zero => intro l1 l2 M; simp only [G_X10_goesOn_2]; exact fr_none
  | succ n ih0 =>
    intro l1 l2 M
    have ih := ih0 l1
    rw [G_X10_goesOn_2]
    refine fr_it ?_ ?_
    · exact fr_some
    · refine fr_bd (fr_mono (fr_X10_dayGoes _ _) (fm_Wsub [0, 1, 2, 3, 4, 5] rfl)) (fun v1 M2 => ?_)
      exact ih _ _
theorem fr_X10_goesOn (a1 : Int32) (M : fm_M) : fm_Fr (W_X10_goesOn) M (F_X10_goesOn a1 M) := by
  rw [F_X10_goesOn]
  refine fr_bd (frG_X10_goesOn_2  _ _ _ _) (fun w3 M4 => ?_)
  exact fr_some
abbrev W_X10_manyOf  : Nat → Nat → Prop := fm_W []
theorem frG_X10_manyOf_5  : ∀ (n : Nat)  (l1 : Int32) (l2 : Int32) (l3 : Int32) (l4 : Int32) (M : fm_M), fm_Fr (W_X10_manyOf) M (G_X10_manyOf_5 n l1 l2 l3 l4 M) := by
  intro n
  induction n with
  | zero => intro l1 l2 l3 l4 M; simp only [G_X10_manyOf_5]; exact fr_none
  | succ n ih0 =>
    intro l1 l2 l3 l4 M
    have ih := ih0 l1 l2
    rw [G_X10_manyOf_5]
    refine fr_gdh (fun g1 => ?_)
    refine fr_it ?_ ?_
    · exact fr_some
    · refine fr_gdh (fun g2 => ?_)
      refine fr_it ?_ ?_
      · refine fr_lt (fun x4 => ?_)
        exact ih _ _ _
      · refine fr_lt (fun x3 => ?_)
        exact ih _ _ _
theorem fr_X10_manyOf (a1 : Int32) (a2 : Int32) (M : fm_M) : fm_Fr (W_X10_manyOf) M (F_X10_manyOf a1 a2 M) := by
  rw [F_X10_manyOf]
  refine fr_bd (frG_X10_manyOf_5  _ _ _ _ _ _) (fun w5 M6 => ?_)
  exact fr_some
abbrev W_X10_heardAll  : Nat → Nat → Prop := fm_W []
theorem frG_X10_heardAll_4  : ∀ (n : Nat)  (l1 : Int32) (l2 : Int32) (l3 : Int32) (M : fm_M), fm_Fr (W_X10_heardAll) M (G_X10_heardAll_4 n l1 l2 l3 M) := by
  intro n
  induction n with
  | zero => intro l1 l2 l3 M; simp only [G_X10_heardAll_4]; exact fr_none
  | succ n ih0 =>
    intro l1 l2 l3 M
    have ih := ih0 l1
    rw [G_X10_heardAll_4]
    refine fr_gdh (fun g1 => ?_)
    refine fr_it ?_ ?_
    · exact fr_some
    · refine fr_gdh (fun g2 => ?_)
      refine fr_lt (fun x3 => ?_)
      exact ih _ _ _
theorem fr_X10_heardAll (a1 : Int32) (M : fm_M) : fm_Fr (W_X10_heardAll) M (F_X10_heardAll a1 M) := by
  rw [F_X10_heardAll]
  refine fr_bd (frG_X10_heardAll_4  _ _ _ _ _) (fun w4 M5 => ?_)
  exact fr_some
abbrev W_X10_motion  : Nat → Nat → Prop := fm_W [(76, some 0)]
theorem frJ_X10_motion_27  (l1 : Int32) (l2 : Int32) (s1 : Int32) (M : fm_M) : fm_Fr (W_X10_motion) M (J_X10_motion_27 l1 l2 s1 M) := by
  rw [J_X10_motion_27]
  refine fr_up (fm_Wf 0 rfl) (fun M3 => ?_)
  refine fr_it ?_ ?_
  · refine fr_it ?_ ?_
    · refine fr_gdh (fun g4 => ?_)
      exact fr_some
    · refine fr_it ?_ ?_
      · refine fr_gdh (fun g5 => ?_)
        exact fr_some
      · refine fr_it ?_ ?_
        · refine fr_gdh (fun g6 => ?_)
          exact fr_some
        · refine fr_gdh (fun g7 => ?_)
          exact fr_some
  · exact fr_some
theorem frJ_X10_motion_22  (l1 : Int32) (l2 : Int32) (M : fm_M) : fm_Fr (W_X10_motion) M (J_X10_motion_22 l1 l2 M) := by
  rw [J_X10_motion_22]
  exact frJ_X10_motion_27  _ _ _ _
theorem fr_X10_motion (a1 : Int32) (a2 : Int32) (M : fm_M) : fm_Fr (W_X10_motion) M (F_X10_motion a1 a2 M) := by
  rw [F_X10_motion]
  refine fr_bd (fr_mono (fr_X10_isMotion _ _) (fm_Wsub [] rfl)) (fun v1 M2 => ?_)
  refine fr_it ?_ ?_
  · exact frJ_X10_motion_27  _ _ _ _
  · refine fr_it ?_ ?_
    · exact frJ_X10_motion_22  _ _ _
    · refine fr_it ?_ ?_
      · exact frJ_X10_motion_27  _ _ _ _
      · exact frJ_X10_motion_22  _ _ _
abbrev W_X10_fork  : Nat → Nat → Prop := fm_W [(76, some 0)]
theorem fr_X10_fork (a1 : Int32) (a2 : Int32) (M : fm_M) : fm_Fr (W_X10_fork) M (F_X10_fork a1 a2 M) := by
  rw [F_X10_fork]
  refine fr_up (fm_Wf 0 rfl) (fun M1 => ?_)
  refine fr_bd (fr_mono (fr_X10_isFork _ _) (fm_Wsub [] rfl)) (fun v2 M3 => ?_)
  refine fr_it ?_ ?_
  · exact fr_some
  · refine fr_it ?_ ?_
    · refine fr_gdh (fun g4 => ?_)
      exact fr_some
    · refine fr_it ?_ ?_
      · refine fr_gdh (fun g5 => ?_)
        exact fr_some
      · refine fr_it ?_ ?_
        · refine fr_gdh (fun g6 => ?_)
          exact fr_some
        · refine fr_it ?_ ?_
          · refine fr_gdh (fun g7 => ?_)
            exact fr_some
          · refine fr_it ?_ ?_
            · refine fr_bd (fr_mono (fr_X10_isCracked _ _) (fm_Wsub [] rfl)) (fun v8 M9 => ?_)
              refine fr_it ?_ ?_
              · exact fr_some
              · exact fr_some
            · refine fr_it ?_ ?_
              · refine fr_gdh (fun g10 => ?_)
                exact fr_some
              · exact fr_some
abbrev W_X10_wet  : Nat → Nat → Prop := fm_W [(76, some 0)]
theorem fr_X10_wet (a1 : Int32) (M : fm_M) : fm_Fr (W_X10_wet) M (F_X10_wet a1 M) := by
  rw [F_X10_wet]
  refine fr_up (fm_Wf 0 rfl) (fun M1 => ?_)
  refine fr_it ?_ ?_
  · exact fr_some
  · refine fr_it ?_ ?_
    · exact fr_some
    · refine fr_bd (fr_mono (fr_X10_wetAt _ _) (fm_Wsub [] rfl)) (fun v2 M3 => ?_)
      exact fr_some
abbrev W_X10_beats  : Nat → Nat → Prop := fm_W [(76, some 0)]
theorem fr_X10_beats (a1 : Int32) (a2 : Int32) (M : fm_M) : fm_Fr (W_X10_beats) M (F_X10_beats a1 a2 M) := by
  rw [F_X10_beats]
  refine fr_up (fm_Wf 0 rfl) (fun M1 => ?_)
  refine fr_bd (fr_mono (fr_X10_isFork _ _) (fm_Wsub [] rfl)) (fun v2 M3 => ?_)
  refine fr_it ?_ ?_
  · exact fr_some
  · refine fr_bd (fr_mono (fr_X10_isNote _ _) (fm_Wsub [] rfl)) (fun v4 M5 => ?_)
    refine fr_it ?_ ?_
    · exact fr_some
    · refine fr_gdh (fun g6 => ?_)
      refine fr_bd (fr_mono (fr_X10_beatsOf _ _ _ _) (fm_Wsub [] rfl)) (fun v7 M8 => ?_)
      exact fr_some
abbrev W_X10_hums  : Nat → Nat → Prop := fm_W [(76, some 0), (76, some 32)]
theorem fr_X10_hums (a1 : Int32) (a2 : Int32) (M : fm_M) : fm_Fr (W_X10_hums) M (F_X10_hums a1 a2 M) := by
  rw [F_X10_hums]
  refine fr_up (fm_Wf 0 rfl) (fun M1 => ?_)
  refine fr_bd (fr_mono (fr_X10_isFork _ _) (fm_Wsub [] rfl)) (fun v2 M3 => ?_)
  refine fr_it ?_ ?_
  · exact fr_some
  · refine fr_bd (fr_mono (fr_X10_isNote _ _) (fm_Wsub [] rfl)) (fun v4 M5 => ?_)
    refine fr_it ?_ ?_
    · exact fr_some
    · refine fr_bd (fr_mono (fr_X10_humOf _ _ _ _) (fm_Wsub [1] rfl)) (fun v6 M7 => ?_)
      exact fr_some
abbrev W_X10_struck  : Nat → Nat → Prop := fm_W [(76, some 0), (76, some 32)]
theorem frG_X10_struck_65  : ∀ (n : Nat)  (l1 : Int32) (l2 : Int32) (l3 : Int32) (l4 : Int32) (M : fm_M), fm_Fr (W_X10_struck) M (G_X10_struck_65 n l1 l2 l3 l4 M) := by
  intro n
  induction n with
  | zero => intro l1 l2 l3 l4 M; simp only [G_X10_struck_65]; exact fr_none
  | succ n ih0 =>
    intro l1 l2 l3 l4 M
    have ih := ih0 l1 l2
    rw [G_X10_struck_65]
    refine fr_gdh (fun g4 => ?_)
    refine fr_it ?_ ?_
    · exact fr_some
    · refine fr_bd (fr_mono (fr_X10_humOf _ _ _ _) (fm_Wsub [1] rfl)) (fun v5 M6 => ?_)
      refine fr_it ?_ ?_
      · refine fr_lt (fun x7 => ?_)
        exact ih _ _ _
      · refine fr_lt (fun x8 => ?_)
        exact ih _ _ _
theorem fr_X10_struck (a1 : Int32) (a2 : Int32) (M : fm_M) : fm_Fr (W_X10_struck) M (F_X10_struck a1 a2 M) := by
  rw [F_X10_struck]
  refine fr_up (fm_Wf 0 rfl) (fun M1 => ?_)
  refine fr_bd (fr_mono (fr_X10_isNote _ _) (fm_Wsub [] rfl)) (fun v2 M3 => ?_)
  refine fr_it ?_ ?_
  · exact fr_some
  · refine fr_it ?_ ?_
    · exact fr_some
    · refine fr_it ?_ ?_
      · refine fr_it ?_ ?_
        · refine fr_bd (fr_mono (fr_X10_humAll _ _ _) (fm_Wsub [1] rfl)) (fun v15 M16 => ?_)
          exact fr_some
        · refine fr_it ?_ ?_
          · refine fr_bd (fr_mono (fr_X10_humAll _ _ _) (fm_Wsub [1] rfl)) (fun v11 M12 => ?_)
            refine fr_bd (fr_mono (fr_X10_passes _ _ _ _) (fm_Wsub [1] rfl)) (fun v13 M14 => ?_)
            refine fr_it ?_ ?_
            · exact fr_some
            · exact fr_some
          · refine fr_bd (frG_X10_struck_65  _ _ _ _ _ _) (fun w9 M10 => ?_)
            exact fr_some
      · exact fr_some
abbrev W_X10_law  : Nat → Nat → Prop := fm_W [(76, some 0), (76, some 32)]
theorem frJ_X10_law_104  (l1 : Int32) (l2 : Int32) (l3 : Int32) (l4 : Int32) (M : fm_M) : fm_Fr (W_X10_law) M (J_X10_law_104 l1 l2 l3 l4 M) := by
  rw [J_X10_law_104]
  refine fr_bd (fr_mono (fr_X10_goes _ _) (fm_Wsub [1] rfl)) (fun v8 M9 => ?_)
  refine fr_it ?_ ?_
  · exact fr_some
  · refine fr_gdh (fun g10 => ?_)
    exact fr_some
theorem frJ_X10_law_104_1  (l1 : Int32) (l2 : Int32) (l3 : Int32) (M : fm_M) : fm_Fr (W_X10_law) M (J_X10_law_104_1 l1 l2 l3 M) := by
  rw [J_X10_law_104_1]
  refine fr_bd (fr_mono (fr_X10_goes _ _) (fm_Wsub [1] rfl)) (fun v13 M14 => ?_)
  refine fr_it ?_ ?_
  · exact fr_some
  · refine fr_gdh (fun g15 => ?_)
    exact fr_some
theorem frJ_X10_law_51  (l1 : Int32) (l2 : Int32) (l3 : Int32) (M : fm_M) : fm_Fr (W_X10_law) M (J_X10_law_51 l1 l2 l3 M) := by
  rw [J_X10_law_51]
  refine fr_it ?_ ?_
  · refine fr_gdh (fun g16 => ?_)
    refine fr_bd (fr_mono (fr_X10_callsHum _ _ _ _ _) (fm_Wsub [] rfl)) (fun v17 M18 => ?_)
    exact frJ_X10_law_104_1  _ _ _ _
  · refine fr_it ?_ ?_
    · refine fr_bd (fr_mono (fr_X10_callsRust _ _ _) (fm_Wsub [] rfl)) (fun v11 M12 => ?_)
      exact frJ_X10_law_104_1  _ _ _ _
    · refine fr_bd (fr_mono (fr_X10_humAll _ _ _) (fm_Wsub [1] rfl)) (fun v4 M5 => ?_)
      refine fr_bd (fr_mono (fr_X10_calls _ _ _ _ _ _ _) (fm_Wsub [] rfl)) (fun v6 M7 => ?_)
      exact frJ_X10_law_104  _ _ _ _ _
theorem frJ_X10_law_35  (l1 : Int32) (l2 : Int32) (l3 : Int32) (M : fm_M) : fm_Fr (W_X10_law) M (J_X10_law_35 l1 l2 l3 M) := by
  rw [J_X10_law_35]
  refine fr_it ?_ ?_
  · exact frJ_X10_law_51  _ _ _ _
  · refine fr_bd (fr_mono (fr_X10_isNote _ _) (fm_Wsub [] rfl)) (fun v19 M20 => ?_)
    refine fr_it ?_ ?_
    · exact fr_some
    · exact frJ_X10_law_51  _ _ _ _
theorem fr_X10_law (a1 : Int32) (a2 : Int32) (a3 : Int32) (M : fm_M) : fm_Fr (W_X10_law) M (F_X10_law a1 a2 a3 M) := by
  rw [F_X10_law]
  refine fr_up (fm_Wf 0 rfl) (fun M1 => ?_)
  refine fr_it ?_ ?_
  · exact fr_some
  · refine fr_it ?_ ?_
    · exact fr_some
    · refine fr_bd (fr_mono (fr_X10_hasLaw _ _) (fm_Wsub [] rfl)) (fun v2 M3 => ?_)
      refine fr_it ?_ ?_
      · exact fr_some
      · refine fr_it ?_ ?_
        · exact frJ_X10_law_35  _ _ _ _
        · refine fr_bd (fr_mono (fr_X10_isFork _ _) (fm_Wsub [] rfl)) (fun v21 M22 => ?_)
          refine fr_it ?_ ?_
          · exact fr_some
          · exact frJ_X10_law_35  _ _ _ _
abbrev W_X10_keepNow  : Nat → Nat → Prop := fm_W [(100, none), (101, none), (76, some 42), (94, none), (95, none), (96, none), (97, none), (98, none), (99, none)]
theorem frJ_X10_keepNow_45   (M : fm_M) : fm_Fr (W_X10_keepNow) M (J_X10_keepNow_45 M) := by
  rw [J_X10_keepNow_45]
  refine fr_bd (fr_mono (fr_X10_copies _ _ _) (fm_Wsub [0, 1, 3, 4, 5, 6, 7, 8] rfl)) (fun v1 M2 => ?_)
  refine fr_up (fm_Wf 2 rfl) (fun M3 => ?_)
  exact fr_some
theorem frG_X10_keepNow_11  : ∀ (n : Nat)   (l1 : Int32) (M : fm_M), fm_Fr (W_X10_keepNow) M (G_X10_keepNow_11 n l1 M) := by
  intro n
  induction n with
  | zero => intro l1 M; simp only [G_X10_keepNow_11]; exact fr_none
  | succ n ih0 =>
    intro l1 M
    have ih := ih0 
    rw [G_X10_keepNow_11]
    refine fr_it ?_ ?_
    · exact fr_some
    · refine fr_bd (fr_mono (fr_X10_copies _ _ _) (fm_Wsub [0, 1, 3, 4, 5, 6, 7, 8] rfl)) (fun v4 M5 => ?_)
      exact ih _ _
theorem frJ_X10_keepNow_45_1  (l1 : Int32) (M : fm_M) : fm_Fr (W_X10_keepNow) M (J_X10_keepNow_45_1 l1 M) := by
  rw [J_X10_keepNow_45_1]
  refine fr_bd (fr_mono (fr_X10_copies _ _ _) (fm_Wsub [0, 1, 3, 4, 5, 6, 7, 8] rfl)) (fun v9 M10 => ?_)
  refine fr_up (fm_Wf 2 rfl) (fun M11 => ?_)
  exact fr_some
theorem fr_X10_keepNow  (M : fm_M) : fm_Fr (W_X10_keepNow) M (F_X10_keepNow  M) := by
  rw [F_X10_keepNow]
  refine fr_it ?_ ?_
  · refine fr_bd (frG_X10_keepNow_11  _ _ _) (fun w6 M7 => ?_)
    refine fr_up (fm_Wf 2 rfl) (fun M8 => ?_)
    exact frJ_X10_keepNow_45_1  _ _
  · exact frJ_X10_keepNow_45   _
abbrev W_X10_touch  : Nat → Nat → Prop := fm_W [(100, none), (101, none), (76, some 0), (76, some 42), (94, none), (95, none), (96, none), (97, none), (98, none), (99, none)]
theorem frJ_X10_touch_32  (l1 : Int32) (l2 : Int32) (s0 : Int32) (M : fm_M) : fm_Fr (W_X10_touch) M (J_X10_touch_32 l1 l2 s0 M) := by
  rw [J_X10_touch_32]
  refine fr_it ?_ ?_
  · exact fr_some
  · refine fr_bd (fr_mono (fr_X10_keepNow  _) (fm_Wsub [0, 1, 3, 4, 5, 6, 7, 8, 9] rfl)) (fun v5 M6 => ?_)
    refine fr_gdh (fun g7 => ?_)
    refine fr_gdh (fun g8 => ?_)
    refine fr_up (fm_Wi 7 rfl) (fun M9 => ?_)
    exact fr_some
theorem fr_X10_touch (a1 : Int32) (a2 : Int32) (M : fm_M) : fm_Fr (W_X10_touch) M (F_X10_touch a1 a2 M) := by
  rw [F_X10_touch]
  refine fr_up (fm_Wf 2 rfl) (fun M1 => ?_)
  refine fr_bd (fr_mono (fr_X10_isFork _ _) (fm_Wsub [] rfl)) (fun v2 M3 => ?_)
  refine fr_it ?_ ?_
  · exact fr_some
  · refine fr_gdh (fun g4 => ?_)
    refine fr_it ?_ ?_
    · exact frJ_X10_touch_32  _ _ _ _
    · exact frJ_X10_touch_32  _ _ _ _
abbrev W_X10_file  : Nat → Nat → Prop := fm_W [(100, none), (101, none), (76, some 0), (76, some 42), (94, none), (95, none), (96, none), (97, none), (98, none), (99, none)]
theorem fr_X10_file (a1 : Int32) (a2 : Int32) (M : fm_M) : fm_Fr (W_X10_file) M (F_X10_file a1 a2 M) := by
  rw [F_X10_file]
  refine fr_up (fm_Wf 2 rfl) (fun M1 => ?_)
  refine fr_bd (fr_mono (fr_X10_isFork _ _) (fm_Wsub [] rfl)) (fun v2 M3 => ?_)
  refine fr_it ?_ ?_
  · exact fr_some
  · refine fr_it ?_ ?_
    · exact fr_some
    · refine fr_it ?_ ?_
      · exact fr_some
      · refine fr_it ?_ ?_
        · exact fr_some
        · refine fr_gdh (fun g4 => ?_)
          refine fr_bd (fr_mono (fr_X10_isNote _ _) (fm_Wsub [] rfl)) (fun v5 M6 => ?_)
          refine fr_it ?_ ?_
          · exact fr_some
          · refine fr_gdh (fun g7 => ?_)
            refine fr_lt (fun x8 => ?_)
            refine fr_gdh (fun g9 => ?_)
            refine fr_it ?_ ?_
            · refine fr_bd (fr_mono (fr_X10_keepNow  _) (fm_Wsub [0, 1, 3, 4, 5, 6, 7, 8, 9] rfl)) (fun v10 M11 => ?_)
              refine fr_gdh (fun g12 => ?_)
              refine fr_gdh (fun g13 => ?_)
              refine fr_up (fm_Wi 5 rfl) (fun M14 => ?_)
              refine fr_gdh (fun g15 => ?_)
              refine fr_gdh (fun g16 => ?_)
              refine fr_up (fm_Wi 6 rfl) (fun M17 => ?_)
              refine fr_gdh (fun g18 => ?_)
              refine fr_gdh (fun g19 => ?_)
              refine fr_up (fm_Wi 8 rfl) (fun M20 => ?_)
              refine fr_gdh (fun g21 => ?_)
              exact fr_some
            · exact fr_some
abbrev W_X10_put  : Nat → Nat → Prop := fm_W [(100, none), (101, none), (76, some 0), (76, some 42), (94, none), (95, none), (96, none), (97, none), (98, none), (99, none)]
theorem fr_X10_put (a1 : Int32) (a2 : Int32) (M : fm_M) : fm_Fr (W_X10_put) M (F_X10_put a1 a2 M) := by
  rw [F_X10_put]
  refine fr_up (fm_Wf 2 rfl) (fun M1 => ?_)
  refine fr_bd (fr_mono (fr_X10_isMotion _ _) (fm_Wsub [] rfl)) (fun v2 M3 => ?_)
  refine fr_it ?_ ?_
  · exact fr_some
  · refine fr_gdh (fun g4 => ?_)
    refine fr_it ?_ ?_
    · exact fr_some
    · refine fr_it ?_ ?_
      · exact fr_some
      · refine fr_gdh (fun g5 => ?_)
        refine fr_it ?_ ?_
        · refine fr_gdh (fun g6 => ?_)
          refine fr_it ?_ ?_
          · exact fr_some
          · refine fr_bd (fr_mono (fr_X10_keepNow  _) (fm_Wsub [0, 1, 3, 4, 5, 6, 7, 8, 9] rfl)) (fun v7 M8 => ?_)
            refine fr_gdh (fun g9 => ?_)
            refine fr_up (fm_Wi 9 rfl) (fun M10 => ?_)
            exact fr_some
        · exact fr_some
abbrev W_X10_earn  : Nat → Nat → Prop := fm_W [(100, none), (101, none), (76, some 0), (76, some 42), (94, none), (95, none), (96, none), (97, none), (98, none), (99, none)]
theorem fr_X10_earn (a1 : Int32) (M : fm_M) : fm_Fr (W_X10_earn) M (F_X10_earn a1 M) := by
  rw [F_X10_earn]
  refine fr_up (fm_Wf 2 rfl) (fun M1 => ?_)
  refine fr_it ?_ ?_
  · exact fr_some
  · refine fr_it ?_ ?_
    · exact fr_some
    · refine fr_gdh (fun g2 => ?_)
      refine fr_it ?_ ?_
      · refine fr_bd (fr_mono (fr_X10_keepNow  _) (fm_Wsub [0, 1, 3, 4, 5, 6, 7, 8, 9] rfl)) (fun v3 M4 => ?_)
        refine fr_gdh (fun g5 => ?_)
        refine fr_gdh (fun g6 => ?_)
        refine fr_up (fm_Wi 5 rfl) (fun M7 => ?_)
        refine fr_gdh (fun g8 => ?_)
        exact fr_some
      · exact fr_some
abbrev W_X10_go  : Nat → Nat → Prop := fm_W [(100, none), (101, none), (76, some 0), (76, some 32), (76, some 42), (94, none), (97, none), (98, none)]
theorem frG_X10_go_42  : ∀ (n : Nat)  (l1 : Int32) (l2 : Int32) (M : fm_M), fm_Fr (W_X10_go) M (G_X10_go_42 n l1 l2 M) := by
  intro n
  induction n with
  | zero => intro l1 l2 M; simp only [G_X10_go_42]; exact fr_none
  | succ n ih0 =>
    intro l1 l2 M
    have ih := ih0 l1
    rw [G_X10_go_42]
    refine fr_it ?_ ?_
    · exact fr_some
    · refine fr_bd (fr_mono (fr_X10_dayGoes _ _) (fm_Wsub [0, 1, 3, 5, 6, 7] rfl)) (fun v3 M4 => ?_)
      exact ih _ _
theorem frJ_X10_go_40  (l1 : Int32) (M : fm_M) : fm_Fr (W_X10_go) M (J_X10_go_40 l1 M) := by
  rw [J_X10_go_40]
  refine fr_bd (frG_X10_go_42  _ _ _ _) (fun w5 M6 => ?_)
  refine fr_gdh (fun g7 => ?_)
  exact fr_some
theorem fr_X10_go (a1 : Int32) (M : fm_M) : fm_Fr (W_X10_go) M (F_X10_go a1 M) := by
  rw [F_X10_go]
  refine fr_up (fm_Wf 2 rfl) (fun M1 => ?_)
  refine fr_it ?_ ?_
  · exact fr_some
  · refine fr_it ?_ ?_
    · exact fr_some
    · refine fr_gdh (fun g2 => ?_)
      refine fr_it ?_ ?_
      · refine fr_it ?_ ?_
        · exact frJ_X10_go_40  _ _
        · refine fr_up (fm_Wf 4 rfl) (fun M8 => ?_)
          exact frJ_X10_go_40  _ _
      · exact fr_some
abbrev W_X10_ahead  : Nat → Nat → Prop := fm_W [(100, none), (101, none), (76, some 0), (76, some 32), (94, none), (95, none), (96, none), (97, none), (98, none), (99, none)]
theorem frJ_X10_ahead_39  (l1 : Int32) (l2 : Int32) (l3 : Int32) (M : fm_M) : fm_Fr (W_X10_ahead) M (J_X10_ahead_39 l1 l2 l3 M) := by
  rw [J_X10_ahead_39]
  refine fr_bd (fr_mono (fr_X10_copies _ _ _) (fm_Wsub [0, 1, 4, 5, 6, 7, 8, 9] rfl)) (fun v2 M3 => ?_)
  refine fr_bd (fr_mono (fr_X10_goesOn _ _) (fm_Wsub [0, 1, 3, 4, 7, 8] rfl)) (fun v4 M5 => ?_)
  refine fr_it ?_ ?_
  · refine fr_bd (fr_mono (fr_X10_manyOf _ _ _) (fm_Wsub [] rfl)) (fun v6 M7 => ?_)
    refine fr_bd (fr_mono (fr_X10_manyOf _ _ _) (fm_Wsub [] rfl)) (fun v8 M9 => ?_)
    exact fr_some
  · refine fr_it ?_ ?_
    · refine fr_bd (fr_mono (fr_X10_manyOf _ _ _) (fm_Wsub [] rfl)) (fun v10 M11 => ?_)
      refine fr_bd (fr_mono (fr_X10_manyOf _ _ _) (fm_Wsub [] rfl)) (fun v12 M13 => ?_)
      exact fr_some
    · refine fr_it ?_ ?_
      · refine fr_bd (fr_mono (fr_X10_heardAll _ _) (fm_Wsub [] rfl)) (fun v14 M15 => ?_)
        refine fr_bd (fr_mono (fr_X10_heardAll _ _) (fm_Wsub [] rfl)) (fun v16 M17 => ?_)
        exact fr_some
      · refine fr_gdh (fun g18 => ?_)
        exact fr_some
theorem fr_X10_ahead (a1 : Int32) (a2 : Int32) (a3 : Int32) (M : fm_M) : fm_Fr (W_X10_ahead) M (F_X10_ahead a1 a2 a3 M) := by
  rw [F_X10_ahead]
  refine fr_up (fm_Wf 2 rfl) (fun M1 => ?_)
  refine fr_it ?_ ?_
  · exact fr_some
  · refine fr_it ?_ ?_
    · exact fr_some
    · refine fr_it ?_ ?_
      · exact fr_some
      · refine fr_it ?_ ?_
        · exact fr_some
        · refine fr_it ?_ ?_
          · refine fr_bd (fr_mono (fr_X10_isFork _ _) (fm_Wsub [] rfl)) (fun v19 M20 => ?_)
            refine fr_it ?_ ?_
            · exact fr_some
            · exact frJ_X10_ahead_39  _ _ _ _
          · exact frJ_X10_ahead_39  _ _ _ _
abbrev W_X10_best  : Nat → Nat → Prop := fm_W [(76, some 0), (76, some 32)]
theorem frG_X10_best_25  : ∀ (n : Nat)  (l1 : Int32) (l2 : Int32) (l3 : Int32) (l4 : Int32) (M : fm_M), fm_Fr (W_X10_best) M (G_X10_best_25 n l1 l2 l3 l4 M) := by
  intro n
  induction n with
  | zero => intro l1 l2 l3 l4 M; simp only [G_X10_best_25]; exact fr_none
  | succ n ih0 =>
    intro l1 l2 l3 l4 M
    have ih := ih0 l1
    rw [G_X10_best_25]
    refine fr_it ?_ ?_
    · exact fr_some
    · refine fr_bd (fr_mono (fr_X10_humAll _ _ _) (fm_Wsub [1] rfl)) (fun v2 M3 => ?_)
      refine fr_it ?_ ?_
      · exact ih _ _ _ _
      · exact ih _ _ _ _
theorem fr_X10_best (a1 : Int32) (M : fm_M) : fm_Fr (W_X10_best) M (F_X10_best a1 M) := by
  rw [F_X10_best]
  refine fr_up (fm_Wf 0 rfl) (fun M1 => ?_)
  refine fr_it ?_ ?_
  · exact fr_some
  · refine fr_it ?_ ?_
    · refine fr_bd (frG_X10_best_25  _ _ _ _ _ _) (fun w4 M5 => ?_)
      refine fr_it ?_ ?_
      · exact fr_some
      · exact fr_some
    · exact fr_some
abbrev W_X10_open  : Nat → Nat → Prop := fm_W [(76, some 0), (76, some 32)]
theorem frG_X10_open_10  : ∀ (n : Nat)   (l1 : Int32) (l2 : Int32) (M : fm_M), fm_Fr (W_X10_open) M (G_X10_open_10 n l1 l2 M) := by
  intro n
  induction n with
  | zero => intro l1 l2 M; simp only [G_X10_open_10]; exact fr_none
  | succ n ih0 =>
    intro l1 l2 M
    have ih := ih0 
    rw [G_X10_open_10]
    refine fr_it ?_ ?_
    · exact fr_some
    · refine fr_bd (fr_mono (fr_X10_humAll _ _ _) (fm_Wsub [1] rfl)) (fun v2 M3 => ?_)
      refine fr_bd (fr_mono (fr_X10_passes _ _ _ _) (fm_Wsub [1] rfl)) (fun v4 M5 => ?_)
      refine fr_it ?_ ?_
      · refine fr_lt (fun x6 => ?_)
        exact ih _ _ _
      · refine fr_lt (fun x7 => ?_)
        exact ih _ _ _
theorem fr_X10_open  (M : fm_M) : fm_Fr (W_X10_open) M (F_X10_open  M) := by
  rw [F_X10_open]
  refine fr_up (fm_Wf 0 rfl) (fun M1 => ?_)
  refine fr_bd (frG_X10_open_10  _ _ _ _) (fun w8 M9 => ?_)
  exact fr_some
abbrev W_X10_nines  : Nat → Nat → Prop := fm_W []
theorem frG_X10_nines_4  : ∀ (n : Nat)  (l0 : Int32) (l1 : Int32) (l2 : Int32) (M : fm_M), fm_Fr (W_X10_nines) M (G_X10_nines_4 n l0 l1 l2 M) := by
  intro n
  induction n with
  | zero => intro l0 l1 l2 M; simp only [G_X10_nines_4]; exact fr_none
  | succ n ih0 =>
    intro l0 l1 l2 M
    have ih := ih0 l0
    rw [G_X10_nines_4]
    refine fr_it ?_ ?_
    · exact fr_some
    · refine fr_lt (fun x1 => ?_)
      exact ih _ _ _
theorem fr_X10_nines (a0 : Int32) (M : fm_M) : fm_Fr (W_X10_nines) M (F_X10_nines a0 M) := by
  rw [F_X10_nines]
  refine fr_bd (frG_X10_nines_4  _ _ _ _ _) (fun w2 M3 => ?_)
  exact fr_some
abbrev W_X10_layFiled  : Nat → Nat → Prop := fm_W [(102, none), (76, some 32)]
theorem frG_X10_layFiled_10  : ∀ (n : Nat)  (l1 : Int32) (l2 : Int32) (l3 : Int32) (l4 : Int32) (M : fm_M), fm_Fr (W_X10_layFiled) M (G_X10_layFiled_10 n l1 l2 l3 l4 M) := by
  intro n
  induction n with
  | zero => intro l1 l2 l3 l4 M; simp only [G_X10_layFiled_10]; exact fr_none
  | succ n ih0 =>
    intro l1 l2 l3 l4 M
    have ih := ih0 l1 l2 l3
    rw [G_X10_layFiled_10]
    refine fr_it ?_ ?_
    · exact fr_some
    · refine fr_gdh (fun g1 => ?_)
      refine fr_lt (fun x2 => ?_)
      refine fr_bd (fr_mono (fr_X10_isNote _ _) (fm_Wsub [] rfl)) (fun v3 M4 => ?_)
      refine fr_it ?_ ?_
      · refine fr_gdh (fun g13 => ?_)
        refine fr_up (fm_Wi 0 rfl) (fun M14 => ?_)
        exact ih _ _
      · refine fr_bd (fr_mono (fr_X10_isTouched _ _ _) (fm_Wsub [] rfl)) (fun v5 M6 => ?_)
        refine fr_it ?_ ?_
        · refine fr_bd (fr_mono (fr_X10_loudAt _ _ _ _ _) (fm_Wsub [1] rfl)) (fun v7 M8 => ?_)
          refine fr_gdh (fun g9 => ?_)
          refine fr_up (fm_Wi 0 rfl) (fun M10 => ?_)
          exact ih _ _
        · refine fr_gdh (fun g11 => ?_)
          refine fr_up (fm_Wi 0 rfl) (fun M12 => ?_)
          exact ih _ _
theorem frG_X10_layFiled_2  : ∀ (n : Nat)  (l1 : Int32) (l2 : Int32) (l3 : Int32) (M : fm_M), fm_Fr (W_X10_layFiled) M (G_X10_layFiled_2 n l1 l2 l3 M) := by
  intro n
  induction n with
  | zero => intro l1 l2 l3 M; simp only [G_X10_layFiled_2]; exact fr_none
  | succ n ih0 =>
    intro l1 l2 l3 M
    have ih := ih0 l1 l2
    rw [G_X10_layFiled_2]
    refine fr_it ?_ ?_
    · exact fr_some
    · refine fr_bd (frG_X10_layFiled_10  _ _ _ _ _ _) (fun w15 M16 => ?_)
      exact ih _ _
theorem fr_X10_layFiled (a1 : Int32) (a2 : Int32) (M : fm_M) : fm_Fr (W_X10_layFiled) M (F_X10_layFiled a1 a2 M) := by
  rw [F_X10_layFiled]
  refine fr_bd (frG_X10_layFiled_2  _ _ _ _ _) (fun w17 M18 => ?_)
  exact fr_some
abbrev W_X10_bribe  : Nat → Nat → Prop := fm_W [(102, none), (76, some 0), (76, some 32)]
theorem frG_X10_bribe_61  : ∀ (n : Nat)  (l1 : Int32) (l2 : Int32) (l3 : Int32) (l4 : Int32) (l5 : Int32) (M : fm_M), fm_Fr (W_X10_bribe) M (G_X10_bribe_61 n l1 l2 l3 l4 l5 M) := by
  intro n
  induction n with
  | zero => intro l1 l2 l3 l4 l5 M; simp only [G_X10_bribe_61]; exact fr_none
  | succ n ih0 =>
    intro l1 l2 l3 l4 l5 M
    have ih := ih0 l1 l2 l3
    rw [G_X10_bribe_61]
    refine fr_gdh (fun g8 => ?_)
    refine fr_it ?_ ?_
    · exact fr_some
    · refine fr_bd (fr_mono (fr_X10_humOf _ _ _ _) (fm_Wsub [2] rfl)) (fun v9 M10 => ?_)
      refine fr_lt (fun x11 => ?_)
      exact ih _ _ _
theorem frJ_X10_bribe_169  (rec : Int32 → Int32 → Int32 → Int32 → fm_M → Option ((Int32 × Int32 × Int32 × Int32) × fm_M)) (ih : ∀ (l8 : Int32) (l9 : Int32) (l10 : Int32) (l11 : Int32) (M : fm_M), fm_Fr (W_X10_bribe) M (rec l8 l9 l10 l11 M)) (l1 : Int32) (l2 : Int32) (l3 : Int32) (l4 : Int32) (l5 : Int32) (l6 : Int32) (l7 : Int32) (l8 : Int32) (l9 : Int32) (l10 : Int32) (l11 : Int32) (l12 : Int32) (s0 : Int32) (s1 : Int32) (M : fm_M) : fm_Fr (W_X10_bribe) M (J_X10_bribe_169 rec l1 l2 l3 l4 l5 l6 l7 l8 l9 l10 l11 l12 s0 s1 M) := by
  rw [J_X10_bribe_169]
  refine fr_lt (fun x21 => ?_)
  refine fr_gdh (fun g22 => ?_)
  refine fr_lt (fun x23 => ?_)
  refine fr_gdh (fun g24 => ?_)
  refine fr_lt (fun x25 => ?_)
  exact ih _ _ _ _ _
theorem frG_X10_bribe_122  : ∀ (n : Nat)  (l1 : Int32) (l2 : Int32) (l3 : Int32) (l4 : Int32) (l5 : Int32) (l6 : Int32) (l7 : Int32) (l8 : Int32) (l9 : Int32) (l10 : Int32) (l11 : Int32) (M : fm_M), fm_Fr (W_X10_bribe) M (G_X10_bribe_122 n l1 l2 l3 l4 l5 l6 l7 l8 l9 l10 l11 M) := by
  intro n
  induction n with
  | zero => intro l1 l2 l3 l4 l5 l6 l7 l8 l9 l10 l11 M; simp only [G_X10_bribe_122]; exact fr_none
  | succ n ih0 =>
    intro l1 l2 l3 l4 l5 l6 l7 l8 l9 l10 l11 M
    have ih := ih0 l1 l2 l3 l4 l5 l6 l7
    rw [G_X10_bribe_122]
    refine fr_it ?_ ?_
    · exact fr_some
    · refine fr_bd (fr_mono (fr_X10_nines _ _) (fm_Wsub [] rfl)) (fun v16 M17 => ?_)
      refine fr_gdh (fun g18 => ?_)
      refine fr_lt (fun x19 => ?_)
      refine fr_gdh (fun g20 => ?_)
      refine fr_it ?_ ?_
      · exact frJ_X10_bribe_169  _ (fun y0 y1 y2 y3 y4 => ih y0 y1 y2 y3 y4) _ _ _ _ _ _ _ _ _ _ _ _ _ _ _
      · exact frJ_X10_bribe_169  _ (fun y0 y1 y2 y3 y4 => ih y0 y1 y2 y3 y4) _ _ _ _ _ _ _ _ _ _ _ _ _ _ _
theorem frJ_X10_bribe_233  (rec : Int32 → Int32 → Int32 → fm_M → Option ((Int32 × Int32 × Int32) × fm_M)) (ih : ∀ (l5 : Int32) (l6 : Int32) (l7 : Int32) (M : fm_M), fm_Fr (W_X10_bribe) M (rec l5 l6 l7 M)) (l1 : Int32) (l2 : Int32) (l3 : Int32) (l4 : Int32) (l5 : Int32) (l6 : Int32) (l7 : Int32) (l8 : Int32) (l9 : Int32) (l10 : Int32) (l11 : Int32) (M : fm_M) : fm_Fr (W_X10_bribe) M (J_X10_bribe_233 rec l1 l2 l3 l4 l5 l6 l7 l8 l9 l10 l11 M) := by
  rw [J_X10_bribe_233]
  refine fr_bd (fr_mono (fr_X10_passes _ _ _ _) (fm_Wsub [2] rfl)) (fun v28 M29 => ?_)
  refine fr_it ?_ ?_
  · exact ih _ _ _ _
  · exact ih _ _ _ _
theorem frG_X10_bribe_100  : ∀ (n : Nat)  (l1 : Int32) (l2 : Int32) (l3 : Int32) (l4 : Int32) (l5 : Int32) (l6 : Int32) (l7 : Int32) (M : fm_M), fm_Fr (W_X10_bribe) M (G_X10_bribe_100 n l1 l2 l3 l4 l5 l6 l7 M) := by
  intro n
  induction n with
  | zero => intro l1 l2 l3 l4 l5 l6 l7 M; simp only [G_X10_bribe_100]; exact fr_none
  | succ n ih0 =>
    intro l1 l2 l3 l4 l5 l6 l7 M
    have ih := ih0 l1 l2 l3 l4
    rw [G_X10_bribe_100]
    refine fr_bd (fr_mono (fr_X10_nines _ _) (fm_Wsub [] rfl)) (fun v14 M15 => ?_)
    refine fr_it ?_ ?_
    · exact fr_some
    · refine fr_bd (frG_X10_bribe_122  _ _ _ _ _ _ _ _ _ _ _ _ _) (fun w26 M27 => ?_)
      refine fr_it ?_ ?_
      · exact ih _ _ _ _
      · refine fr_it ?_ ?_
        · exact frJ_X10_bribe_233  _ (fun y0 y1 y2 y3 => ih y0 y1 y2 y3) _ _ _ _ _ _ _ _ _ _ _ _
        · refine fr_it ?_ ?_
          · exact ih _ _ _ _
          · exact frJ_X10_bribe_233  _ (fun y0 y1 y2 y3 => ih y0 y1 y2 y3) _ _ _ _ _ _ _ _ _ _ _ _
theorem frJ_X10_bribe_49  (l1 : Int32) (l2 : Int32) (l3 : Int32) (M : fm_M) : fm_Fr (W_X10_bribe) M (J_X10_bribe_49 l1 l2 l3 M) := by
  rw [J_X10_bribe_49]
  refine fr_bd (fr_mono (fr_X10_layFiled _ _ _) (fm_Wsub [0, 2] rfl)) (fun v6 M7 => ?_)
  refine fr_bd (frG_X10_bribe_61  _ _ _ _ _ _ _) (fun w12 M13 => ?_)
  refine fr_bd (frG_X10_bribe_100  _ _ _ _ _ _ _ _ _) (fun w30 M31 => ?_)
  refine fr_it ?_ ?_
  · exact fr_some
  · refine fr_it ?_ ?_
    · exact fr_some
    · refine fr_bd (fr_mono (fr_X10_nines _ _) (fm_Wsub [] rfl)) (fun v32 M33 => ?_)
      refine fr_gdh (fun g34 => ?_)
      exact fr_some
theorem fr_X10_bribe (a1 : Int32) (a2 : Int32) (M : fm_M) : fm_Fr (W_X10_bribe) M (F_X10_bribe a1 a2 M) := by
  rw [F_X10_bribe]
  refine fr_up (fm_Wf 1 rfl) (fun M1 => ?_)
  refine fr_bd (fr_mono (fr_X10_isNote _ _) (fm_Wsub [] rfl)) (fun v2 M3 => ?_)
  refine fr_it ?_ ?_
  · exact fr_some
  · refine fr_it ?_ ?_
    · exact fr_some
    · refine fr_it ?_ ?_
      · refine fr_gdh (fun g4 => ?_)
        refine fr_lt (fun x5 => ?_)
        refine fr_it ?_ ?_
        · exact frJ_X10_bribe_49  _ _ _ _
        · refine fr_it ?_ ?_
          · exact frJ_X10_bribe_49  _ _ _ _
          · exact fr_some
      · exact fr_some
abbrev W_X10_swing  : Nat → Nat → Prop := fm_W [(76, some 0), (76, some 32)]
theorem frG_X10_swing_68  : ∀ (n : Nat)  (l1 : Int32) (l2 : Int32) (l3 : Int32) (l4 : Int32) (l5 : Int32) (l6 : Int32) (l7 : Int32) (M : fm_M), fm_Fr (W_X10_swing) M (G_X10_swing_68 n l1 l2 l3 l4 l5 l6 l7 M) := by
  intro n
  induction n with
  | zero => intro l1 l2 l3 l4 l5 l6 l7 M; simp only [G_X10_swing_68]; exact fr_none
  | succ n ih0 =>
    intro l1 l2 l3 l4 l5 l6 l7 M
    have ih := ih0 l1 l2 l3 l4 l5
    rw [G_X10_swing_68]
    refine fr_gdh (fun g9 => ?_)
    refine fr_it ?_ ?_
    · exact fr_some
    · refine fr_it ?_ ?_
      · refine fr_bd (fr_mono (fr_X10_humOf _ _ _ _) (fm_Wsub [1] rfl)) (fun v11 M12 => ?_)
        refine fr_lt (fun x13 => ?_)
        exact ih _ _ _
      · refine fr_lt (fun x10 => ?_)
        exact ih _ _ _
theorem frG_X10_swing_36  : ∀ (n : Nat)  (l1 : Int32) (l2 : Int32) (l3 : Int32) (l4 : Int32) (l5 : Int32) (M : fm_M), fm_Fr (W_X10_swing) M (G_X10_swing_36 n l1 l2 l3 l4 l5 M) := by
  intro n
  induction n with
  | zero => intro l1 l2 l3 l4 l5 M; simp only [G_X10_swing_36]; exact fr_none
  | succ n ih0 =>
    intro l1 l2 l3 l4 l5 M
    have ih := ih0 l1 l2 l3
    rw [G_X10_swing_36]
    refine fr_gdh (fun g8 => ?_)
    refine fr_it ?_ ?_
    · exact fr_some
    · refine fr_it ?_ ?_
      · exact ih _ _ _
      · refine fr_bd (frG_X10_swing_68  _ _ _ _ _ _ _ _ _) (fun w14 M15 => ?_)
        refine fr_gdh (fun g16 => ?_)
        refine fr_it ?_ ?_
        · refine fr_lt (fun x17 => ?_)
          exact ih _ _ _
        · refine fr_gdh (fun g18 => ?_)
          refine fr_it ?_ ?_
          · refine fr_lt (fun x19 => ?_)
            exact ih _ _ _
          · refine fr_lt (fun x20 => ?_)
            exact ih _ _ _
theorem fr_X10_swing (a1 : Int32) (a2 : Int32) (M : fm_M) : fm_Fr (W_X10_swing) M (F_X10_swing a1 a2 M) := by
  rw [F_X10_swing]
  refine fr_up (fm_Wf 0 rfl) (fun M1 => ?_)
  refine fr_bd (fr_mono (fr_X10_isFork _ _) (fm_Wsub [] rfl)) (fun v2 M3 => ?_)
  refine fr_it ?_ ?_
  · exact fr_some
  · refine fr_bd (fr_mono (fr_X10_isNote _ _) (fm_Wsub [] rfl)) (fun v4 M5 => ?_)
    refine fr_it ?_ ?_
    · exact fr_some
    · refine fr_bd (fr_mono (fr_X10_humOf _ _ _ _) (fm_Wsub [1] rfl)) (fun v6 M7 => ?_)
      refine fr_bd (frG_X10_swing_36  _ _ _ _ _ _ _) (fun w21 M22 => ?_)
      exact fr_some
abbrev W_X10_bitsOf  : Nat → Nat → Prop := fm_W []
theorem frG_X10_bitsOf_4  : ∀ (n : Nat)  (l0 : Int32) (l1 : Int32) (l2 : Int32) (M : fm_M), fm_Fr (W_X10_bitsOf) M (G_X10_bitsOf_4 n l0 l1 l2 M) := by
  intro n
  induction n with
  | zero => intro l0 l1 l2 M; simp only [G_X10_bitsOf_4]; exact fr_none
  | succ n ih0 =>
    intro l0 l1 l2 M
    have ih := ih0 l0
    rw [G_X10_bitsOf_4]
    refine fr_it ?_ ?_
    · exact fr_some
    · refine fr_lt (fun x1 => ?_)
      exact ih _ _ _
theorem fr_X10_bitsOf (a0 : Int32) (M : fm_M) : fm_Fr (W_X10_bitsOf) M (F_X10_bitsOf a0 M) := by
  rw [F_X10_bitsOf]
  refine fr_bd (frG_X10_bitsOf_4  _ _ _ _ _) (fun w2 M3 => ?_)
  exact fr_some
abbrev W_X10_censure  : Nat → Nat → Prop := fm_W [(76, some 0), (76, some 32)]
theorem frG_X10_censure_55  : ∀ (n : Nat)  (l1 : Int32) (l2 : Int32) (l3 : Int32) (l4 : Int32) (l5 : Int32) (M : fm_M), fm_Fr (W_X10_censure) M (G_X10_censure_55 n l1 l2 l3 l4 l5 M) := by
  intro n
  induction n with
  | zero => intro l1 l2 l3 l4 l5 M; simp only [G_X10_censure_55]; exact fr_none
  | succ n ih0 =>
    intro l1 l2 l3 l4 l5 M
    have ih := ih0 l1 l2 l3
    rw [G_X10_censure_55]
    refine fr_gdh (fun g5 => ?_)
    refine fr_it ?_ ?_
    · exact fr_some
    · refine fr_it ?_ ?_
      · refine fr_bd (fr_mono (fr_X10_humOf _ _ _ _) (fm_Wsub [1] rfl)) (fun v7 M8 => ?_)
        refine fr_lt (fun x9 => ?_)
        exact ih _ _ _
      · refine fr_lt (fun x6 => ?_)
        exact ih _ _ _
theorem frJ_X10_censure_49  (rec : Int32 → Int32 → fm_M → Option ((Int32 × Int32) × fm_M)) (ih : ∀ (l2 : Int32) (l3 : Int32) (M : fm_M), fm_Fr (W_X10_censure) M (rec l2 l3 M)) (l1 : Int32) (l2 : Int32) (l3 : Int32) (M : fm_M) : fm_Fr (W_X10_censure) M (J_X10_censure_49 rec l1 l2 l3 M) := by
  rw [J_X10_censure_49]
  refine fr_bd (frG_X10_censure_55  _ _ _ _ _ _ _) (fun w10 M11 => ?_)
  refine fr_bd (fr_mono (fr_X10_passes _ _ _ _) (fm_Wsub [1] rfl)) (fun v12 M13 => ?_)
  refine fr_it ?_ ?_
  · exact ih _ _ _
  · exact ih _ _ _
theorem frG_X10_censure_19  : ∀ (n : Nat)  (l1 : Int32) (l2 : Int32) (l3 : Int32) (M : fm_M), fm_Fr (W_X10_censure) M (G_X10_censure_19 n l1 l2 l3 M) := by
  intro n
  induction n with
  | zero => intro l1 l2 l3 M; simp only [G_X10_censure_19]; exact fr_none
  | succ n ih0 =>
    intro l1 l2 l3 M
    have ih := ih0 l1
    rw [G_X10_censure_19]
    refine fr_gdh (fun g4 => ?_)
    refine fr_it ?_ ?_
    · exact fr_some
    · refine fr_it ?_ ?_
      · exact frJ_X10_censure_49  _ (fun y0 y1 y2 => ih y0 y1 y2) _ _ _ _
      · refine fr_bd (fr_mono (fr_X10_bitsOf _ _) (fm_Wsub [] rfl)) (fun v14 M15 => ?_)
        refine fr_bd (fr_mono (fr_X10_bitsOf _ _) (fm_Wsub [] rfl)) (fun v16 M17 => ?_)
        refine fr_it ?_ ?_
        · exact frJ_X10_censure_49  _ (fun y0 y1 y2 => ih y0 y1 y2) _ _ _ _
        · exact ih _ _ _
theorem fr_X10_censure (a1 : Int32) (M : fm_M) : fm_Fr (W_X10_censure) M (F_X10_censure a1 M) := by
  rw [F_X10_censure]
  refine fr_up (fm_Wf 0 rfl) (fun M1 => ?_)
  refine fr_bd (fr_mono (fr_X10_isNote _ _) (fm_Wsub [] rfl)) (fun v2 M3 => ?_)
  refine fr_it ?_ ?_
  · exact fr_some
  · refine fr_bd (frG_X10_censure_19  _ _ _ _ _) (fun w18 M19 => ?_)
    exact fr_some
abbrev W_X10_party  : Nat → Nat → Prop := fm_W [(76, some 0), (76, some 32)]
theorem frG_X10_party_28  : ∀ (n : Nat)  (l1 : Int32) (l2 : Int32) (l3 : Int32) (l4 : Int32) (M : fm_M), fm_Fr (W_X10_party) M (G_X10_party_28 n l1 l2 l3 l4 M) := by
  intro n
  induction n with
  | zero => intro l1 l2 l3 l4 M; simp only [G_X10_party_28]; exact fr_none
  | succ n ih0 =>
    intro l1 l2 l3 l4 M
    have ih := ih0 l1 l2
    rw [G_X10_party_28]
    refine fr_gdh (fun g4 => ?_)
    refine fr_it ?_ ?_
    · exact fr_some
    · refine fr_gdh (fun g5 => ?_)
      refine fr_it ?_ ?_
      · refine fr_bd (fr_mono (fr_X10_humOf _ _ _ _) (fm_Wsub [1] rfl)) (fun v7 M8 => ?_)
        refine fr_lt (fun x9 => ?_)
        exact ih _ _ _
      · refine fr_lt (fun x6 => ?_)
        exact ih _ _ _
theorem fr_X10_party (a1 : Int32) (a2 : Int32) (M : fm_M) : fm_Fr (W_X10_party) M (F_X10_party a1 a2 M) := by
  rw [F_X10_party]
  refine fr_up (fm_Wf 0 rfl) (fun M1 => ?_)
  refine fr_it ?_ ?_
  · exact fr_some
  · refine fr_it ?_ ?_
    · exact fr_some
    · refine fr_bd (fr_mono (fr_X10_isNote _ _) (fm_Wsub [] rfl)) (fun v2 M3 => ?_)
      refine fr_it ?_ ?_
      · exact fr_some
      · refine fr_bd (frG_X10_party_28  _ _ _ _ _ _) (fun w10 M11 => ?_)
        exact fr_some
abbrev W_X10_heldPitch  : Nat → Nat → Prop := fm_W []
theorem fr_X10_heldPitch (a0 : Int32) (M : fm_M) : fm_Fr (W_X10_heldPitch) M (F_X10_heldPitch a0 M) := by
  rw [F_X10_heldPitch]
  exact fr_some
abbrev W_X10_layAgainst  : Nat → Nat → Prop := fm_W [(100, none), (101, none), (103, none), (104, none), (76, some 32), (94, none), (95, none), (96, none), (97, none), (98, none), (99, none)]
theorem frJ_X10_layAgainst_132  (rec : Int32 → fm_M → Option ((Int32) × fm_M)) (ih : ∀ (l4 : Int32) (M : fm_M), fm_Fr (W_X10_layAgainst) M (rec l4 M)) (l1 : Int32) (l2 : Int32) (l3 : Int32) (l4 : Int32) (l5 : Int32) (s1 : Int32) (s2 : Int32) (M : fm_M) : fm_Fr (W_X10_layAgainst) M (J_X10_layAgainst_132 rec l1 l2 l3 l4 l5 s1 s2 M) := by
  rw [J_X10_layAgainst_132]
  refine fr_gdh (fun g20 => ?_)
  refine fr_gdh (fun g21 => ?_)
  refine fr_up (fm_Wi 3 rfl) (fun M22 => ?_)
  exact ih _ _
theorem frJ_X10_layAgainst_97  (rec : Int32 → fm_M → Option ((Int32) × fm_M)) (ih : ∀ (l4 : Int32) (M : fm_M), fm_Fr (W_X10_layAgainst) M (rec l4 M)) (l1 : Int32) (l2 : Int32) (l3 : Int32) (l4 : Int32) (l5 : Int32) (s1 : Int32) (s2 : Int32) (M : fm_M) : fm_Fr (W_X10_layAgainst) M (J_X10_layAgainst_97 rec l1 l2 l3 l4 l5 s1 s2 M) := by
  rw [J_X10_layAgainst_97]
  refine fr_gdh (fun g17 => ?_)
  refine fr_gdh (fun g18 => ?_)
  refine fr_up (fm_Wi 2 rfl) (fun M19 => ?_)
  refine fr_it ?_ ?_
  · exact frJ_X10_layAgainst_132  _ (fun y0 y1 => ih y0 y1) _ _ _ _ _ _ _ _
  · exact frJ_X10_layAgainst_132  _ (fun y0 y1 => ih y0 y1) _ _ _ _ _ _ _ _
theorem frG_X10_layAgainst_3  : ∀ (n : Nat)  (l1 : Int32) (l2 : Int32) (l3 : Int32) (l4 : Int32) (M : fm_M), fm_Fr (W_X10_layAgainst) M (G_X10_layAgainst_3 n l1 l2 l3 l4 M) := by
  intro n
  induction n with
  | zero => intro l1 l2 l3 l4 M; simp only [G_X10_layAgainst_3]; exact fr_none
  | succ n ih0 =>
    intro l1 l2 l3 l4 M
    have ih := ih0 l1 l2 l3
    rw [G_X10_layAgainst_3]
    refine fr_it ?_ ?_
    · exact fr_some
    · refine fr_bd (fr_mono (fr_X10_copies _ _ _) (fm_Wsub [0, 1, 5, 6, 7, 8, 9, 10] rfl)) (fun v1 M2 => ?_)
      refine fr_gdh (fun g3 => ?_)
      refine fr_bd (fr_mono (fr_X10_heldPitch _ _) (fm_Wsub [] rfl)) (fun v4 M5 => ?_)
      refine fr_gdh (fun g6 => ?_)
      refine fr_up (fm_Wi 9 rfl) (fun M7 => ?_)
      refine fr_gdh (fun g8 => ?_)
      refine fr_bd (fr_mono (fr_X10_heldPitch _ _) (fm_Wsub [] rfl)) (fun v9 M10 => ?_)
      refine fr_gdh (fun g11 => ?_)
      refine fr_up (fm_Wi 9 rfl) (fun M12 => ?_)
      refine fr_bd (fr_mono (fr_X10_humAll _ _ _) (fm_Wsub [4] rfl)) (fun v13 M14 => ?_)
      refine fr_bd (fr_mono (fr_X10_passes _ _ _ _) (fm_Wsub [4] rfl)) (fun v15 M16 => ?_)
      refine fr_it ?_ ?_
      · exact frJ_X10_layAgainst_97  _ (fun y0 y1 => ih y0 y1) _ _ _ _ _ _ _ _
      · exact frJ_X10_layAgainst_97  _ (fun y0 y1 => ih y0 y1) _ _ _ _ _ _ _ _
theorem fr_X10_layAgainst (a1 : Int32) (a2 : Int32) (a3 : Int32) (M : fm_M) : fm_Fr (W_X10_layAgainst) M (F_X10_layAgainst a1 a2 a3 M) := by
  rw [F_X10_layAgainst]
  refine fr_bd (frG_X10_layAgainst_3  _ _ _ _ _ _) (fun w23 M24 => ?_)
  exact fr_some
abbrev W_X10_isRest  : Nat → Nat → Prop := fm_W []
theorem frG_X10_isRest_2  : ∀ (n : Nat)  (l1 : Int32) (l2 : Int32) (M : fm_M), fm_Fr (W_X10_isRest) M (G_X10_isRest_2 n l1 l2 M) := by
  intro n
  induction n with
  | zero => intro l1 l2 M; simp only [G_X10_isRest_2]; exact fr_none
  | succ n ih0 =>
    intro l1 l2 M
    have ih := ih0 l1
    rw [G_X10_isRest_2]
    refine fr_it ?_ ?_
    · exact fr_some
    · refine fr_gdh (fun g1 => ?_)
      refine fr_gdh (fun g2 => ?_)
      refine fr_it ?_ ?_
      · exact fr_some
      · refine fr_gdh (fun g3 => ?_)
        refine fr_gdh (fun g4 => ?_)
        refine fr_it ?_ ?_
        · exact ih _ _
        · exact fr_some
theorem fr_X10_isRest (a1 : Int32) (M : fm_M) : fm_Fr (W_X10_isRest) M (F_X10_isRest a1 M) := by
  rw [F_X10_isRest]
  refine fr_bs (frG_X10_isRest_2  _ _ _ _) (fun w5 M6 => ?_) (fun _ _ => fr_some)
  exact fr_some
abbrev W_X10_restOf  : Nat → Nat → Prop := fm_W []
theorem frG_X10_restOf_4  : ∀ (n : Nat)  (l1 : Int32) (l2 : Int32) (l3 : Int32) (M : fm_M), fm_Fr (W_X10_restOf) M (G_X10_restOf_4 n l1 l2 l3 M) := by
  intro n
  induction n with
  | zero => intro l1 l2 l3 M; simp only [G_X10_restOf_4]; exact fr_none
  | succ n ih0 =>
    intro l1 l2 l3 M
    have ih := ih0 l1
    rw [G_X10_restOf_4]
    refine fr_it ?_ ?_
    · exact fr_some
    · refine fr_bd (fr_mono (fr_X10_isRest _ _) (fm_Wsub [] rfl)) (fun v1 M2 => ?_)
      refine fr_it ?_ ?_
      · exact ih _ _ _
      · refine fr_it ?_ ?_
        · exact fr_some
        · exact ih _ _ _
theorem fr_X10_restOf (a1 : Int32) (M : fm_M) : fm_Fr (W_X10_restOf) M (F_X10_restOf a1 M) := by
  rw [F_X10_restOf]
  refine fr_bs (frG_X10_restOf_4  _ _ _ _ _) (fun w3 M4 => ?_) (fun _ _ => fr_some)
  refine fr_it ?_ ?_
  · exact fr_some
  · exact fr_some
abbrev W_X10_areAgainst  : Nat → Nat → Prop := fm_W []
theorem fr_X10_areAgainst (a1 : Int32) (a2 : Int32) (a3 : Int32) (M : fm_M) : fm_Fr (W_X10_areAgainst) M (F_X10_areAgainst a1 a2 a3 M) := by
  rw [F_X10_areAgainst]
  refine fr_bd (fr_mono (fr_X10_isFork _ _) (fm_Wsub [] rfl)) (fun v1 M2 => ?_)
  refine fr_it ?_ ?_
  · exact fr_some
  · refine fr_bd (fr_mono (fr_X10_isFork _ _) (fm_Wsub [] rfl)) (fun v3 M4 => ?_)
    refine fr_it ?_ ?_
    · exact fr_some
    · refine fr_it ?_ ?_
      · exact fr_some
      · refine fr_bd (fr_mono (fr_X10_isNote _ _) (fm_Wsub [] rfl)) (fun v5 M6 => ?_)
        refine fr_it ?_ ?_
        · exact fr_some
        · exact fr_some
abbrev W_X10_rests  : Nat → Nat → Prop := fm_W [(100, none), (101, none), (103, none), (104, none), (76, some 0), (76, some 32), (94, none), (95, none), (96, none), (97, none), (98, none), (99, none)]
theorem fr_X10_rests (a1 : Int32) (a2 : Int32) (a3 : Int32) (M : fm_M) : fm_Fr (W_X10_rests) M (F_X10_rests a1 a2 a3 M) := by
  rw [F_X10_rests]
  refine fr_up (fm_Wf 4 rfl) (fun M1 => ?_)
  refine fr_bd (fr_mono (fr_X10_areAgainst _ _ _ _) (fm_Wsub [] rfl)) (fun v2 M3 => ?_)
  refine fr_it ?_ ?_
  · exact fr_some
  · refine fr_bd (fr_mono (fr_X10_layAgainst _ _ _ _) (fm_Wsub [0, 1, 2, 3, 5, 6, 7, 8, 9, 10, 11] rfl)) (fun v4 M5 => ?_)
    refine fr_bd (fr_mono (fr_X10_restOf _ _) (fm_Wsub [] rfl)) (fun v6 M7 => ?_)
    exact fr_some
abbrev W_X10_rest  : Nat → Nat → Prop := fm_W [(100, none), (101, none), (103, none), (104, none), (76, some 0), (76, some 32), (94, none), (95, none), (96, none), (97, none), (98, none), (99, none)]
theorem fr_X10_rest (a1 : Int32) (a2 : Int32) (a3 : Int32) (a4 : Int32) (M : fm_M) : fm_Fr (W_X10_rest) M (F_X10_rest a1 a2 a3 a4 M) := by
  rw [F_X10_rest]
  refine fr_up (fm_Wf 4 rfl) (fun M1 => ?_)
  refine fr_bd (fr_mono (fr_X10_areAgainst _ _ _ _) (fm_Wsub [] rfl)) (fun v2 M3 => ?_)
  refine fr_it ?_ ?_
  · exact fr_some
  · refine fr_it ?_ ?_
    · refine fr_bd (fr_mono (fr_X10_layAgainst _ _ _ _) (fm_Wsub [0, 1, 2, 3, 5, 6, 7, 8, 9, 10, 11] rfl)) (fun v4 M5 => ?_)
      refine fr_bd (fr_mono (fr_X10_restOf _ _) (fm_Wsub [] rfl)) (fun v6 M7 => ?_)
      exact fr_some
    · exact fr_some
abbrev W_X10_common  : Nat → Nat → Prop := fm_W []
theorem frG_X10_common_4  : ∀ (n : Nat)  (l0 : Int32) (l1 : Int32) (l2 : Int32) (l3 : Int32) (M : fm_M), fm_Fr (W_X10_common) M (G_X10_common_4 n l0 l1 l2 l3 M) := by
  intro n
  induction n with
  | zero => intro l0 l1 l2 l3 M; simp only [G_X10_common_4]; exact fr_none
  | succ n ih0 =>
    intro l0 l1 l2 l3 M
    have ih := ih0 l0 l1
    rw [G_X10_common_4]
    refine fr_it ?_ ?_
    · exact fr_some
    · refine fr_gdh (fun g1 => ?_)
      refine fr_lt (fun x2 => ?_)
      exact ih _ _ _
theorem fr_X10_common (a0 : Int32) (a1 : Int32) (M : fm_M) : fm_Fr (W_X10_common) M (F_X10_common a0 a1 M) := by
  rw [F_X10_common]
  refine fr_bd (frG_X10_common_4  _ _ _ _ _ _) (fun w3 M4 => ?_)
  exact fr_some
abbrev W_X10_likely  : Nat → Nat → Prop := fm_W [(76, some 0), (76, some 32), (76, some 45)]
theorem frG_X10_likely_29  : ∀ (n : Nat)  (l1 : Int32) (l2 : Int32) (l3 : Int32) (l4 : Int32) (M : fm_M), fm_Fr (W_X10_likely) M (G_X10_likely_29 n l1 l2 l3 l4 M) := by
  intro n
  induction n with
  | zero => intro l1 l2 l3 l4 M; simp only [G_X10_likely_29]; exact fr_none
  | succ n ih0 =>
    intro l1 l2 l3 l4 M
    have ih := ih0 l1 l2
    rw [G_X10_likely_29]
    refine fr_it ?_ ?_
    · exact fr_some
    · refine fr_up (fm_Wf 2 rfl) (fun M4 => ?_)
      refine fr_gdh (fun g5 => ?_)
      refine fr_gdh (fun g6 => ?_)
      refine fr_bd (fr_mono (fr_X10_humAll _ _ _) (fm_Wsub [1] rfl)) (fun v7 M8 => ?_)
      refine fr_bd (fr_mono (fr_X10_passes _ _ _ _) (fm_Wsub [1] rfl)) (fun v9 M10 => ?_)
      refine fr_it ?_ ?_
      · refine fr_lt (fun x11 => ?_)
        exact ih _ _ _
      · refine fr_lt (fun x12 => ?_)
        exact ih _ _ _
theorem fr_X10_likely (a1 : Int32) (a2 : Int32) (M : fm_M) : fm_Fr (W_X10_likely) M (F_X10_likely a1 a2 M) := by
  rw [F_X10_likely]
  refine fr_up (fm_Wf 0 rfl) (fun M1 => ?_)
  refine fr_bd (fr_mono (fr_X10_isMotion _ _) (fm_Wsub [] rfl)) (fun v2 M3 => ?_)
  refine fr_it ?_ ?_
  · exact fr_some
  · refine fr_it ?_ ?_
    · exact fr_some
    · refine fr_it ?_ ?_
      · refine fr_bd (frG_X10_likely_29  _ _ _ _ _ _) (fun w13 M14 => ?_)
        refine fr_up (fm_Wf 2 rfl) (fun M15 => ?_)
        refine fr_bd (fr_mono (fr_X10_common _ _ _) (fm_Wsub [] rfl)) (fun v16 M17 => ?_)
        refine fr_it ?_ ?_
        · refine fr_gdh (fun g19 => ?_)
          exact fr_some
        · refine fr_gdh (fun g18 => ?_)
          exact fr_some
      · exact fr_some
abbrev W_X10_power  : Nat → Nat → Prop := fm_W []
theorem frG_X10_power_4  : ∀ (n : Nat)  (l0 : Int32) (l1 : Int32) (l2 : Int32) (l3 : Int32) (M : fm_M), fm_Fr (W_X10_power) M (G_X10_power_4 n l0 l1 l2 l3 M) := by
  intro n
  induction n with
  | zero => intro l0 l1 l2 l3 M; simp only [G_X10_power_4]; exact fr_none
  | succ n ih0 =>
    intro l0 l1 l2 l3 M
    have ih := ih0 l0 l1
    rw [G_X10_power_4]
    refine fr_it ?_ ?_
    · exact fr_some
    · refine fr_lt (fun x1 => ?_)
      exact ih _ _ _
theorem fr_X10_power (a0 : Int32) (a1 : Int32) (M : fm_M) : fm_Fr (W_X10_power) M (F_X10_power a0 a1 M) := by
  rw [F_X10_power]
  refine fr_bd (frG_X10_power_4  _ _ _ _ _ _) (fun w2 M3 => ?_)
  exact fr_some
abbrev W_X10_layOrder  : Nat → Nat → Prop := fm_W [(100, none), (101, none), (105, none), (76, some 32), (76, some 52), (76, some 53), (76, some 54), (94, none), (95, none), (96, none), (97, none), (98, none), (99, none)]
theorem frG_X10_layOrder_7  : ∀ (n : Nat)  (l1 : Int32) (l2 : Int32) (M : fm_M), fm_Fr (W_X10_layOrder) M (G_X10_layOrder_7 n l1 l2 M) := by
  intro n
  induction n with
  | zero => intro l1 l2 M; simp only [G_X10_layOrder_7]; exact fr_none
  | succ n ih0 =>
    intro l1 l2 M
    have ih := ih0 l1
    rw [G_X10_layOrder_7]
    refine fr_gdh (fun g2 => ?_)
    refine fr_it ?_ ?_
    · exact fr_some
    · refine fr_it ?_ ?_
      · exact fr_some
      · refine fr_gdh (fun g3 => ?_)
        refine fr_it ?_ ?_
        · refine fr_gdh (fun g4 => ?_)
          refine fr_up (fm_Wi 2 rfl) (fun M5 => ?_)
          refine fr_up (fm_Wf 4 rfl) (fun M6 => ?_)
          exact ih _ _
        · exact ih _ _
theorem frG_X10_layOrder_91  : ∀ (n : Nat)  (l1 : Int32) (l2 : Int32) (l3 : Int32) (M : fm_M), fm_Fr (W_X10_layOrder) M (G_X10_layOrder_91 n l1 l2 l3 M) := by
  intro n
  induction n with
  | zero => intro l1 l2 l3 M; simp only [G_X10_layOrder_91]; exact fr_none
  | succ n ih0 =>
    intro l1 l2 l3 M
    have ih := ih0 l1 l2
    rw [G_X10_layOrder_91]
    refine fr_it ?_ ?_
    · exact fr_some
    · refine fr_gdh (fun g14 => ?_)
      refine fr_gdh (fun g15 => ?_)
      refine fr_bd (fr_mono (fr_X10_power _ _ _) (fm_Wsub [] rfl)) (fun v16 M17 => ?_)
      refine fr_gdh (fun g18 => ?_)
      refine fr_gdh (fun g19 => ?_)
      refine fr_gdh (fun g20 => ?_)
      refine fr_up (fm_Wi 12 rfl) (fun M21 => ?_)
      exact ih _ _
theorem frG_X10_layOrder_71  : ∀ (n : Nat)  (l1 : Int32) (l2 : Int32) (M : fm_M), fm_Fr (W_X10_layOrder) M (G_X10_layOrder_71 n l1 l2 M) := by
  intro n
  induction n with
  | zero => intro l1 l2 M; simp only [G_X10_layOrder_71]; exact fr_none
  | succ n ih0 =>
    intro l1 l2 M
    have ih := ih0 l1
    rw [G_X10_layOrder_71]
    refine fr_bd (fr_mono (fr_X10_power _ _ _) (fm_Wsub [] rfl)) (fun v10 M11 => ?_)
    refine fr_it ?_ ?_
    · exact fr_some
    · refine fr_bd (fr_mono (fr_X10_copies _ _ _) (fm_Wsub [0, 1, 7, 8, 9, 10, 11, 12] rfl)) (fun v12 M13 => ?_)
      refine fr_bd (frG_X10_layOrder_91  _ _ _ _ _) (fun w22 M23 => ?_)
      refine fr_bd (fr_mono (fr_X10_goesOn _ _) (fm_Wsub [0, 1, 3, 7, 10, 11] rfl)) (fun v24 M25 => ?_)
      refine fr_bd (fr_mono (fr_X10_manyOf _ _ _) (fm_Wsub [] rfl)) (fun v26 M27 => ?_)
      refine fr_bd (fr_mono (fr_X10_manyOf _ _ _) (fm_Wsub [] rfl)) (fun v28 M29 => ?_)
      refine fr_lt (fun x30 => ?_)
      refine fr_it ?_ ?_
      · refine fr_up (fm_Wf 5 rfl) (fun M31 => ?_)
        refine fr_up (fm_Wf 6 rfl) (fun M32 => ?_)
        exact ih _ _
      · exact ih _ _
theorem fr_X10_layOrder (a1 : Int32) (M : fm_M) : fm_Fr (W_X10_layOrder) M (F_X10_layOrder a1 M) := by
  rw [F_X10_layOrder]
  refine fr_up (fm_Wf 4 rfl) (fun M1 => ?_)
  refine fr_bd (frG_X10_layOrder_7  _ _ _ _) (fun w7 M8 => ?_)
  refine fr_up (fm_Wf 5 rfl) (fun M9 => ?_)
  refine fr_bd (frG_X10_layOrder_71  _ _ _ _) (fun w33 M34 => ?_)
  exact fr_some
abbrev W_X10_order  : Nat → Nat → Prop := fm_W [(100, none), (101, none), (105, none), (76, some 0), (76, some 32), (76, some 52), (76, some 53), (76, some 54), (94, none), (95, none), (96, none), (97, none), (98, none), (99, none)]
theorem fr_X10_order (a1 : Int32) (a2 : Int32) (M : fm_M) : fm_Fr (W_X10_order) M (F_X10_order a1 a2 M) := by
  rw [F_X10_order]
  refine fr_up (fm_Wf 3 rfl) (fun M1 => ?_)
  refine fr_it ?_ ?_
  · exact fr_some
  · refine fr_it ?_ ?_
    · exact fr_some
    · refine fr_it ?_ ?_
      · exact fr_some
      · refine fr_it ?_ ?_
        · refine fr_bd (fr_mono (fr_X10_layOrder _ _) (fm_Wsub [0, 1, 2, 4, 5, 6, 7, 8, 9, 10, 11, 12, 13] rfl)) (fun v2 M3 => ?_)
          refine fr_it ?_ ?_
          · exact fr_some
          · refine fr_it ?_ ?_
            · exact fr_some
            · refine fr_bd (fr_mono (fr_X10_power _ _ _) (fm_Wsub [] rfl)) (fun v4 M5 => ?_)
              refine fr_gdh (fun g6 => ?_)
              refine fr_gdh (fun g7 => ?_)
              exact fr_some
        · exact fr_some
abbrev W_X10_room  : Nat → Nat → Prop := fm_W [(76, some 0)]
theorem frG_X10_room_34  : ∀ (n : Nat)  (l1 : Int32) (l2 : Int32) (l3 : Int32) (l4 : Int32) (M : fm_M), fm_Fr (W_X10_room) M (G_X10_room_34 n l1 l2 l3 l4 M) := by
  intro n
  induction n with
  | zero => intro l1 l2 l3 l4 M; simp only [G_X10_room_34]; exact fr_none
  | succ n ih0 =>
    intro l1 l2 l3 l4 M
    have ih := ih0 l1 l2 l3
    rw [G_X10_room_34]
    refine fr_it ?_ ?_
    · exact fr_some
    · refine fr_gdh (fun g6 => ?_)
      refine fr_lt (fun x7 => ?_)
      refine fr_bd (fr_mono (fr_X10_isNote _ _) (fm_Wsub [] rfl)) (fun v8 M9 => ?_)
      refine fr_it ?_ ?_
      · exact ih _ _
      · refine fr_bd (fr_mono (fr_X10_beatsOf _ _ _ _) (fm_Wsub [] rfl)) (fun v10 M11 => ?_)
        refine fr_gdh (fun g12 => ?_)
        refine fr_it ?_ ?_
        · exact ih _ _
        · exact fr_some
theorem frG_X10_room_24  : ∀ (n : Nat)  (l1 : Int32) (l2 : Int32) (l3 : Int32) (M : fm_M), fm_Fr (W_X10_room) M (G_X10_room_24 n l1 l2 l3 M) := by
  intro n
  induction n with
  | zero => intro l1 l2 l3 M; simp only [G_X10_room_24]; exact fr_none
  | succ n ih0 =>
    intro l1 l2 l3 M
    have ih := ih0 l1 l2
    rw [G_X10_room_24]
    refine fr_it ?_ ?_
    · exact fr_some
    · refine fr_bs (frG_X10_room_34  _ _ _ _ _ _) (fun w13 M14 => ?_) (fun _ _ => fr_some)
      exact ih _ _
theorem fr_X10_room (a1 : Int32) (a2 : Int32) (M : fm_M) : fm_Fr (W_X10_room) M (F_X10_room a1 a2 M) := by
  rw [F_X10_room]
  refine fr_up (fm_Wf 0 rfl) (fun M1 => ?_)
  refine fr_bd (fr_mono (fr_X10_isFork _ _) (fm_Wsub [] rfl)) (fun v2 M3 => ?_)
  refine fr_it ?_ ?_
  · exact fr_some
  · refine fr_bd (fr_mono (fr_X10_isNote _ _) (fm_Wsub [] rfl)) (fun v4 M5 => ?_)
    refine fr_it ?_ ?_
    · exact fr_some
    · refine fr_bs (frG_X10_room_24  _ _ _ _ _) (fun w16 M17 => ?_) (fun _ _ => fr_some)
      exact fr_some
abbrev W_X10_minute  : Nat → Nat → Prop := fm_W [(106, none), (107, none), (108, none), (76, some 0), (76, some 55)]
theorem fr_X10_minute (a1 : Int32) (a2 : Int32) (M : fm_M) : fm_Fr (W_X10_minute) M (F_X10_minute a1 a2 M) := by
  rw [F_X10_minute]
  refine fr_up (fm_Wf 3 rfl) (fun M1 => ?_)
  refine fr_bd (fr_mono (fr_X10_isMotion _ _) (fm_Wsub [] rfl)) (fun v2 M3 => ?_)
  refine fr_it ?_ ?_
  · exact fr_some
  · refine fr_it ?_ ?_
    · exact fr_some
    · refine fr_gdh (fun g4 => ?_)
      refine fr_up (fm_Wi 0 rfl) (fun M5 => ?_)
      refine fr_gdh (fun g6 => ?_)
      refine fr_up (fm_Wi 1 rfl) (fun M7 => ?_)
      refine fr_gdh (fun g8 => ?_)
      refine fr_up (fm_Wi 2 rfl) (fun M9 => ?_)
      refine fr_up (fm_Wf 4 rfl) (fun M10 => ?_)
      exact fr_some
abbrev W_X10_out  : Nat → Nat → Prop := fm_W [(108, none), (76, some 0), (76, some 55)]
theorem fr_X10_out (a1 : Int32) (M : fm_M) : fm_Fr (W_X10_out) M (F_X10_out a1 M) := by
  rw [F_X10_out]
  refine fr_up (fm_Wf 1 rfl) (fun M1 => ?_)
  refine fr_it ?_ ?_
  · exact fr_some
  · refine fr_it ?_ ?_
    · exact fr_some
    · refine fr_it ?_ ?_
      · exact fr_some
      · refine fr_gdh (fun g2 => ?_)
        refine fr_up (fm_Wi 0 rfl) (fun M3 => ?_)
        refine fr_up (fm_Wf 2 rfl) (fun M4 => ?_)
        exact fr_some
abbrev W_X10_known  : Nat → Nat → Prop := fm_W [(76, some 0), (76, some 56)]
theorem fr_X10_known (a1 : Int32) (M : fm_M) : fm_Fr (W_X10_known) M (F_X10_known a1 M) := by
  rw [F_X10_known]
  refine fr_up (fm_Wf 0 rfl) (fun M1 => ?_)
  refine fr_it ?_ ?_
  · exact fr_some
  · refine fr_it ?_ ?_
    · refine fr_up (fm_Wf 1 rfl) (fun M2 => ?_)
      exact fr_some
    · exact fr_some
abbrev W_X10_knownMany  : Nat → Nat → Prop := fm_W []
theorem fr_X10_knownMany  (M : fm_M) : fm_Fr (W_X10_knownMany) M (F_X10_knownMany  M) := by
  rw [F_X10_knownMany]
  refine fr_it ?_ ?_
  · exact fr_some
  · exact fr_some
abbrev W_X10_fitsWidth  : Nat → Nat → Prop := fm_W [(100, none), (101, none), (76, some 32), (94, none), (95, none), (96, none), (97, none), (98, none), (99, none)]
theorem frJ_X10_fitsWidth_67  (rec : Int32 → fm_M → Option (((Int32) ⊕ Int32) × fm_M)) (ih : ∀ (l2 : Int32) (M : fm_M), fm_Fr (W_X10_fitsWidth) M (rec l2 M)) (l1 : Int32) (l2 : Int32) (s0 : Int32) (M : fm_M) : fm_Fr (W_X10_fitsWidth) M (J_X10_fitsWidth_67 rec l1 l2 s0 M) := by
  rw [J_X10_fitsWidth_67]
  refine fr_gdh (fun g11 => ?_)
  refine fr_it ?_ ?_
  · exact ih _ _
  · exact fr_some
theorem frG_X10_fitsWidth_14  : ∀ (n : Nat)  (l1 : Int32) (l2 : Int32) (M : fm_M), fm_Fr (W_X10_fitsWidth) M (G_X10_fitsWidth_14 n l1 l2 M) := by
  intro n
  induction n with
  | zero => intro l1 l2 M; simp only [G_X10_fitsWidth_14]; exact fr_none
  | succ n ih0 =>
    intro l1 l2 M
    have ih := ih0 l1
    rw [G_X10_fitsWidth_14]
    refine fr_bd (fr_mono (fr_X10_knownMany  _) (fm_Wsub [] rfl)) (fun v5 M6 => ?_)
    refine fr_it ?_ ?_
    · exact fr_some
    · refine fr_gdh (fun g7 => ?_)
      refine fr_it ?_ ?_
      · refine fr_gdh (fun g8 => ?_)
        refine fr_it ?_ ?_
        · refine fr_gdh (fun g9 => ?_)
          refine fr_gdh (fun g10 => ?_)
          refine fr_it ?_ ?_
          · exact frJ_X10_fitsWidth_67  _ (fun y0 y1 => ih y0 y1) _ _ _ _
          · exact frJ_X10_fitsWidth_67  _ (fun y0 y1 => ih y0 y1) _ _ _ _
        · exact ih _ _
      · exact ih _ _
theorem fr_X10_fitsWidth (a1 : Int32) (M : fm_M) : fm_Fr (W_X10_fitsWidth) M (F_X10_fitsWidth a1 M) := by
  rw [F_X10_fitsWidth]
  refine fr_bd (fr_mono (fr_X10_starts _ _) (fm_Wsub [0, 1, 3, 4, 5, 6, 7, 8] rfl)) (fun v1 M2 => ?_)
  refine fr_bd (fr_mono (fr_X10_goesOn _ _) (fm_Wsub [0, 1, 2, 3, 6, 7] rfl)) (fun v3 M4 => ?_)
  refine fr_bs (frG_X10_fitsWidth_14  _ _ _ _) (fun w12 M13 => ?_) (fun _ _ => fr_some)
  exact fr_some
abbrev W_X10_widths  : Nat → Nat → Prop := fm_W [(100, none), (101, none), (109, none), (76, some 0), (76, some 32), (76, some 46), (76, some 47), (94, none), (95, none), (96, none), (97, none), (98, none), (99, none)]
theorem frG_X10_widths_19  : ∀ (n : Nat)  (l1 : Int32) (l2 : Int32) (l3 : Int32) (M : fm_M), fm_Fr (W_X10_widths) M (G_X10_widths_19 n l1 l2 l3 M) := by
  intro n
  induction n with
  | zero => intro l1 l2 l3 M; simp only [G_X10_widths_19]; exact fr_none
  | succ n ih0 =>
    intro l1 l2 l3 M
    have ih := ih0 l1 l2
    rw [G_X10_widths_19]
    refine fr_bd (fr_mono (fr_X10_knownMany  _) (fm_Wsub [] rfl)) (fun v4 M5 => ?_)
    refine fr_it ?_ ?_
    · exact fr_some
    · refine fr_gdh (fun g6 => ?_)
      refine fr_up (fm_Wi 2 rfl) (fun M7 => ?_)
      exact ih _ _
theorem frG_X10_widths_47  : ∀ (n : Nat)  (l1 : Int32) (l2 : Int32) (l3 : Int32) (M : fm_M), fm_Fr (W_X10_widths) M (G_X10_widths_47 n l1 l2 l3 M) := by
  intro n
  induction n with
  | zero => intro l1 l2 l3 M; simp only [G_X10_widths_47]; exact fr_none
  | succ n ih0 =>
    intro l1 l2 l3 M
    have ih := ih0 l1 l2
    rw [G_X10_widths_47]
    refine fr_it ?_ ?_
    · exact fr_some
    · refine fr_gdh (fun g13 => ?_)
      refine fr_it ?_ ?_
      · refine fr_gdh (fun g14 => ?_)
        refine fr_it ?_ ?_
        · exact ih _ _
        · refine fr_gdh (fun g15 => ?_)
          refine fr_gdh (fun g16 => ?_)
          refine fr_up (fm_Wi 2 rfl) (fun M17 => ?_)
          exact ih _ _
      · exact ih _ _
theorem frG_X10_widths_90  : ∀ (n : Nat)  (l1 : Int32) (l2 : Int32) (l3 : Int32) (M : fm_M), fm_Fr (W_X10_widths) M (G_X10_widths_90 n l1 l2 l3 M) := by
  intro n
  induction n with
  | zero => intro l1 l2 l3 M; simp only [G_X10_widths_90]; exact fr_none
  | succ n ih0 =>
    intro l1 l2 l3 M
    have ih := ih0 l1
    rw [G_X10_widths_90]
    refine fr_bd (fr_mono (fr_X10_knownMany  _) (fm_Wsub [] rfl)) (fun v20 M21 => ?_)
    refine fr_it ?_ ?_
    · exact fr_some
    · refine fr_gdh (fun g22 => ?_)
      refine fr_it ?_ ?_
      · refine fr_gdh (fun g23 => ?_)
        refine fr_it ?_ ?_
        · refine fr_gdh (fun g24 => ?_)
          refine fr_gdh (fun g25 => ?_)
          refine fr_lt (fun x26 => ?_)
          exact ih _ _ _
        · exact ih _ _ _
      · exact ih _ _ _
theorem frG_X10_widths_149  : ∀ (n : Nat)  (l1 : Int32) (l2 : Int32) (l3 : Int32) (l4 : Int32) (M : fm_M), fm_Fr (W_X10_widths) M (G_X10_widths_149 n l1 l2 l3 l4 M) := by
  intro n
  induction n with
  | zero => intro l1 l2 l3 l4 M; simp only [G_X10_widths_149]; exact fr_none
  | succ n ih0 =>
    intro l1 l2 l3 l4 M
    have ih := ih0 l1 l2
    rw [G_X10_widths_149]
    refine fr_it ?_ ?_
    · exact fr_some
    · refine fr_up (fm_Wf 6 rfl) (fun M30 => ?_)
      refine fr_bd (fr_mono (fr_X10_fitsWidth _ _) (fm_Wsub [0, 1, 4, 7, 8, 9, 10, 11, 12] rfl)) (fun v31 M32 => ?_)
      refine fr_it ?_ ?_
      · refine fr_lt (fun x33 => ?_)
        exact ih _ _ _
      · refine fr_lt (fun x34 => ?_)
        exact ih _ _ _
theorem fr_X10_widths (a1 : Int32) (M : fm_M) : fm_Fr (W_X10_widths) M (F_X10_widths a1 M) := by
  rw [F_X10_widths]
  refine fr_up (fm_Wf 3 rfl) (fun M1 => ?_)
  refine fr_bd (fr_mono (fr_X10_isFork _ _) (fm_Wsub [] rfl)) (fun v2 M3 => ?_)
  refine fr_it ?_ ?_
  · exact fr_some
  · refine fr_bd (frG_X10_widths_19  _ _ _ _ _) (fun w8 M9 => ?_)
    refine fr_bd (fr_mono (fr_X10_knownMany  _) (fm_Wsub [] rfl)) (fun v10 M11 => ?_)
    refine fr_lt (fun x12 => ?_)
    refine fr_bd (frG_X10_widths_47  _ _ _ _ _) (fun w18 M19 => ?_)
    refine fr_bd (frG_X10_widths_90  _ _ _ _ _) (fun w27 M28 => ?_)
    refine fr_up (fm_Wf 5 rfl) (fun M29 => ?_)
    refine fr_bd (frG_X10_widths_149  _ _ _ _ _ _) (fun w35 M36 => ?_)
    refine fr_up (fm_Wf 5 rfl) (fun M37 => ?_)
    exact fr_some
abbrev W_X10_chance  : Nat → Nat → Prop := fm_W [(100, none), (101, none), (76, some 0), (76, some 32), (76, some 45), (94, none), (95, none), (96, none), (97, none), (98, none), (99, none)]
theorem frG_X10_chance_57  : ∀ (n : Nat)  (l1 : Int32) (l2 : Int32) (l3 : Int32) (l5 : Int32) (l6 : Int32) (l4 : Int32) (l7 : Int32) (M : fm_M), fm_Fr (W_X10_chance) M (G_X10_chance_57 n l1 l2 l3 l5 l6 l4 l7 M) := by
  intro n
  induction n with
  | zero => intro l1 l2 l3 l5 l6 l4 l7 M; simp only [G_X10_chance_57]; exact fr_none
  | succ n ih0 =>
    intro l1 l2 l3 l5 l6 l4 l7 M
    have ih := ih0 l1 l2 l3 l5 l6
    rw [G_X10_chance_57]
    refine fr_it ?_ ?_
    · exact fr_some
    · refine fr_lt (fun x4 => ?_)
      refine fr_up (fm_Wf 4 rfl) (fun M5 => ?_)
      refine fr_bd (fr_mono (fr_X10_dayGoes _ _) (fm_Wsub [0, 1, 3, 5, 8, 9] rfl)) (fun v6 M7 => ?_)
      exact ih _ _ _
theorem frG_X10_chance_41  : ∀ (n : Nat)  (l1 : Int32) (l2 : Int32) (l3 : Int32) (l4 : Int32) (l5 : Int32) (l6 : Int32) (M : fm_M), fm_Fr (W_X10_chance) M (G_X10_chance_41 n l1 l2 l3 l4 l5 l6 M) := by
  intro n
  induction n with
  | zero => intro l1 l2 l3 l4 l5 l6 M; simp only [G_X10_chance_41]; exact fr_none
  | succ n ih0 =>
    intro l1 l2 l3 l4 l5 l6 M
    have ih := ih0 l1 l2 l3
    rw [G_X10_chance_41]
    refine fr_it ?_ ?_
    · exact fr_some
    · refine fr_bd (fr_mono (fr_X10_copies _ _ _) (fm_Wsub [0, 1, 5, 6, 7, 8, 9, 10] rfl)) (fun v2 M3 => ?_)
      refine fr_bd (frG_X10_chance_57  _ _ _ _ _ _ _ _ _) (fun w8 M9 => ?_)
      refine fr_up (fm_Wf 4 rfl) (fun M10 => ?_)
      refine fr_bd (fr_mono (fr_X10_manyOf _ _ _) (fm_Wsub [] rfl)) (fun v11 M12 => ?_)
      refine fr_bd (fr_mono (fr_X10_manyOf _ _ _) (fm_Wsub [] rfl)) (fun v13 M14 => ?_)
      refine fr_it ?_ ?_
      · refine fr_lt (fun x15 => ?_)
        exact ih _ _ _ _
      · refine fr_lt (fun x16 => ?_)
        exact ih _ _ _ _
theorem fr_X10_chance (a1 : Int32) (a2 : Int32) (a3 : Int32) (M : fm_M) : fm_Fr (W_X10_chance) M (F_X10_chance a1 a2 a3 M) := by
  rw [F_X10_chance]
  refine fr_up (fm_Wf 2 rfl) (fun M1 => ?_)
  refine fr_it ?_ ?_
  · exact fr_some
  · refine fr_it ?_ ?_
    · exact fr_some
    · refine fr_it ?_ ?_
      · exact fr_some
      · refine fr_it ?_ ?_
        · exact fr_some
        · refine fr_it ?_ ?_
          · refine fr_bd (frG_X10_chance_41  _ _ _ _ _ _ _ _) (fun w17 M18 => ?_)
            exact fr_some
          · exact fr_some
abbrev W_X10_tried  : Nat → Nat → Prop := fm_W [(100, none), (101, none), (76, some 0), (76, some 32), (76, some 43), (76, some 44), (94, none), (95, none), (96, none), (97, none), (98, none), (99, none)]
theorem frJ_X10_tried_36  (l1 : Int32) (l2 : Int32) (l3 : Int32) (s0 : Int32) (M : fm_M) : fm_Fr (W_X10_tried) M (J_X10_tried_36 l1 l2 l3 s0 M) := by
  rw [J_X10_tried_36]
  refine fr_it ?_ ?_
  · exact fr_some
  · refine fr_it ?_ ?_
    · exact fr_some
    · refine fr_it ?_ ?_
      · refine fr_up (fm_Wf 4 rfl) (fun M2 => ?_)
        refine fr_up (fm_Wf 5 rfl) (fun M3 => ?_)
        refine fr_bd (fr_mono (fr_X10_copies _ _ _) (fm_Wsub [0, 1, 6, 7, 8, 9, 10, 11] rfl)) (fun v4 M5 => ?_)
        refine fr_bd (fr_mono (fr_X10_goesOn _ _) (fm_Wsub [0, 1, 3, 6, 9, 10] rfl)) (fun v6 M7 => ?_)
        refine fr_up (fm_Wf 4 rfl) (fun M8 => ?_)
        refine fr_up (fm_Wf 5 rfl) (fun M9 => ?_)
        refine fr_bd (fr_mono (fr_X10_manyOf _ _ _) (fm_Wsub [] rfl)) (fun v10 M11 => ?_)
        refine fr_bd (fr_mono (fr_X10_manyOf _ _ _) (fm_Wsub [] rfl)) (fun v12 M13 => ?_)
        exact fr_some
      · exact fr_some
theorem frJ_X10_tried_35  (l1 : Int32) (l2 : Int32) (l3 : Int32) (M : fm_M) : fm_Fr (W_X10_tried) M (J_X10_tried_35 l1 l2 l3 M) := by
  rw [J_X10_tried_35]
  exact frJ_X10_tried_36  _ _ _ _ _
theorem fr_X10_tried (a1 : Int32) (a2 : Int32) (a3 : Int32) (M : fm_M) : fm_Fr (W_X10_tried) M (F_X10_tried a1 a2 a3 M) := by
  rw [F_X10_tried]
  refine fr_up (fm_Wf 2 rfl) (fun M1 => ?_)
  refine fr_it ?_ ?_
  · refine fr_bd (fr_mono (fr_X10_isFork _ _) (fm_Wsub [] rfl)) (fun v14 M15 => ?_)
    exact frJ_X10_tried_36  _ _ _ _ _
  · refine fr_it ?_ ?_
    · exact frJ_X10_tried_35  _ _ _ _
    · refine fr_it ?_ ?_
      · exact frJ_X10_tried_35  _ _ _ _
      · refine fr_it ?_ ?_
        · exact frJ_X10_tried_36  _ _ _ _ _
        · exact frJ_X10_tried_35  _ _ _ _
abbrev W_X10_undo  : Nat → Nat → Prop := fm_W [(100, none), (101, none), (76, some 0), (76, some 42), (94, none), (95, none), (96, none), (97, none), (98, none), (99, none)]
theorem fr_X10_undo  (M : fm_M) : fm_Fr (W_X10_undo) M (F_X10_undo  M) := by
  rw [F_X10_undo]
  refine fr_up (fm_Wf 2 rfl) (fun M1 => ?_)
  refine fr_it ?_ ?_
  · exact fr_some
  · refine fr_up (fm_Wf 3 rfl) (fun M2 => ?_)
    refine fr_bd (fr_mono (fr_X10_copies _ _ _) (fm_Wsub [0, 1, 4, 5, 6, 7, 8, 9] rfl)) (fun v3 M4 => ?_)
    exact fr_some
abbrev W_X10_keep  : Nat → Nat → Prop := fm_W [(100, none), (101, none), (76, some 0), (76, some 41), (94, none), (95, none), (96, none), (97, none), (98, none), (99, none)]
theorem fr_X10_keep  (M : fm_M) : fm_Fr (W_X10_keep) M (F_X10_keep  M) := by
  rw [F_X10_keep]
  refine fr_up (fm_Wf 2 rfl) (fun M1 => ?_)
  refine fr_bd (fr_mono (fr_X10_copies _ _ _) (fm_Wsub [0, 1, 4, 5, 6, 7, 8, 9] rfl)) (fun v2 M3 => ?_)
  refine fr_up (fm_Wf 3 rfl) (fun M4 => ?_)
  refine fr_gdh (fun g5 => ?_)
  exact fr_some
abbrev W_X10_back  : Nat → Nat → Prop := fm_W [(100, none), (101, none), (76, some 0), (76, some 42), (94, none), (95, none), (96, none), (97, none), (98, none), (99, none)]
theorem fr_X10_back  (M : fm_M) : fm_Fr (W_X10_back) M (F_X10_back  M) := by
  rw [F_X10_back]
  refine fr_up (fm_Wf 2 rfl) (fun M1 => ?_)
  refine fr_it ?_ ?_
  · exact fr_some
  · refine fr_bd (fr_mono (fr_X10_copies _ _ _) (fm_Wsub [0, 1, 4, 5, 6, 7, 8, 9] rfl)) (fun v2 M3 => ?_)
    refine fr_up (fm_Wf 3 rfl) (fun M4 => ?_)
    refine fr_gdh (fun g5 => ?_)
    exact fr_some
abbrev W_X10_count  : Nat → Nat → Prop := fm_W [(76, some 0)]
theorem fr_X10_count (a1 : Int32) (M : fm_M) : fm_Fr (W_X10_count) M (F_X10_count a1 M) := by
  rw [F_X10_count]
  refine fr_up (fm_Wf 0 rfl) (fun M1 => ?_)
  refine fr_it ?_ ?_
  · refine fr_gdh (fun g2 => ?_)
    exact fr_some
  · refine fr_it ?_ ?_
    · refine fr_gdh (fun g3 => ?_)
      exact fr_some
    · refine fr_it ?_ ?_
      · refine fr_gdh (fun g4 => ?_)
        refine fr_bd (fr_mono (fr_X10_bitsOf _ _) (fm_Wsub [] rfl)) (fun v5 M6 => ?_)
        exact fr_some
      · refine fr_it ?_ ?_
        · refine fr_gdh (fun g7 => ?_)
          exact fr_some
        · refine fr_it ?_ ?_
          · refine fr_gdh (fun g8 => ?_)
            exact fr_some
          · refine fr_it ?_ ?_
            · refine fr_gdh (fun g9 => ?_)
              exact fr_some
            · refine fr_it ?_ ?_
              · refine fr_gdh (fun g10 => ?_)
                exact fr_some
              · refine fr_it ?_ ?_
                · refine fr_gdh (fun g11 => ?_)
                  exact fr_some
                · refine fr_it ?_ ?_
                  · refine fr_bd (fr_mono (fr_X10_manyOf _ _ _) (fm_Wsub [] rfl)) (fun v12 M13 => ?_)
                    exact fr_some
                  · refine fr_it ?_ ?_
                    · refine fr_bd (fr_mono (fr_X10_manyOf _ _ _) (fm_Wsub [] rfl)) (fun v14 M15 => ?_)
                      exact fr_some
                    · refine fr_it ?_ ?_
                      · refine fr_bd (fr_mono (fr_X10_heardAll _ _) (fm_Wsub [] rfl)) (fun v16 M17 => ?_)
                        exact fr_some
                      · refine fr_it ?_ ?_
                        · refine fr_gdh (fun g18 => ?_)
                          refine fr_bd (fr_mono (fr_X10_bitsOf _ _) (fm_Wsub [] rfl)) (fun v19 M20 => ?_)
                          exact fr_some
                        · refine fr_it ?_ ?_
                          · exact fr_some
                          · refine fr_it ?_ ?_
                            · refine fr_bd (fr_mono (fr_X10_knownMany  _) (fm_Wsub [] rfl)) (fun v21 M22 => ?_)
                              exact fr_some
                            · refine fr_it ?_ ?_
                              · exact fr_some
                              · exact fr_some
