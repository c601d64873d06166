/-! FRAMES: a function changes only the places of W -/
def fm_Fr {α : Type} (W : Nat → Nat → Prop) (M : fm_M) (o : Option (α × fm_M)) : Prop := ∀ x, o = some x → ∀ q k, ¬ W q k → x.2.1 q k = M.1 q k
theorem fr_some {α : Type} {W : Nat → Nat → Prop} {M : fm_M} {v : α} : fm_Fr W M (some (v, M)) := fun x h q k _ => by cases h; rfl
theorem fr_none {α : Type} {W : Nat → Nat → Prop} {M : fm_M} : fm_Fr W M (none : Option (α × fm_M)) := fun x h => by cases h
theorem fr_gd {α : Type} {W : Nat → Nat → Prop} {M : fm_M} {b : Bool} {o : Option (α × fm_M)} (h : fm_Fr W M o) : fm_Fr W M (fm_gd b o) := fun x e => h x (fm_gdp e).2
theorem fr_gdh {α : Type} {W : Nat → Nat → Prop} {M : fm_M} {b : Bool} {o : Option (α × fm_M)} (h : b = true → fm_Fr W M o) : fm_Fr W M (fm_gd b o) := fun x e => h (fm_gdp e).1 x (fm_gdp e).2
theorem fr_it {α : Type} {W : Nat → Nat → Prop} {M : fm_M} {c : Prop} [Decidable c] {a b : Option (α × fm_M)} (h1 : fm_Fr W M a) (h2 : fm_Fr W M b) : fm_Fr W M (if c then a else b) := fun x e => by
  by_cases hc : c
  · exact h1 x (fm_itp hc e)
  · exact h2 x (fm_itn hc e)
theorem fr_lt {α β : Type} {W : Nat → Nat → Prop} {M : fm_M} {e : β} {k : β → Option (α × fm_M)} (h : ∀ v, fm_Fr W M (k v)) : fm_Fr W M (fm_lt e k) := h e
theorem fr_bn {α : Type} {W : Nat → Nat → Prop} {M : fm_M} {e : Option Nat} {k : Nat → Option (α × fm_M)} (h : ∀ v, fm_Fr W M (k v)) : fm_Fr W M (fm_bn e k) := fun x e => by
  obtain ⟨n, -, h2⟩ := fm_bnp e
  exact h n x h2
theorem fr_row {α : Type} {W : Nat → Nat → Prop} {M : fm_M} {p : Nat} {f : Nat → Int32} {k : fm_M → Option (α × fm_M)} (hw : ∀ j, W p j) (h : ∀ M1, fm_Fr W M1 (k M1)) : fm_Fr W M (fm_lt (fm_row M p f) k) := fun x e q j hn => by
  rw [h (fm_row M p f) x e q j hn]
  have hq : q ≠ p := fun z => hn (z ▸ hw j)
  rw [(fm_row_ne q hq).1]
theorem fr_up {α : Type} {W : Nat → Nat → Prop} {M : fm_M} {p j : Nat} {v : Int32} {k : fm_M → Option (α × fm_M)} (hw : W p j) (h : ∀ M1, fm_Fr W M1 (k M1)) : fm_Fr W M (fm_lt (fm_up M p j v) k) := fun x e q i hn => by
  rw [h (fm_up M p j v) x e q i hn]
  by_cases hq : q = p
  · subst hq
    have hi : i ≠ j := fun z => hn (z ▸ hw)
    simp only [fm_up, fm_row_eq, upd, if_neg hi]
  · exact congrFun (fm_row_ne q hq).1 i
theorem fr_upL {α : Type} {W : Nat → Nat → Prop} {M : fm_M} {p j : Nat} {v : Int64} {k : fm_M → Option (α × fm_M)} (h : ∀ M1, fm_Fr W M1 (k M1)) : fm_Fr W M (fm_lt (fm_upL M p j v) k) := fun x e q i hn => h (fm_upL M p j v) x e q i hn
theorem fr_bd {α β : Type} {W : Nat → Nat → Prop} {M : fm_M} {o : Option (β × fm_M)} {k : β → fm_M → Option (α × fm_M)} (h1 : fm_Fr W M o) (h2 : ∀ v M1, fm_Fr W M1 (k v M1)) : fm_Fr W M (fm_bd o k) := fun x e q i hn => by
  obtain ⟨v, M1, e1, e2⟩ := fm_bdp e
  rw [h2 v M1 x e2 q i hn]
  exact h1 (v, M1) e1 q i hn
theorem fr_bs {α β γ : Type} {W : Nat → Nat → Prop} {M : fm_M} {o : Option ((β ⊕ γ) × fm_M)} {k : β → fm_M → Option (α × fm_M)} {kr : γ → fm_M → Option (α × fm_M)} (h1 : fm_Fr W M o) (h2 : ∀ v M1, fm_Fr W M1 (k v M1)) (h3 : ∀ v M1, fm_Fr W M1 (kr v M1)) : fm_Fr W M (fm_bs o k kr) := fun x e q i hn => by
  obtain ⟨w, M1, e1, hl, hr⟩ := fm_bsp e
  have hb : M1.1 q i = M.1 q i := h1 (w, M1) e1 q i hn
  rw [← hb]
  cases w with
  | inl v => exact h2 v M1 x (hl v rfl) q i hn
  | inr v => exact h3 v M1 x (hr v rfl) q i hn
theorem fr_mono {α : Type} {W W1 : Nat → Nat → Prop} {M : fm_M} {o : Option (α × fm_M)} (h : fm_Fr W1 M o) (hw : ∀ q k, W1 q k → W q k) : fm_Fr W M o := fun x e q k hn => h x e q k (fun z => hn (hw q k z))
def fm_W (l : List (Nat × Option Nat)) (q k : Nat) : Prop := ∃ e ∈ l, q = e.1 ∧ (e.2 = none ∨ e.2 = some k)
theorem fm_Wi {l : List (Nat × Option Nat)} {p j : Nat} (i : Nat) (h : l[i]? = some (p, none)) : fm_W l p j := ⟨_, List.mem_of_getElem? h, rfl, Or.inl rfl⟩
theorem fm_Wf {l : List (Nat × Option Nat)} {p j : Nat} (i : Nat) (h : l[i]? = some (p, some j)) : fm_W l p j := ⟨_, List.mem_of_getElem? h, rfl, Or.inr rfl⟩
theorem fm_Wsub {l1 l2 : List (Nat × Option Nat)} (is : List Nat) (h : is.map (fun i => l2[i]?) = l1.map some) : ∀ q k, fm_W l1 q k → fm_W l2 q k := by
  intro q k ⟨e, he, h1⟩
  refine ⟨e, ?_, h1⟩
  obtain ⟨n, hn⟩ := List.getElem?_of_mem he
  have h2 : (is.map (fun i => l2[i]?))[n]? = some (some e) := by rw [h, List.getElem?_map, hn]; rfl
  rw [List.getElem?_map] at h2
  cases hi : is[n]? with
  | none => rw [hi] at h2; cases h2
  | some i => rw [hi] at h2; exact List.mem_of_getElem? (Option.some.inj h2)
theorem fm_td {t : Nat} (h : fm_isTd t = true) : t = 4 ∨ t = 21 := by
  simpa only [fm_isTd, Bool.or_eq_true, beq_iff_eq] using h
abbrev W_J7_fill_53178 (a0 : Nat) : Nat → Nat → Prop := fm_W [(a0, none)]
theorem frG_J7_fill_53178_5 (a0 : Nat) : ∀ (n : Nat) (n0 : Nat) (l1 : Int32) (l3 : Int32) (l2 : Int32) (M : fm_M), fm_Fr (W_J7_fill_53178 a0) M (G_J7_fill_53178_5 n a0 n0 l1 l3 l2 M) := by
  intro n
  induction n with
  | zero => intro n0 l1 l3 l2 M; simp only [G_J7_fill_53178_5]; exact fr_none
  | succ n ih0 =>
    intro n0 l1 l3 l2 M
    have ih := ih0 n0 l1 l3
    rw [G_J7_fill_53178_5]
    refine fr_it ?_ ?_
    · exact fr_some
    · refine fr_gdh (fun g2 => ?_)
      refine fr_up (fm_Wi 0 rfl) (fun M3 => ?_)
      exact ih _ _
theorem fr_J7_fill_53178 (a0 : Nat) (a1 : Int32) (M : fm_M) : fm_Fr (W_J7_fill_53178 a0) M (F_J7_fill_53178 a0 a1 M) := by
  rw [F_J7_fill_53178]
  refine fr_bn (fun n0 => ?_)
  refine fr_lt (fun x1 => ?_)
  refine fr_bd (frG_J7_fill_53178_5 _ _ _ _ _ _ _) (fun w4 M5 => ?_)
  exact fr_some
abbrev W_X3_has (a0 : Nat) : Nat → Nat → Prop := fm_W []
theorem fr_X3_has (a0 : Nat) (a1 : Int32) (M : fm_M) : fm_Fr (W_X3_has a0) M (F_X3_has a0 a1 M) := by
  rw [F_X3_has]
  refine fr_gdh (fun ga0 => ?_)
  refine fr_it ?_ ?_
  · exact fr_some
  · refine fr_it ?_ ?_
    · exact fr_some
    · refine fr_gdh (fun g1 => ?_)
      refine fr_gdh (fun g2 => ?_)
      refine fr_it ?_ ?_
      · exact fr_some
      · exact fr_some
abbrev W_X3_name (a0 : Nat) : Nat → Nat → Prop := fm_W [(a0 + 5, none)]
theorem fr_X3_name (a0 : Nat) (a1 : Int32) (a2 : Int32) (a3 : Int32) (a4 : Int32) (a5 : Int32) (a6 : Int32) (a7 : Int32) (M : fm_M) : fm_Fr (W_X3_name a0) M (F_X3_name a0 a1 a2 a3 a4 a5 a6 a7 M) := by
  rw [F_X3_name]
  refine fr_gdh (fun ga0 => ?_)
  refine fr_gdh (fun g1 => ?_)
  refine fr_up (fm_Wi 0 rfl) (fun M2 => ?_)
  refine fr_gdh (fun g3 => ?_)
  refine fr_up (fm_Wi 0 rfl) (fun M4 => ?_)
  refine fr_gdh (fun g5 => ?_)
  refine fr_up (fm_Wi 0 rfl) (fun M6 => ?_)
  refine fr_gdh (fun g7 => ?_)
  refine fr_up (fm_Wi 0 rfl) (fun M8 => ?_)
  refine fr_gdh (fun g9 => ?_)
  refine fr_up (fm_Wi 0 rfl) (fun M10 => ?_)
  refine fr_gdh (fun g11 => ?_)
  refine fr_up (fm_Wi 0 rfl) (fun M12 => ?_)
  refine fr_gdh (fun g13 => ?_)
  refine fr_up (fm_Wi 0 rfl) (fun M14 => ?_)
  exact fr_some
abbrev W_X3_joined  : Nat → Nat → Prop := fm_W []
theorem fr_X3_joined (a0 : Int32) (a1 : Int64) (a3 : Int64) (M : fm_M) : fm_Fr (W_X3_joined) M (F_X3_joined a0 a1 a3 M) := by
  rw [F_X3_joined]
  refine fr_it ?_ ?_
  · refine fr_it ?_ ?_
    · exact fr_some
    · exact fr_some
  · refine fr_it ?_ ?_
    · refine fr_it ?_ ?_
      · exact fr_some
      · exact fr_some
    · refine fr_it ?_ ?_
      · refine fr_it ?_ ?_
        · exact fr_some
        · exact fr_some
      · refine fr_it ?_ ?_
        · refine fr_it ?_ ?_
          · exact fr_some
          · exact fr_some
        · refine fr_it ?_ ?_
          · refine fr_it ?_ ?_
            · exact fr_some
            · exact fr_some
          · refine fr_it ?_ ?_
            · refine fr_it ?_ ?_
              · exact fr_some
              · exact fr_some
            · refine fr_it ?_ ?_
              · exact fr_some
              · refine fr_it ?_ ?_
                · exact fr_some
                · refine fr_it ?_ ?_
                  · refine fr_it ?_ ?_
                    · exact fr_some
                    · refine fr_gdh (fun g1 => ?_)
                      refine fr_it ?_ ?_
                      · exact fr_some
                      · exact fr_some
                  · refine fr_it ?_ ?_
                    · refine fr_it ?_ ?_
                      · exact fr_some
                      · refine fr_gdh (fun g2 => ?_)
                        exact fr_some
                    · refine fr_it ?_ ?_
                      · exact fr_some
                      · refine fr_it ?_ ?_
                        · exact fr_some
                        · refine fr_it ?_ ?_
                          · exact fr_some
                          · refine fr_it ?_ ?_
                            · exact fr_some
                            · refine fr_it ?_ ?_
                              · exact fr_some
                              · refine fr_it ?_ ?_
                                · exact fr_some
                                · refine fr_it ?_ ?_
                                  · exact fr_some
                                  · refine fr_it ?_ ?_
                                    · exact fr_some
                                    · refine fr_it ?_ ?_
                                      · exact fr_some
                                      · refine fr_it ?_ ?_
                                        · exact fr_some
                                        · refine fr_it ?_ ?_
                                          · exact fr_some
                                          · refine fr_it ?_ ?_
                                            · exact fr_some
                                            · refine fr_it ?_ ?_
                                              · refine fr_it ?_ ?_
                                                · refine fr_it ?_ ?_
                                                  · exact fr_some
                                                  · exact fr_some
                                                · exact fr_some
                                              · refine fr_it ?_ ?_
                                                · refine fr_it ?_ ?_
                                                  · exact fr_some
                                                  · refine fr_it ?_ ?_
                                                    · exact fr_some
                                                    · exact fr_some
                                                · exact fr_some
abbrev W_X3_valueOf (a0 : Nat) : Nat → Nat → Prop := fm_W []
theorem frJ_X3_valueOf_52 (a0 : Nat) (rec : Int32 → Int32 → fm_M → Option (((Int32 × Int32) ⊕ Int64) × fm_M)) (ih : ∀ (l2 : Int32) (l3 : Int32) (M : fm_M), fm_Fr (W_X3_valueOf a0) M (rec l2 l3 M)) (l1 : Int32) (l2 : Int32) (l3 : Int32) (l4 : Int32) (M : fm_M) : fm_Fr (W_X3_valueOf a0) M (J_X3_valueOf_52 rec a0 l1 l2 l3 l4 M) := by
  rw [J_X3_valueOf_52]
  refine fr_it ?_ ?_
  · refine fr_it ?_ ?_
    · refine fr_gdh (fun g11 => ?_)
      refine fr_gdh (fun g12 => ?_)
      refine fr_upL (fun M13 => ?_)
      exact ih _ _ _
    · refine fr_gdh (fun g8 => ?_)
      refine fr_gdh (fun g9 => ?_)
      refine fr_upL (fun M10 => ?_)
      exact ih _ _ _
  · exact fr_some
theorem frG_X3_valueOf_21 (a0 : Nat) : ∀ (n : Nat)  (l1 : Int32) (l2 : Int32) (l3 : Int32) (M : fm_M), fm_Fr (W_X3_valueOf a0) M (G_X3_valueOf_21 n a0 l1 l2 l3 M) := by
  intro n
  induction n with
  | zero => intro l1 l2 l3 M; simp only [G_X3_valueOf_21]; exact fr_none
  | succ n ih0 =>
    intro l1 l2 l3 M
    have ih := ih0 l1
    rw [G_X3_valueOf_21]
    refine fr_gdh (fun g5 => ?_)
    refine fr_it ?_ ?_
    · exact fr_some
    · refine fr_gdh (fun g6 => ?_)
      refine fr_lt (fun x7 => ?_)
      refine fr_it ?_ ?_
      · exact frJ_X3_valueOf_52 _ _ (fun y0 y1 y2 => ih y0 y1 y2) _ _ _ _ _
      · refine fr_it ?_ ?_
        · refine fr_it ?_ ?_
          · refine fr_it ?_ ?_
            · refine fr_gdh (fun g20 => ?_)
              refine fr_it ?_ ?_
              · refine fr_gdh (fun g23 => ?_)
                refine fr_upL (fun M24 => ?_)
                exact ih _ _ _
              · refine fr_gdh (fun g21 => ?_)
                refine fr_upL (fun M22 => ?_)
                exact ih _ _ _
            · exact fr_some
          · refine fr_it ?_ ?_
            · refine fr_gdh (fun g14 => ?_)
              refine fr_gdh (fun g15 => ?_)
              refine fr_bd (fr_mono (fr_X3_joined _ _ _ _) (fm_Wsub [] rfl)) (fun v16 M17 => ?_)
              refine fr_it ?_ ?_
              · exact fr_some
              · refine fr_it ?_ ?_
                · refine fr_gdh (fun g18 => ?_)
                  refine fr_upL (fun M19 => ?_)
                  exact ih _ _ _
                · exact fr_some
            · exact fr_some
        · exact frJ_X3_valueOf_52 _ _ (fun y0 y1 y2 => ih y0 y1 y2) _ _ _ _ _
theorem fr_X3_valueOf (a0 : Nat) (a1 : Int32) (M : fm_M) : fm_Fr (W_X3_valueOf a0) M (F_X3_valueOf a0 a1 M) := by
  rw [F_X3_valueOf]
  refine fr_gdh (fun ga0 => ?_)
  refine fr_bd (fr_mono (fr_X3_has _ _ _) (fm_Wsub [] rfl)) (fun v1 M2 => ?_)
  refine fr_it ?_ ?_
  · exact fr_some
  · refine fr_gdh (fun g3 => ?_)
    refine fr_lt (fun x4 => ?_)
    refine fr_bs (frG_X3_valueOf_21 _ _ _ _ _ _) (fun w25 M26 => ?_) (fun _ _ => fr_some)
    refine fr_it ?_ ?_
    · refine fr_gdh (fun g27 => ?_)
      exact fr_some
    · exact fr_some
abbrev W_X7_passLaw (a0 : Nat) (a1 : Nat) : Nat → Nat → Prop := fm_W [(a1 + 15, none)]
theorem fr_X7_passLaw (a0 : Nat) (a1 : Nat) (a2 : Int32) (a3 : Int32) (M : fm_M) : fm_Fr (W_X7_passLaw a0 a1) M (F_X7_passLaw a0 a1 a2 a3 M) := by
  rw [F_X7_passLaw]
  refine fr_gdh (fun ga0 => ?_)
  refine fr_gdh (fun ga1 => ?_)
  refine fr_bd (fr_mono (fr_X3_has _ _ _) (fm_Wsub [] rfl)) (fun v1 M2 => ?_)
  refine fr_it ?_ ?_
  · exact fr_some
  · refine fr_bd (fr_mono (fr_X3_name _ _ _ _ _ _ _ _ _) (fm_Wsub [0] rfl)) (fun v3 M4 => ?_)
    refine fr_bd (fr_mono (fr_X3_valueOf _ _ _) (fm_Wsub [] rfl)) (fun v5 M6 => ?_)
    exact fr_some
abbrev W_X7_passes (a0 : Nat) (a1 : Nat) : Nat → Nat → Prop := fm_W [(a1 + 15, none)]
theorem fr_X7_passes (a0 : Nat) (a1 : Nat) (a2 : Int32) (a3 : Int32) (M : fm_M) : fm_Fr (W_X7_passes a0 a1) M (F_X7_passes a0 a1 a2 a3 M) := by
  rw [F_X7_passes]
  refine fr_gdh (fun ga0 => ?_)
  refine fr_gdh (fun ga1 => ?_)
  refine fr_bd (fr_mono (fr_X7_passLaw _ _ _ _ _) (fm_Wsub [0] rfl)) (fun v1 M2 => ?_)
  refine fr_it ?_ ?_
  · refine fr_it ?_ ?_
    · exact fr_some
    · exact fr_some
  · refine fr_it ?_ ?_
    · exact fr_some
    · exact fr_some
abbrev W_X0_carriedBy (a2 : Nat) (a3 : Nat) : Nat → Nat → Prop := fm_W [(68, none), (a2 + 15, none)]
theorem frG_X0_carriedBy_17 (a2 : Nat) (a3 : Nat) : ∀ (n : Nat)  (l1 : Int32) (l4 : Int32) (l5 : Int32) (l6 : Int32) (l7 : Int32) (M : fm_M), fm_Fr (W_X0_carriedBy a2 a3) M (G_X0_carriedBy_17 n a2 a3 l1 l4 l5 l6 l7 M) := by
  intro n
  induction n with
  | zero => intro l1 l4 l5 l6 l7 M; simp only [G_X0_carriedBy_17]; exact fr_none
  | succ n ih0 =>
    intro l1 l4 l5 l6 l7 M
    have ih := ih0 l1 l4
    rw [G_X0_carriedBy_17]
    refine fr_it ?_ ?_
    · exact fr_some
    · refine fr_gdh (fun g3 => ?_)
      refine fr_lt (fun x4 => ?_)
      refine fr_lt (fun x5 => ?_)
      exact ih _ _ _ _
theorem frJ_X0_carriedBy_115 (a2 : Nat) (a3 : Nat) (l1 : Int32) (l4 : Int32) (l5 : Int32) (l6 : Int32) (l7 : Int32) (M : fm_M) : fm_Fr (W_X0_carriedBy a2 a3) M (J_X0_carriedBy_115 a2 a3 l1 l4 l5 l6 l7 M) := by
  rw [J_X0_carriedBy_115]
  refine fr_gdh (fun g12 => ?_)
  refine fr_it ?_ ?_
  · exact fr_some
  · exact fr_some
theorem frJ_X0_carriedBy_114 (a2 : Nat) (a3 : Nat) (l1 : Int32) (l4 : Int32) (l5 : Int32) (l6 : Int32) (l7 : Int32) (s1 : Int32) (s2 : Int32) (M : fm_M) : fm_Fr (W_X0_carriedBy a2 a3) M (J_X0_carriedBy_114 a2 a3 l1 l4 l5 l6 l7 s1 s2 M) := by
  rw [J_X0_carriedBy_114]
  refine fr_gdh (fun g15 => ?_)
  refine fr_up (fm_Wi 0 rfl) (fun M16 => ?_)
  exact frJ_X0_carriedBy_115 _ _ _ _ _ _ _ _
theorem fr_X0_carriedBy (a1 : Int32) (a2 : Nat) (a3 : Nat) (a4 : Int32) (M : fm_M) : fm_Fr (W_X0_carriedBy a2 a3) M (F_X0_carriedBy a1 a2 a3 a4 M) := by
  rw [F_X0_carriedBy]
  refine fr_gdh (fun ga2 => ?_)
  refine fr_gdh (fun ga3 => ?_)
  refine fr_lt (fun x1 => ?_)
  refine fr_lt (fun x2 => ?_)
  refine fr_bd (frG_X0_carriedBy_17 _ _ _ _ _ _ _ _ _) (fun w6 M7 => ?_)
  refine fr_it ?_ ?_
  · refine fr_bd (fr_mono (fr_X7_passes _ _ _ _ _) (fm_Wsub [1] rfl)) (fun v8 M9 => ?_)
    refine fr_gdh (fun g10 => ?_)
    exact fr_some
  · refine fr_it ?_ ?_
    · refine fr_gdh (fun g11 => ?_)
      refine fr_it ?_ ?_
      · refine fr_bd (fr_mono (fr_X7_passes _ _ _ _ _) (fm_Wsub [1] rfl)) (fun v13 M14 => ?_)
        refine fr_it ?_ ?_
        · exact frJ_X0_carriedBy_114 _ _ _ _ _ _ _ _ _ _
        · exact frJ_X0_carriedBy_114 _ _ _ _ _ _ _ _ _ _
      · exact frJ_X0_carriedBy_115 _ _ _ _ _ _ _ _
    · refine fr_bd (fr_mono (fr_X7_passes _ _ _ _ _) (fm_Wsub [1] rfl)) (fun v17 M18 => ?_)
      refine fr_gdh (fun g19 => ?_)
      exact fr_some
abbrev W_X0_costOf  : Nat → Nat → Prop := fm_W []
theorem frG_X0_costOf_13  : ∀ (n : Nat)  (l1 : Int32) (l2 : Int32) (l3 : Int32) (l4 : Int32) (l5 : Int32) (M : fm_M), fm_Fr (W_X0_costOf) M (G_X0_costOf_13 n l1 l2 l3 l4 l5 M) := by
  intro n
  induction n with
  | zero => intro l1 l2 l3 l4 l5 M; simp only [G_X0_costOf_13]; exact fr_none
  | succ n ih0 =>
    intro l1 l2 l3 l4 l5 M
    have ih := ih0 l1 l2
    rw [G_X0_costOf_13]
    refine fr_it ?_ ?_
    · exact fr_some
    · refine fr_lt (fun x2 => ?_)
      refine fr_lt (fun x3 => ?_)
      refine fr_gdh (fun g4 => ?_)
      refine fr_it ?_ ?_
      · exact fr_some
      · refine fr_lt (fun x5 => ?_)
        exact ih _ _ _ _
theorem fr_X0_costOf (a1 : Int32) (a2 : Int32) (M : fm_M) : fm_Fr (W_X0_costOf) M (F_X0_costOf a1 a2 M) := by
  rw [F_X0_costOf]
  refine fr_lt (fun x1 => ?_)
  refine fr_bs (frG_X0_costOf_13  _ _ _ _ _ _ _) (fun w6 M7 => ?_) (fun _ _ => fr_some)
  exact fr_some
abbrev W_X7_beatsOf  : Nat → Nat → Prop := fm_W []
theorem fr_X7_beatsOf (a0 : Int32) (a1 : Int32) (M : fm_M) : fm_Fr (W_X7_beatsOf) M (F_X7_beatsOf a0 a1 M) := by
  rw [F_X7_beatsOf]
  refine fr_lt (fun x1 => ?_)
  exact fr_some
abbrev W_X7_soundOf (a0 : Nat) : Nat → Nat → Prop := fm_W []
theorem fr_X7_soundOf (a0 : Nat) (a1 : Int32) (M : fm_M) : fm_Fr (W_X7_soundOf a0) M (F_X7_soundOf a0 a1 M) := by
  rw [F_X7_soundOf]
  refine fr_gdh (fun ga0 => ?_)
  refine fr_gdh (fun g1 => ?_)
  exact fr_some
abbrev W_X7_beating (a0 : Nat) : Nat → Nat → Prop := fm_W []
theorem fr_X7_beating (a0 : Nat) (a1 : Int32) (a2 : Int32) (M : fm_M) : fm_Fr (W_X7_beating a0) M (F_X7_beating a0 a1 a2 M) := by
  rw [F_X7_beating]
  refine fr_gdh (fun ga0 => ?_)
  refine fr_bd (fr_mono (fr_X7_soundOf _ _ _) (fm_Wsub [] rfl)) (fun v1 M2 => ?_)
  refine fr_bd (fr_mono (fr_X7_beatsOf _ _ _) (fm_Wsub [] rfl)) (fun v3 M4 => ?_)
  exact fr_some
abbrev W_X7_humLaw (a0 : Nat) (a1 : Nat) : Nat → Nat → Prop := fm_W [(a1 + 15, none)]
theorem fr_X7_humLaw (a0 : Nat) (a1 : Nat) (a2 : Int32) (a3 : Int32) (M : fm_M) : fm_Fr (W_X7_humLaw a0 a1) M (F_X7_humLaw a0 a1 a2 a3 M) := by
  rw [F_X7_humLaw]
  refine fr_gdh (fun ga0 => ?_)
  refine fr_gdh (fun ga1 => ?_)
  refine fr_bd (fr_mono (fr_X3_has _ _ _) (fm_Wsub [] rfl)) (fun v1 M2 => ?_)
  refine fr_it ?_ ?_
  · exact fr_some
  · refine fr_bd (fr_mono (fr_X7_soundOf _ _ _) (fm_Wsub [] rfl)) (fun v3 M4 => ?_)
    refine fr_gdh (fun g5 => ?_)
    refine fr_gdh (fun g6 => ?_)
    refine fr_bd (fr_mono (fr_X7_beatsOf _ _ _) (fm_Wsub [] rfl)) (fun v7 M8 => ?_)
    refine fr_bd (fr_mono (fr_X3_name _ _ _ _ _ _ _ _ _) (fm_Wsub [0] rfl)) (fun v9 M10 => ?_)
    refine fr_bd (fr_mono (fr_X3_valueOf _ _ _) (fm_Wsub [] rfl)) (fun v11 M12 => ?_)
    exact fr_some
abbrev W_X9_bitOf  : Nat → Nat → Prop := fm_W []
theorem fr_X9_bitOf (a0 : Int32) (a1 : Int32) (M : fm_M) : fm_Fr (W_X9_bitOf) M (F_X9_bitOf a0 a1 M) := by
  rw [F_X9_bitOf]
  exact fr_some
abbrev W_X9_within  : Nat → Nat → Prop := fm_W []
theorem fr_X9_within (a0 : Int64) (a2 : Int32) (a3 : Int32) (M : fm_M) : fm_Fr (W_X9_within) M (F_X9_within a0 a2 a3 M) := by
  rw [F_X9_within]
  exact fr_some
abbrev W_X7_humOf (a0 : Nat) (a1 : Nat) : Nat → Nat → Prop := fm_W [(a1 + 15, none)]
theorem frJ_X7_humOf_81 (a0 : Nat) (a1 : Nat) (l2 : Int32) (l3 : Int32) (l4 : Int64) (s0 : Int32) (M : fm_M) : fm_Fr (W_X7_humOf a0 a1) M (J_X7_humOf_81 a0 a1 l2 l3 l4 s0 M) := by
  rw [J_X7_humOf_81]
  refine fr_it ?_ ?_
  · exact fr_some
  · refine fr_gdh (fun g7 => ?_)
    exact fr_some
theorem frJ_X7_humOf_76 (a0 : Nat) (a1 : Nat) (l2 : Int32) (l3 : Int32) (l4 : Int64) (M : fm_M) : fm_Fr (W_X7_humOf a0 a1) M (J_X7_humOf_76 a0 a1 l2 l3 l4 M) := by
  rw [J_X7_humOf_76]
  exact frJ_X7_humOf_81 _ _ _ _ _ _ _
theorem fr_X7_humOf (a0 : Nat) (a1 : Nat) (a2 : Int32) (a3 : Int32) (M : fm_M) : fm_Fr (W_X7_humOf a0 a1) M (F_X7_humOf a0 a1 a2 a3 M) := by
  rw [F_X7_humOf]
  refine fr_gdh (fun ga0 => ?_)
  refine fr_gdh (fun ga1 => ?_)
  refine fr_it ?_ ?_
  · exact fr_some
  · refine fr_bd (fr_mono (fr_X9_bitOf _ _ _) (fm_Wsub [] rfl)) (fun v1 M2 => ?_)
    refine fr_it ?_ ?_
    · exact fr_some
    · refine fr_bd (fr_mono (fr_X7_humLaw _ _ _ _ _) (fm_Wsub [0] rfl)) (fun v3 M4 => ?_)
      refine fr_it ?_ ?_
      · refine fr_bd (fr_mono (fr_X9_bitOf _ _ _) (fm_Wsub [] rfl)) (fun v5 M6 => ?_)
        refine fr_it ?_ ?_
        · exact frJ_X7_humOf_76 _ _ _ _ _ _
        · refine fr_bd (fr_mono (fr_X7_beating _ _ _ _) (fm_Wsub [] rfl)) (fun v8 M9 => ?_)
          refine fr_gdh (fun g10 => ?_)
          refine fr_it ?_ ?_
          · exact frJ_X7_humOf_81 _ _ _ _ _ _ _
          · exact frJ_X7_humOf_76 _ _ _ _ _ _
      · refine fr_bd (fr_mono (fr_X9_within _ _ _ _) (fm_Wsub [] rfl)) (fun v11 M12 => ?_)
        exact fr_some
abbrev W_X9_isNote  : Nat → Nat → Prop := fm_W []
theorem fr_X9_isNote (a0 : Int32) (M : fm_M) : fm_Fr (W_X9_isNote) M (F_X9_isNote a0 M) := by
  rw [F_X9_isNote]
  refine fr_it ?_ ?_
  · exact fr_some
  · refine fr_it ?_ ?_
    · exact fr_some
    · exact fr_some
abbrev W_X0_listen (a1 : Nat) (a2 : Nat) : Nat → Nat → Prop := fm_W [(66, some 4), (67, none), (a1 + 15, none), (a2 + 1, none)]
theorem frG_X0_listen_11 (a1 : Nat) (a2 : Nat) : ∀ (n : Nat)  (l3 : Int32) (l4 : Int32) (M : fm_M), fm_Fr (W_X0_listen a1 a2) M (G_X0_listen_11 n a1 a2 l3 l4 M) := by
  intro n
  induction n with
  | zero => intro l3 l4 M; simp only [G_X0_listen_11]; exact fr_none
  | succ n ih0 =>
    intro l3 l4 M
    have ih := ih0 l3
    rw [G_X0_listen_11]
    refine fr_it ?_ ?_
    · exact fr_some
    · refine fr_bd (fr_mono (fr_X7_humOf _ _ _ _ _) (fm_Wsub [2] rfl)) (fun v3 M4 => ?_)
      refine fr_up (fm_Wf 0 rfl) (fun M5 => ?_)
      exact ih _ _
theorem frG_X0_listen_67 (a1 : Nat) (a2 : Nat) : ∀ (n : Nat)  (l3 : Int32) (l4 : Int32) (l5 : Int32) (l6 : Int32) (M : fm_M), fm_Fr (W_X0_listen a1 a2) M (G_X0_listen_67 n a1 a2 l3 l4 l5 l6 M) := by
  intro n
  induction n with
  | zero => intro l3 l4 l5 l6 M; simp only [G_X0_listen_67]; exact fr_none
  | succ n ih0 =>
    intro l3 l4 l5 l6 M
    have ih := ih0 l3 l4 l5
    rw [G_X0_listen_67]
    refine fr_it ?_ ?_
    · exact fr_some
    · refine fr_gdh (fun g10 => ?_)
      refine fr_up (fm_Wi 3 rfl) (fun M11 => ?_)
      refine fr_gdh (fun g12 => ?_)
      refine fr_bd (fr_mono (fr_X9_isNote _ _) (fm_Wsub [] rfl)) (fun v13 M14 => ?_)
      refine fr_it ?_ ?_
      · refine fr_gdh (fun g15 => ?_)
        refine fr_up (fm_Wi 1 rfl) (fun M16 => ?_)
        exact ih _ _
      · refine fr_bd (fr_mono (fr_X7_humOf _ _ _ _ _) (fm_Wsub [2] rfl)) (fun v17 M18 => ?_)
        refine fr_gdh (fun g19 => ?_)
        refine fr_up (fm_Wi 1 rfl) (fun M20 => ?_)
        exact ih _ _
theorem frG_X0_listen_46 (a1 : Nat) (a2 : Nat) : ∀ (n : Nat)  (l3 : Int32) (l4 : Int32) (M : fm_M), fm_Fr (W_X0_listen a1 a2) M (G_X0_listen_46 n a1 a2 l3 l4 M) := by
  intro n
  induction n with
  | zero => intro l3 l4 M; simp only [G_X0_listen_46]; exact fr_none
  | succ n ih0 =>
    intro l3 l4 M
    have ih := ih0 l3
    rw [G_X0_listen_46]
    refine fr_it ?_ ?_
    · exact fr_some
    · refine fr_gdh (fun g8 => ?_)
      refine fr_lt (fun x9 => ?_)
      refine fr_bd (frG_X0_listen_67 _ _ _ _ _ _ _ _) (fun w21 M22 => ?_)
      refine fr_gdh (fun g23 => ?_)
      refine fr_up (fm_Wi 3 rfl) (fun M24 => ?_)
      exact ih _ _
theorem fr_X0_listen (a1 : Nat) (a2 : Nat) (a3 : Int32) (M : fm_M) : fm_Fr (W_X0_listen a1 a2) M (F_X0_listen a1 a2 a3 M) := by
  rw [F_X0_listen]
  refine fr_gdh (fun ga1 => ?_)
  refine fr_gdh (fun ga2 => ?_)
  refine fr_up (fm_Wf 0 rfl) (fun M1 => ?_)
  refine fr_lt (fun x2 => ?_)
  refine fr_bd (frG_X0_listen_11 _ _ _ _ _ _) (fun w6 M7 => ?_)
  refine fr_bd (frG_X0_listen_46 _ _ _ _ _ _) (fun w25 M26 => ?_)
  exact fr_some
abbrev W_X0_settle  : Nat → Nat → Prop := fm_W [(69, none)]
theorem frG_X0_settle_9  : ∀ (n : Nat)  (l1 : Int32) (l2 : Int32) (l3 : Int32) (M : fm_M), fm_Fr (W_X0_settle) M (G_X0_settle_9 n l1 l2 l3 M) := by
  intro n
  induction n with
  | zero => intro l1 l2 l3 M; simp only [G_X0_settle_9]; exact fr_none
  | succ n ih0 =>
    intro l1 l2 l3 M
    have ih := ih0 l1
    rw [G_X0_settle_9]
    refine fr_it ?_ ?_
    · exact fr_some
    · refine fr_gdh (fun g2 => ?_)
      refine fr_up (fm_Wi 0 rfl) (fun M3 => ?_)
      refine fr_lt (fun x4 => ?_)
      exact ih _ _ _
theorem fr_X0_settle (a1 : Int32) (M : fm_M) : fm_Fr (W_X0_settle) M (F_X0_settle a1 M) := by
  rw [F_X0_settle]
  refine fr_lt (fun x1 => ?_)
  refine fr_bd (frG_X0_settle_9  _ _ _ _ _) (fun w5 M6 => ?_)
  exact fr_some
abbrev W_X0_seek (a1 : Nat) (a2 : Nat) : Nat → Nat → Prop := fm_W [(66, some 3), (66, some 4), (66, some 5), (67, none), (68, none), (69, none), (a1 + 15, none), (a2 + 1, none)]
theorem frG_X0_seek_38 (a1 : Nat) (a2 : Nat) : ∀ (n : Nat)  (l3 : Int32) (l4 : Int32) (l5 : Int32) (M : fm_M), fm_Fr (W_X0_seek a1 a2) M (G_X0_seek_38 n a1 a2 l3 l4 l5 M) := by
  intro n
  induction n with
  | zero => intro l3 l4 l5 M; simp only [G_X0_seek_38]; exact fr_none
  | succ n ih0 =>
    intro l3 l4 l5 M
    have ih := ih0 l3
    rw [G_X0_seek_38]
    refine fr_it ?_ ?_
    · exact fr_some
    · refine fr_lt (fun x7 => ?_)
      exact ih _ _ _
theorem frJ_X0_seek_108 (a1 : Nat) (a2 : Nat) (rec : Int32 → Int32 → fm_M → Option ((Int32 × Int32) × fm_M)) (ih : ∀ (l5 : Int32) (l6 : Int32) (M : fm_M), fm_Fr (W_X0_seek a1 a2) M (rec l5 l6 M)) (l3 : Int32) (l4 : Int32) (l5 : Int32) (l6 : Int32) (l7 : Int32) (M : fm_M) : fm_Fr (W_X0_seek a1 a2) M (J_X0_seek_108 rec a1 a2 l3 l4 l5 l6 l7 M) := by
  rw [J_X0_seek_108]
  refine fr_bd (fr_mono (fr_X0_carriedBy _ _ _ _ _) (fm_Wsub [4, 6] rfl)) (fun v12 M13 => ?_)
  refine fr_it ?_ ?_
  · exact ih _ _ _
  · refine fr_up (fm_Wf 2 rfl) (fun M14 => ?_)
    exact ih _ _ _
theorem frG_X0_seek_66 (a1 : Nat) (a2 : Nat) : ∀ (n : Nat)  (l3 : Int32) (l4 : Int32) (l5 : Int32) (l6 : Int32) (M : fm_M), fm_Fr (W_X0_seek a1 a2) M (G_X0_seek_66 n a1 a2 l3 l4 l5 l6 M) := by
  intro n
  induction n with
  | zero => intro l3 l4 l5 l6 M; simp only [G_X0_seek_66]; exact fr_none
  | succ n ih0 =>
    intro l3 l4 l5 l6 M
    have ih := ih0 l3 l4
    rw [G_X0_seek_66]
    refine fr_it ?_ ?_
    · exact fr_some
    · refine fr_bd (fr_mono (fr_X0_costOf _ _ _) (fm_Wsub [] rfl)) (fun v10 M11 => ?_)
      refine fr_it ?_ ?_
      · exact ih _ _ _
      · refine fr_it ?_ ?_
        · exact frJ_X0_seek_108 _ _ _ (fun y0 y1 y2 => ih y0 y1 y2) _ _ _ _ _ _
        · refine fr_it ?_ ?_
          · exact ih _ _ _
          · exact frJ_X0_seek_108 _ _ _ (fun y0 y1 y2 => ih y0 y1 y2) _ _ _ _ _ _
theorem fr_X0_seek (a1 : Nat) (a2 : Nat) (a3 : Int32) (M : fm_M) : fm_Fr (W_X0_seek a1 a2) M (F_X0_seek a1 a2 a3 M) := by
  rw [F_X0_seek]
  refine fr_gdh (fun ga1 => ?_)
  refine fr_gdh (fun ga2 => ?_)
  refine fr_up (fm_Wf 0 rfl) (fun M1 => ?_)
  refine fr_up (fm_Wf 2 rfl) (fun M2 => ?_)
  refine fr_bd (fr_mono (fr_J7_fill_53178 _ _ _) (fm_Wsub [4] rfl)) (fun v3 M4 => ?_)
  refine fr_bd (fr_mono (fr_X0_listen _ _ _ _) (fm_Wsub [1, 3, 6, 7] rfl)) (fun v5 M6 => ?_)
  refine fr_bd (frG_X0_seek_38 _ _ _ _ _ _ _) (fun w8 M9 => ?_)
  refine fr_bd (frG_X0_seek_66 _ _ _ _ _ _ _ _) (fun w15 M16 => ?_)
  refine fr_bd (fr_mono (fr_X0_settle _ _) (fm_Wsub [5] rfl)) (fun v17 M18 => ?_)
  exact fr_some
abbrev W_X0_filingOf  : Nat → Nat → Prop := fm_W []
theorem fr_X0_filingOf (a1 : Int32) (M : fm_M) : fm_Fr (W_X0_filingOf) M (F_X0_filingOf a1 M) := by
  rw [F_X0_filingOf]
  refine fr_it ?_ ?_
  · exact fr_some
  · refine fr_it ?_ ?_
    · exact fr_some
    · refine fr_gdh (fun g1 => ?_)
      exact fr_some
abbrev W_X1_dropOldest  : Nat → Nat → Prop := fm_W [(59, some 3), (60, none), (61, none), (62, none)]
theorem fr_X1_dropOldest  (M : fm_M) : fm_Fr (W_X1_dropOldest) M (F_X1_dropOldest  M) := by
  rw [F_X1_dropOldest]
  refine fr_up (fm_Wf 0 rfl) (fun M1 => ?_)
  refine fr_gdh (fun g2 => ?_)
  refine fr_row (fun _ => fm_Wi 1 rfl) (fun M3 => ?_)
  refine fr_gdh (fun g4 => ?_)
  refine fr_row (fun _ => fm_Wi 2 rfl) (fun M5 => ?_)
  refine fr_gdh (fun g6 => ?_)
  refine fr_row (fun _ => fm_Wi 3 rfl) (fun M7 => ?_)
  exact fr_some
abbrev W_X1_add  : Nat → Nat → Prop := fm_W [(59, some 3), (60, none), (61, none), (62, none)]
theorem frJ_X1_add_13  (l1 : Int32) (l2 : Int32) (l3 : Int32) (M : fm_M) : fm_Fr (W_X1_add) M (J_X1_add_13 l1 l2 l3 M) := by
  rw [J_X1_add_13]
  refine fr_gdh (fun g1 => ?_)
  refine fr_up (fm_Wi 1 rfl) (fun M2 => ?_)
  refine fr_gdh (fun g3 => ?_)
  refine fr_up (fm_Wi 2 rfl) (fun M4 => ?_)
  refine fr_gdh (fun g5 => ?_)
  refine fr_up (fm_Wi 3 rfl) (fun M6 => ?_)
  refine fr_up (fm_Wf 0 rfl) (fun M7 => ?_)
  exact fr_some
theorem fr_X1_add (a1 : Int32) (a2 : Int32) (a3 : Int32) (M : fm_M) : fm_Fr (W_X1_add) M (F_X1_add a1 a2 a3 M) := by
  rw [F_X1_add]
  refine fr_it ?_ ?_
  · exact frJ_X1_add_13  _ _ _ _
  · refine fr_bd (fr_mono (fr_X1_dropOldest  _) (fm_Wsub [0, 1, 2, 3] rfl)) (fun v8 M9 => ?_)
    exact frJ_X1_add_13  _ _ _ _
abbrev W_X2_firstHas  : Nat → Nat → Prop := fm_W []
theorem frJ_X2_firstHas_19  (l1 : Int32) (l2 : Int32) (l3 : Int32) (s0 : Int32) (M : fm_M) : fm_Fr (W_X2_firstHas) M (J_X2_firstHas_19 l1 l2 l3 s0 M) := by
  rw [J_X2_firstHas_19]
  exact fr_some
theorem fr_X2_firstHas (a1 : Int32) (a2 : Int32) (a3 : Int32) (M : fm_M) : fm_Fr (W_X2_firstHas) M (F_X2_firstHas a1 a2 a3 M) := by
  rw [F_X2_firstHas]
  refine fr_gdh (fun g1 => ?_)
  refine fr_it ?_ ?_
  · exact frJ_X2_firstHas_19  _ _ _ _ _
  · exact frJ_X2_firstHas_19  _ _ _ _ _
abbrev W_X2_secondHas  : Nat → Nat → Prop := fm_W []
theorem frJ_X2_secondHas_19  (l1 : Int32) (l2 : Int32) (l3 : Int32) (s0 : Int32) (M : fm_M) : fm_Fr (W_X2_secondHas) M (J_X2_secondHas_19 l1 l2 l3 s0 M) := by
  rw [J_X2_secondHas_19]
  exact fr_some
theorem fr_X2_secondHas (a1 : Int32) (a2 : Int32) (a3 : Int32) (M : fm_M) : fm_Fr (W_X2_secondHas) M (F_X2_secondHas a1 a2 a3 M) := by
  rw [F_X2_secondHas]
  refine fr_gdh (fun g1 => ?_)
  refine fr_it ?_ ?_
  · exact frJ_X2_secondHas_19  _ _ _ _ _
  · exact frJ_X2_secondHas_19  _ _ _ _ _
abbrev W_X2_isRest  : Nat → Nat → Prop := fm_W []
theorem frG_X2_isRest_21  : ∀ (n : Nat)  (l1 : Int32) (l2 : Int32) (l3 : Int32) (l4 : Int32) (l5 : Int32) (l6 : Int32) (M : fm_M), fm_Fr (W_X2_isRest) M (G_X2_isRest_21 n l1 l2 l3 l4 l5 l6 M) := by
  intro n
  induction n with
  | zero => intro l1 l2 l3 l4 l5 l6 M; simp only [G_X2_isRest_21]; exact fr_none
  | succ n ih0 =>
    intro l1 l2 l3 l4 l5 l6 M
    have ih := ih0 l1 l2 l3 l4 l5
    rw [G_X2_isRest_21]
    refine fr_it ?_ ?_
    · exact fr_some
    · refine fr_bd (fr_mono (fr_X2_firstHas _ _ _ _) (fm_Wsub [] rfl)) (fun v5 M6 => ?_)
      refine fr_it ?_ ?_
      · exact fr_some
      · refine fr_bd (fr_mono (fr_X2_secondHas _ _ _ _) (fm_Wsub [] rfl)) (fun v7 M8 => ?_)
        refine fr_it ?_ ?_
        · exact ih _ _
        · exact fr_some
theorem fr_X2_isRest (a1 : Int32) (a2 : Int32) (a3 : Int32) (M : fm_M) : fm_Fr (W_X2_isRest) M (F_X2_isRest a1 a2 a3 M) := by
  rw [F_X2_isRest]
  refine fr_bd (fr_mono (fr_X2_firstHas _ _ _ _) (fm_Wsub [] rfl)) (fun v1 M2 => ?_)
  refine fr_bd (fr_mono (fr_X2_secondHas _ _ _ _) (fm_Wsub [] rfl)) (fun v3 M4 => ?_)
  refine fr_bs (frG_X2_isRest_21  _ _ _ _ _ _ _ _) (fun w9 M10 => ?_) (fun _ _ => fr_some)
  exact fr_some
abbrev W_X7_humOfAll (a0 : Nat) (a1 : Nat) : Nat → Nat → Prop := fm_W [(a1 + 15, none)]
theorem frG_X7_humOfAll_5 (a0 : Nat) (a1 : Nat) : ∀ (n : Nat)  (l2 : Int32) (l3 : Int32) (l4 : Int32) (M : fm_M), fm_Fr (W_X7_humOfAll a0 a1) M (G_X7_humOfAll_5 n a0 a1 l2 l3 l4 M) := by
  intro n
  induction n with
  | zero => intro l2 l3 l4 M; simp only [G_X7_humOfAll_5]; exact fr_none
  | succ n ih0 =>
    intro l2 l3 l4 M
    have ih := ih0 l2
    rw [G_X7_humOfAll_5]
    refine fr_it ?_ ?_
    · exact fr_some
    · refine fr_bd (fr_mono (fr_X7_humOf _ _ _ _ _) (fm_Wsub [0] rfl)) (fun v1 M2 => ?_)
      refine fr_lt (fun x3 => ?_)
      exact ih _ _ _
theorem fr_X7_humOfAll (a0 : Nat) (a1 : Nat) (a2 : Int32) (M : fm_M) : fm_Fr (W_X7_humOfAll a0 a1) M (F_X7_humOfAll a0 a1 a2 M) := by
  rw [F_X7_humOfAll]
  refine fr_gdh (fun ga0 => ?_)
  refine fr_gdh (fun ga1 => ?_)
  refine fr_bd (frG_X7_humOfAll_5 _ _ _ _ _ _ _) (fun w4 M5 => ?_)
  exact fr_some
abbrev W_X7_carries (a0 : Nat) (a1 : Nat) : Nat → Nat → Prop := fm_W [(a1 + 15, none)]
theorem fr_X7_carries (a0 : Nat) (a1 : Nat) (a2 : Int32) (M : fm_M) : fm_Fr (W_X7_carries a0 a1) M (F_X7_carries a0 a1 a2 M) := by
  rw [F_X7_carries]
  refine fr_gdh (fun ga0 => ?_)
  refine fr_gdh (fun ga1 => ?_)
  refine fr_bd (fr_mono (fr_X7_humOfAll _ _ _ _) (fm_Wsub [0] rfl)) (fun v1 M2 => ?_)
  refine fr_bd (fr_mono (fr_X7_passes _ _ _ _ _) (fm_Wsub [0] rfl)) (fun v3 M4 => ?_)
  refine fr_gdh (fun g5 => ?_)
  exact fr_some
abbrev W_X2_settle (a1 : Nat) (a2 : Nat) : Nat → Nat → Prop := fm_W [(70, some 2), (71, none), (72, none), (a1 + 15, none), (a2 + 1, none)]
theorem frG_X2_settle_51 (a1 : Nat) (a2 : Nat) : ∀ (n : Nat)  (l3 : Int32) (l4 : Int32) (l5 : Int32) (l6 : Int32) (l7 : Int32) (l8 : Int32) (l9 : Int32) (M : fm_M), fm_Fr (W_X2_settle a1 a2) M (G_X2_settle_51 n a1 a2 l3 l4 l5 l6 l7 l8 l9 M) := by
  intro n
  induction n with
  | zero => intro l3 l4 l5 l6 l7 l8 l9 M; simp only [G_X2_settle_51]; exact fr_none
  | succ n ih0 =>
    intro l3 l4 l5 l6 l7 l8 l9 M
    have ih := ih0 l3 l4 l5 l6 l7 l8
    rw [G_X2_settle_51]
    refine fr_it ?_ ?_
    · exact fr_some
    · refine fr_bd (fr_mono (fr_X9_within _ _ _ _) (fm_Wsub [] rfl)) (fun v9 M10 => ?_)
      refine fr_gdh (fun g11 => ?_)
      refine fr_up (fm_Wi 4 rfl) (fun M12 => ?_)
      refine fr_bd (fr_mono (fr_X7_carries _ _ _ _) (fm_Wsub [3] rfl)) (fun v13 M14 => ?_)
      refine fr_gdh (fun g15 => ?_)
      refine fr_up (fm_Wi 1 rfl) (fun M16 => ?_)
      exact ih _ _
theorem frG_X2_settle_20 (a1 : Nat) (a2 : Nat) : ∀ (n : Nat)  (l3 : Int32) (l4 : Int32) (l5 : Int32) (l6 : Int32) (l7 : Int32) (l8 : Int32) (M : fm_M), fm_Fr (W_X2_settle a1 a2) M (G_X2_settle_20 n a1 a2 l3 l4 l5 l6 l7 l8 M) := by
  intro n
  induction n with
  | zero => intro l3 l4 l5 l6 l7 l8 M; simp only [G_X2_settle_20]; exact fr_none
  | succ n ih0 =>
    intro l3 l4 l5 l6 l7 l8 M
    have ih := ih0 l3 l4 l5 l6 l7
    rw [G_X2_settle_20]
    refine fr_it ?_ ?_
    · exact fr_some
    · refine fr_bd (fr_mono (fr_X9_within _ _ _ _) (fm_Wsub [] rfl)) (fun v5 M6 => ?_)
      refine fr_gdh (fun g7 => ?_)
      refine fr_up (fm_Wi 4 rfl) (fun M8 => ?_)
      refine fr_bd (frG_X2_settle_51 _ _ _ _ _ _ _ _ _ _ _) (fun w17 M18 => ?_)
      exact ih _ _
theorem frG_X2_settle_128 (a1 : Nat) (a2 : Nat) : ∀ (n : Nat)  (l3 : Int32) (l4 : Int32) (l5 : Int32) (l6 : Int32) (l7 : Int32) (l8 : Int32) (l9 : Int32) (M : fm_M), fm_Fr (W_X2_settle a1 a2) M (G_X2_settle_128 n a1 a2 l3 l4 l5 l6 l7 l8 l9 M) := by
  intro n
  induction n with
  | zero => intro l3 l4 l5 l6 l7 l8 l9 M; simp only [G_X2_settle_128]; exact fr_none
  | succ n ih0 =>
    intro l3 l4 l5 l6 l7 l8 l9 M
    have ih := ih0 l3 l4 l5 l6 l7 l8
    rw [G_X2_settle_128]
    refine fr_it ?_ ?_
    · exact fr_some
    · refine fr_bd (fr_mono (fr_X2_isRest _ _ _ _) (fm_Wsub [] rfl)) (fun v22 M23 => ?_)
      refine fr_it ?_ ?_
      · exact ih _ _
      · refine fr_gdh (fun g24 => ?_)
        refine fr_up (fm_Wi 2 rfl) (fun M25 => ?_)
        refine fr_up (fm_Wf 0 rfl) (fun M26 => ?_)
        exact ih _ _
theorem frG_X2_settle_119 (a1 : Nat) (a2 : Nat) : ∀ (n : Nat)  (l3 : Int32) (l4 : Int32) (l5 : Int32) (l6 : Int32) (l7 : Int32) (l8 : Int32) (M : fm_M), fm_Fr (W_X2_settle a1 a2) M (G_X2_settle_119 n a1 a2 l3 l4 l5 l6 l7 l8 M) := by
  intro n
  induction n with
  | zero => intro l3 l4 l5 l6 l7 l8 M; simp only [G_X2_settle_119]; exact fr_none
  | succ n ih0 =>
    intro l3 l4 l5 l6 l7 l8 M
    have ih := ih0 l3 l4 l5 l6 l7
    rw [G_X2_settle_119]
    refine fr_it ?_ ?_
    · exact fr_some
    · refine fr_bd (frG_X2_settle_128 _ _ _ _ _ _ _ _ _ _ _) (fun w27 M28 => ?_)
      exact ih _ _
theorem fr_X2_settle (a1 : Nat) (a2 : Nat) (a3 : Int32) (a4 : Int32) (a5 : Int32) (M : fm_M) : fm_Fr (W_X2_settle a1 a2) M (F_X2_settle a1 a2 a3 a4 a5 M) := by
  rw [F_X2_settle]
  refine fr_gdh (fun ga1 => ?_)
  refine fr_gdh (fun ga2 => ?_)
  refine fr_gdh (fun g1 => ?_)
  refine fr_lt (fun x2 => ?_)
  refine fr_gdh (fun g3 => ?_)
  refine fr_lt (fun x4 => ?_)
  refine fr_bd (frG_X2_settle_20 _ _ _ _ _ _ _ _ _ _) (fun w19 M20 => ?_)
  refine fr_up (fm_Wf 0 rfl) (fun M21 => ?_)
  refine fr_bd (frG_X2_settle_119 _ _ _ _ _ _ _ _ _ _) (fun w29 M30 => ?_)
  exact fr_some
abbrev W_X3_clear (a0 : Nat) : Nat → Nat → Prop := fm_W [(a0, some 4), (a0, some 5), (a0 + 1, none), (a0 + 2, none)]
theorem fr_X3_clear (a0 : Nat) (M : fm_M) : fm_Fr (W_X3_clear a0) M (F_X3_clear a0 M) := by
  rw [F_X3_clear]
  refine fr_gdh (fun ga0 => ?_)
  refine fr_bd (fr_mono (fr_J7_fill_53178 _ _ _) (fm_Wsub [2] rfl)) (fun v1 M2 => ?_)
  refine fr_bd (fr_mono (fr_J7_fill_53178 _ _ _) (fm_Wsub [3] rfl)) (fun v3 M4 => ?_)
  refine fr_up (fm_Wf 0 rfl) (fun M5 => ?_)
  refine fr_up (fm_Wf 1 rfl) (fun M6 => ?_)
  exact fr_some
abbrev W_X3_begin (a0 : Nat) : Nat → Nat → Prop := fm_W [(a0 + 1, none)]
theorem fr_X3_begin (a0 : Nat) (a1 : Int32) (M : fm_M) : fm_Fr (W_X3_begin a0) M (F_X3_begin a0 a1 M) := by
  rw [F_X3_begin]
  refine fr_gdh (fun ga0 => ?_)
  refine fr_it ?_ ?_
  · exact fr_some
  · refine fr_it ?_ ?_
    · exact fr_some
    · refine fr_gdh (fun g1 => ?_)
      refine fr_up (fm_Wi 0 rfl) (fun M2 => ?_)
      exact fr_some
abbrev W_X3_finish (a0 : Nat) : Nat → Nat → Prop := fm_W [(a0 + 2, none)]
theorem fr_X3_finish (a0 : Nat) (a1 : Int32) (M : fm_M) : fm_Fr (W_X3_finish a0) M (F_X3_finish a0 a1 M) := by
  rw [F_X3_finish]
  refine fr_gdh (fun ga0 => ?_)
  refine fr_it ?_ ?_
  · exact fr_some
  · refine fr_it ?_ ?_
    · exact fr_some
    · refine fr_gdh (fun g1 => ?_)
      refine fr_up (fm_Wi 0 rfl) (fun M2 => ?_)
      exact fr_some
abbrev W_X3_add (a0 : Nat) : Nat → Nat → Prop := fm_W [(a0, some 4), (a0 + 3, none), (a0 + 4, none)]
theorem fr_X3_add (a0 : Nat) (a1 : Int32) (a2 : Int32) (M : fm_M) : fm_Fr (W_X3_add a0) M (F_X3_add a0 a1 a2 M) := by
  rw [F_X3_add]
  refine fr_gdh (fun ga0 => ?_)
  refine fr_it ?_ ?_
  · exact fr_some
  · refine fr_gdh (fun g1 => ?_)
    refine fr_up (fm_Wi 1 rfl) (fun M2 => ?_)
    refine fr_gdh (fun g3 => ?_)
    refine fr_up (fm_Wi 2 rfl) (fun M4 => ?_)
    refine fr_up (fm_Wf 0 rfl) (fun M5 => ?_)
    exact fr_some
abbrev W_X4_forget  : Nat → Nat → Prop := fm_W [(63, some 2), (63, some 3)]
theorem fr_X4_forget  (M : fm_M) : fm_Fr (W_X4_forget) M (F_X4_forget  M) := by
  rw [F_X4_forget]
  refine fr_up (fm_Wf 0 rfl) (fun M1 => ?_)
  refine fr_up (fm_Wf 1 rfl) (fun M2 => ?_)
  exact fr_some
abbrev W_X4_add  : Nat → Nat → Prop := fm_W [(63, some 2), (64, none), (65, none)]
theorem fr_X4_add (a1 : Int32) (a2 : Int32) (M : fm_M) : fm_Fr (W_X4_add) M (F_X4_add a1 a2 M) := by
  rw [F_X4_add]
  refine fr_it ?_ ?_
  · refine fr_gdh (fun g1 => ?_)
    refine fr_up (fm_Wi 1 rfl) (fun M2 => ?_)
    refine fr_gdh (fun g3 => ?_)
    refine fr_up (fm_Wi 2 rfl) (fun M4 => ?_)
    refine fr_up (fm_Wf 0 rfl) (fun M5 => ?_)
    exact fr_some
  · exact fr_some
abbrev W_X4_reach  : Nat → Nat → Prop := fm_W []
theorem fr_X4_reach  (M : fm_M) : fm_Fr (W_X4_reach) M (F_X4_reach  M) := by
  rw [F_X4_reach]
  refine fr_it ?_ ?_
  · exact fr_some
  · exact fr_some
abbrev W_X4_sift  : Nat → Nat → Prop := fm_W [(63, some 4)]
theorem frG_X4_sift_12  : ∀ (n : Nat)   (l1 : Int32) (M : fm_M), fm_Fr (W_X4_sift) M (G_X4_sift_12 n l1 M) := by
  intro n
  induction n with
  | zero => intro l1 M; simp only [G_X4_sift_12]; exact fr_none
  | succ n ih0 =>
    intro l1 M
    have ih := ih0 
    rw [G_X4_sift_12]
    refine fr_it ?_ ?_
    · exact fr_some
    · refine fr_gdh (fun g5 => ?_)
      refine fr_it ?_ ?_
      · refine fr_bd (fr_mono (fr_X9_bitOf _ _ _) (fm_Wsub [] rfl)) (fun v6 M7 => ?_)
        refine fr_it ?_ ?_
        · refine fr_gdh (fun g8 => ?_)
          refine fr_up (fm_Wf 0 rfl) (fun M9 => ?_)
          exact ih _ _
        · exact ih _ _
      · exact ih _ _
theorem fr_X4_sift  (M : fm_M) : fm_Fr (W_X4_sift) M (F_X4_sift  M) := by
  rw [F_X4_sift]
  refine fr_up (fm_Wf 0 rfl) (fun M1 => ?_)
  refine fr_bd (fr_mono (fr_X4_reach  _) (fm_Wsub [] rfl)) (fun v2 M3 => ?_)
  refine fr_lt (fun x4 => ?_)
  refine fr_bd (frG_X4_sift_12  _ _ _) (fun w10 M11 => ?_)
  exact fr_some
abbrev W_X4_tells  : Nat → Nat → Prop := fm_W []
theorem fr_X4_tells (a1 : Int32) (M : fm_M) : fm_Fr (W_X4_tells) M (F_X4_tells a1 M) := by
  rw [F_X4_tells]
  refine fr_gdh (fun g1 => ?_)
  refine fr_it ?_ ?_
  · exact fr_some
  · refine fr_bd (fr_mono (fr_X9_bitOf _ _ _) (fm_Wsub [] rfl)) (fun v2 M3 => ?_)
    refine fr_it ?_ ?_
    · exact fr_some
    · exact fr_some
abbrev W_X4_daysToHear (a1 : Nat) : Nat → Nat → Prop := fm_W []
theorem frG_X4_daysToHear_4 (a1 : Nat) : ∀ (n : Nat)   (l2 : Int32) (l3 : Int32) (M : fm_M), fm_Fr (W_X4_daysToHear a1) M (G_X4_daysToHear_4 n a1 l2 l3 M) := by
  intro n
  induction n with
  | zero => intro l2 l3 M; simp only [G_X4_daysToHear_4]; exact fr_none
  | succ n ih0 =>
    intro l2 l3 M
    have ih := ih0 
    rw [G_X4_daysToHear_4]
    refine fr_bd (fr_mono (fr_X4_reach  _) (fm_Wsub [] rfl)) (fun v1 M2 => ?_)
    refine fr_it ?_ ?_
    · exact fr_some
    · refine fr_bd (fr_mono (fr_X4_tells _ _) (fm_Wsub [] rfl)) (fun v3 M4 => ?_)
      refine fr_it ?_ ?_
      · exact ih _ _ _
      · refine fr_gdh (fun g5 => ?_)
        refine fr_gdh (fun g6 => ?_)
        refine fr_lt (fun x7 => ?_)
        exact ih _ _ _
theorem fr_X4_daysToHear (a1 : Nat) (M : fm_M) : fm_Fr (W_X4_daysToHear a1) M (F_X4_daysToHear a1 M) := by
  rw [F_X4_daysToHear]
  refine fr_gdh (fun ga1 => ?_)
  refine fr_bd (frG_X4_daysToHear_4 _ _ _ _ _) (fun w8 M9 => ?_)
  exact fr_some
abbrev W_X4_agreeWith (a1 : Nat) : Nat → Nat → Prop := fm_W []
theorem frG_X4_agreeWith_2 (a1 : Nat) : ∀ (n : Nat)   (l2 : Int32) (M : fm_M), fm_Fr (W_X4_agreeWith a1) M (G_X4_agreeWith_2 n a1 l2 M) := by
  intro n
  induction n with
  | zero => intro l2 M; simp only [G_X4_agreeWith_2]; exact fr_none
  | succ n ih0 =>
    intro l2 M
    have ih := ih0 
    rw [G_X4_agreeWith_2]
    refine fr_bd (fr_mono (fr_X4_reach  _) (fm_Wsub [] rfl)) (fun v1 M2 => ?_)
    refine fr_it ?_ ?_
    · exact fr_some
    · refine fr_bd (fr_mono (fr_X4_tells _ _) (fm_Wsub [] rfl)) (fun v3 M4 => ?_)
      refine fr_it ?_ ?_
      · exact ih _ _
      · refine fr_gdh (fun g5 => ?_)
        refine fr_gdh (fun g6 => ?_)
        refine fr_gdh (fun g7 => ?_)
        refine fr_it ?_ ?_
        · exact ih _ _
        · exact fr_some
theorem fr_X4_agreeWith (a1 : Nat) (M : fm_M) : fm_Fr (W_X4_agreeWith a1) M (F_X4_agreeWith a1 M) := by
  rw [F_X4_agreeWith]
  refine fr_gdh (fun ga1 => ?_)
  refine fr_bs (frG_X4_agreeWith_2 _ _ _ _) (fun w8 M9 => ?_) (fun _ _ => fr_some)
  exact fr_some
abbrev W_X7_rustLaw (a0 : Nat) (a1 : Nat) : Nat → Nat → Prop := fm_W [(a1 + 15, none)]
theorem fr_X7_rustLaw (a0 : Nat) (a1 : Nat) (a2 : Int32) (M : fm_M) : fm_Fr (W_X7_rustLaw a0 a1) M (F_X7_rustLaw a0 a1 a2 M) := by
  rw [F_X7_rustLaw]
  refine fr_gdh (fun ga0 => ?_)
  refine fr_gdh (fun ga1 => ?_)
  refine fr_bd (fr_mono (fr_X3_has _ _ _) (fm_Wsub [] rfl)) (fun v1 M2 => ?_)
  refine fr_it ?_ ?_
  · exact fr_some
  · refine fr_bd (fr_mono (fr_X7_soundOf _ _ _) (fm_Wsub [] rfl)) (fun v3 M4 => ?_)
    refine fr_gdh (fun g5 => ?_)
    refine fr_gdh (fun g6 => ?_)
    refine fr_bd (fr_mono (fr_X3_name _ _ _ _ _ _ _ _ _) (fm_Wsub [0] rfl)) (fun v7 M8 => ?_)
    refine fr_bd (fr_mono (fr_X3_valueOf _ _ _) (fm_Wsub [] rfl)) (fun v9 M10 => ?_)
    exact fr_some
abbrev W_X7_rustOf (a0 : Nat) (a1 : Nat) : Nat → Nat → Prop := fm_W [(a1 + 15, none)]
theorem fr_X7_rustOf (a0 : Nat) (a1 : Nat) (a2 : Int32) (M : fm_M) : fm_Fr (W_X7_rustOf a0 a1) M (F_X7_rustOf a0 a1 a2 M) := by
  rw [F_X7_rustOf]
  refine fr_gdh (fun ga0 => ?_)
  refine fr_gdh (fun ga1 => ?_)
  refine fr_bd (fr_mono (fr_X7_rustLaw _ _ _ _) (fm_Wsub [0] rfl)) (fun v1 M2 => ?_)
  refine fr_it ?_ ?_
  · exact fr_some
  · refine fr_bd (fr_mono (fr_X9_within _ _ _ _) (fm_Wsub [] rfl)) (fun v3 M4 => ?_)
    exact fr_some
abbrev W_X7_passDay (a0 : Nat) (a1 : Nat) : Nat → Nat → Prop := fm_W [(a0, some 0), (a0, some 4), (a0 + 1, none), (a0 + 4, none), (a0 + 5, none), (a1 + 15, none)]
theorem frG_X7_passDay_2 (a0 : Nat) (a1 : Nat) : ∀ (n : Nat)   (l2 : Int32) (M : fm_M), fm_Fr (W_X7_passDay a0 a1) M (G_X7_passDay_2 n a0 a1 l2 M) := by
  intro n
  induction n with
  | zero => intro l2 M; simp only [G_X7_passDay_2]; exact fr_none
  | succ n ih0 =>
    intro l2 M
    have ih := ih0 
    rw [G_X7_passDay_2]
    refine fr_it ?_ ?_
    · exact fr_some
    · refine fr_gdh (fun g1 => ?_)
      refine fr_it ?_ ?_
      · refine fr_gdh (fun g2 => ?_)
        refine fr_it ?_ ?_
        · refine fr_gdh (fun g3 => ?_)
          refine fr_bd (fr_mono (fr_X7_humOfAll _ _ _ _) (fm_Wsub [5] rfl)) (fun v4 M5 => ?_)
          refine fr_gdh (fun g6 => ?_)
          refine fr_up (fm_Wi 4 rfl) (fun M7 => ?_)
          refine fr_gdh (fun g8 => ?_)
          refine fr_gdh (fun g9 => ?_)
          refine fr_bd (fr_mono (fr_X7_passes _ _ _ _ _) (fm_Wsub [5] rfl)) (fun v10 M11 => ?_)
          refine fr_it ?_ ?_
          · refine fr_gdh (fun g12 => ?_)
            refine fr_up (fm_Wi 3 rfl) (fun M13 => ?_)
            exact ih _ _
          · refine fr_gdh (fun g14 => ?_)
            refine fr_up (fm_Wi 3 rfl) (fun M15 => ?_)
            exact ih _ _
        · exact ih _ _
      · exact ih _ _
theorem frG_X7_passDay_89 (a0 : Nat) (a1 : Nat) : ∀ (n : Nat)   (l2 : Int32) (M : fm_M), fm_Fr (W_X7_passDay a0 a1) M (G_X7_passDay_89 n a0 a1 l2 M) := by
  intro n
  induction n with
  | zero => intro l2 M; simp only [G_X7_passDay_89]; exact fr_none
  | succ n ih0 =>
    intro l2 M
    have ih := ih0 
    rw [G_X7_passDay_89]
    refine fr_it ?_ ?_
    · exact fr_some
    · refine fr_it ?_ ?_
      · exact fr_some
      · refine fr_gdh (fun g18 => ?_)
        refine fr_bd (fr_mono (fr_X7_rustOf _ _ _ _) (fm_Wsub [5] rfl)) (fun v19 M20 => ?_)
        refine fr_gdh (fun g21 => ?_)
        refine fr_up (fm_Wi 2 rfl) (fun M22 => ?_)
        exact ih _ _
theorem fr_X7_passDay (a0 : Nat) (a1 : Nat) (M : fm_M) : fm_Fr (W_X7_passDay a0 a1) M (F_X7_passDay a0 a1 M) := by
  rw [F_X7_passDay]
  refine fr_gdh (fun ga0 => ?_)
  refine fr_gdh (fun ga1 => ?_)
  refine fr_bd (frG_X7_passDay_2 _ _ _ _ _) (fun w16 M17 => ?_)
  refine fr_bd (frG_X7_passDay_89 _ _ _ _ _) (fun w23 M24 => ?_)
  refine fr_up (fm_Wf 1 rfl) (fun M25 => ?_)
  refine fr_up (fm_Wf 0 rfl) (fun M26 => ?_)
  exact fr_some
abbrev W_X8_wetOn (a0 : Nat) : Nat → Nat → Prop := fm_W []
theorem fr_X8_wetOn (a0 : Nat) (a1 : Int32) (M : fm_M) : fm_Fr (W_X8_wetOn a0) M (F_X8_wetOn a0 a1 M) := by
  rw [F_X8_wetOn]
  refine fr_gdh (fun ga0 => ?_)
  refine fr_it ?_ ?_
  · exact fr_some
  · refine fr_it ?_ ?_
    · exact fr_some
    · refine fr_it ?_ ?_
      · refine fr_gdh (fun g1 => ?_)
        refine fr_gdh (fun g2 => ?_)
        exact fr_some
      · exact fr_some
abbrev W_X5_seek (a1 : Nat) (a2 : Nat) : Nat → Nat → Prop := fm_W [(73, some 2), (73, some 3), (74, none), (75, none), (a1 + 15, none), (a2, some 0), (a2, some 1), (a2, some 4), (a2 + 1, none), (a2 + 3, none), (a2 + 4, none), (a2 + 5, none)]
theorem frG_X5_seek_13 (a1 : Nat) (a2 : Nat) : ∀ (n : Nat)  (l3 : Int32) (l4 : Int32) (M : fm_M), fm_Fr (W_X5_seek a1 a2) M (G_X5_seek_13 n a1 a2 l3 l4 M) := by
  intro n
  induction n with
  | zero => intro l3 l4 M; simp only [G_X5_seek_13]; exact fr_none
  | succ n ih0 =>
    intro l3 l4 M
    have ih := ih0 l3
    rw [G_X5_seek_13]
    refine fr_it ?_ ?_
    · exact fr_some
    · refine fr_it ?_ ?_
      · exact fr_some
      · refine fr_gdh (fun g3 => ?_)
        refine fr_it ?_ ?_
        · refine fr_gdh (fun g4 => ?_)
          refine fr_up (fm_Wi 2 rfl) (fun M5 => ?_)
          refine fr_gdh (fun g6 => ?_)
          refine fr_up (fm_Wi 3 rfl) (fun M7 => ?_)
          refine fr_gdh (fun g8 => ?_)
          refine fr_up (fm_Wi 9 rfl) (fun M9 => ?_)
          refine fr_up (fm_Wf 0 rfl) (fun M10 => ?_)
          exact ih _ _
        · exact ih _ _
theorem frG_X5_seek_98 (a1 : Nat) (a2 : Nat) : ∀ (n : Nat)  (l3 : Int32) (l4 : Int32) (l5 : Int32) (M : fm_M), fm_Fr (W_X5_seek a1 a2) M (G_X5_seek_98 n a1 a2 l3 l4 l5 M) := by
  intro n
  induction n with
  | zero => intro l3 l4 l5 M; simp only [G_X5_seek_98]; exact fr_none
  | succ n ih0 =>
    intro l3 l4 l5 M
    have ih := ih0 l3 l4
    rw [G_X5_seek_98]
    refine fr_it ?_ ?_
    · exact fr_some
    · refine fr_gdh (fun g13 => ?_)
      refine fr_it ?_ ?_
      · refine fr_gdh (fun g14 => ?_)
        refine fr_gdh (fun g15 => ?_)
        refine fr_bd (fr_mono (fr_X7_carries _ _ _ _) (fm_Wsub [4] rfl)) (fun v16 M17 => ?_)
        refine fr_it ?_ ?_
        · exact ih _ _
        · refine fr_gdh (fun g18 => ?_)
          refine fr_up (fm_Wi 3 rfl) (fun M19 => ?_)
          refine fr_up (fm_Wf 1 rfl) (fun M20 => ?_)
          exact ih _ _
      · exact ih _ _
theorem frG_X5_seek_89 (a1 : Nat) (a2 : Nat) : ∀ (n : Nat)  (l3 : Int32) (l4 : Int32) (M : fm_M), fm_Fr (W_X5_seek a1 a2) M (G_X5_seek_89 n a1 a2 l3 l4 M) := by
  intro n
  induction n with
  | zero => intro l3 l4 M; simp only [G_X5_seek_89]; exact fr_none
  | succ n ih0 =>
    intro l3 l4 M
    have ih := ih0 l3
    rw [G_X5_seek_89]
    refine fr_it ?_ ?_
    · exact fr_some
    · refine fr_bd (frG_X5_seek_98 _ _ _ _ _ _ _) (fun w21 M22 => ?_)
      refine fr_bd (fr_mono (fr_X7_passDay _ _ _) (fm_Wsub [5, 7, 8, 10, 11, 4] rfl)) (fun v23 M24 => ?_)
      refine fr_bd (fr_mono (fr_X8_wetOn _ _ _) (fm_Wsub [] rfl)) (fun v25 M26 => ?_)
      refine fr_up (fm_Wf 6 rfl) (fun M27 => ?_)
      exact ih _ _
theorem fr_X5_seek (a1 : Nat) (a2 : Nat) (a3 : Int32) (M : fm_M) : fm_Fr (W_X5_seek a1 a2) M (F_X5_seek a1 a2 a3 M) := by
  rw [F_X5_seek]
  refine fr_gdh (fun ga1 => ?_)
  refine fr_gdh (fun ga2 => ?_)
  refine fr_up (fm_Wf 0 rfl) (fun M1 => ?_)
  refine fr_up (fm_Wf 1 rfl) (fun M2 => ?_)
  refine fr_bd (frG_X5_seek_13 _ _ _ _ _ _) (fun w11 M12 => ?_)
  refine fr_bd (frG_X5_seek_89 _ _ _ _ _ _) (fun w28 M29 => ?_)
  exact fr_some
abbrev W_X5_dayOf  : Nat → Nat → Prop := fm_W []
theorem fr_X5_dayOf (a1 : Int32) (M : fm_M) : fm_Fr (W_X5_dayOf) M (F_X5_dayOf a1 M) := by
  rw [F_X5_dayOf]
  refine fr_it ?_ ?_
  · exact fr_some
  · refine fr_it ?_ ?_
    · exact fr_some
    · refine fr_gdh (fun g1 => ?_)
      exact fr_some
abbrev W_X6_append  : Nat → Nat → Prop := fm_W [(1, some 2), (2, none)]
theorem frG_X6_append_3  : ∀ (n : Nat)  (l1 : Int32) (l2 : Int32) (M : fm_M), fm_Fr (W_X6_append) M (G_X6_append_3 n l1 l2 M) := by
  intro n
  induction n with
  | zero => intro l1 l2 M; simp only [G_X6_append_3]; exact fr_none
  | succ n ih0 =>
    intro l1 l2 M
    have ih := ih0 l1
    rw [G_X6_append_3]
    refine fr_it ?_ ?_
    · exact fr_some
    · refine fr_it ?_ ?_
      · exact fr_some
      · refine fr_gdh (fun g1 => ?_)
        refine fr_up (fm_Wi 1 rfl) (fun M2 => ?_)
        refine fr_up (fm_Wf 0 rfl) (fun M3 => ?_)
        exact ih _ _
theorem fr_X6_append (a1 : Int32) (M : fm_M) : fm_Fr (W_X6_append) M (F_X6_append a1 M) := by
  rw [F_X6_append]
  refine fr_bd (frG_X6_append_3  _ _ _ _) (fun w4 M5 => ?_)
  exact fr_some
abbrev W_X6_isDigit  : Nat → Nat → Prop := fm_W []
theorem fr_X6_isDigit (a0 : Int32) (M : fm_M) : fm_Fr (W_X6_isDigit) M (F_X6_isDigit a0 M) := by
  rw [F_X6_isDigit]
  refine fr_it ?_ ?_
  · exact fr_some
  · refine fr_it ?_ ?_
    · exact fr_some
    · exact fr_some
abbrev W_X6_isLetter  : Nat → Nat → Prop := fm_W []
theorem fr_X6_isLetter (a0 : Int32) (M : fm_M) : fm_Fr (W_X6_isLetter) M (F_X6_isLetter a0 M) := by
  rw [F_X6_isLetter]
  refine fr_it ?_ ?_
  · exact fr_some
  · refine fr_it ?_ ?_
    · exact fr_some
    · exact fr_some
abbrev W_X6_readNumber  : Nat → Nat → Prop := fm_W [(1, some 10), (1, some 7), (1, some 8)]
theorem frJ_X6_readNumber_68  (rec : fm_M → Option ((Unit) × fm_M)) (ih : ∀  (M : fm_M), fm_Fr (W_X6_readNumber) M (rec M)) (s1 : Int32) (M : fm_M) : fm_Fr (W_X6_readNumber) M (J_X6_readNumber_68 rec s1 M) := by
  rw [J_X6_readNumber_68]
  refine fr_up (fm_Wf 0 rfl) (fun M6 => ?_)
  refine fr_up (fm_Wf 1 rfl) (fun M7 => ?_)
  exact ih  _
theorem frG_X6_readNumber_5  : ∀ (n : Nat)    (M : fm_M), fm_Fr (W_X6_readNumber) M (G_X6_readNumber_5 n M) := by
  intro n
  induction n with
  | zero => intro M; simp only [G_X6_readNumber_5]; exact fr_none
  | succ n ih0 =>
    intro M
    have ih := ih0 
    rw [G_X6_readNumber_5]
    refine fr_it ?_ ?_
    · exact fr_some
    · refine fr_gdh (fun g2 => ?_)
      refine fr_bd (fr_mono (fr_X6_isDigit _ _) (fm_Wsub [] rfl)) (fun v3 M4 => ?_)
      refine fr_it ?_ ?_
      · exact fr_some
      · refine fr_it ?_ ?_
        · refine fr_gdh (fun g5 => ?_)
          exact frJ_X6_readNumber_68  _ (fun y0 => ih y0) _ _
        · exact frJ_X6_readNumber_68  _ (fun y0 => ih y0) _ _
theorem fr_X6_readNumber  (M : fm_M) : fm_Fr (W_X6_readNumber) M (F_X6_readNumber  M) := by
  rw [F_X6_readNumber]
  refine fr_up (fm_Wf 2 rfl) (fun M1 => ?_)
  refine fr_bd (frG_X6_readNumber_5  _  _) (fun w8 M9 => ?_)
  exact fr_some
abbrev W_X6_readSign  : Nat → Nat → Prop := fm_W [(1, some 7), (1, some 8)]
theorem frJ_X6_readSign_278  (l1 : Int32) (l2 : Int32) (M : fm_M) : fm_Fr (W_X6_readSign) M (J_X6_readSign_278 l1 l2 M) := by
  rw [J_X6_readSign_278]
  refine fr_it ?_ ?_
  · refine fr_up (fm_Wf 0 rfl) (fun M5 => ?_)
    exact fr_some
  · refine fr_it ?_ ?_
    · refine fr_up (fm_Wf 0 rfl) (fun M6 => ?_)
      exact fr_some
    · refine fr_it ?_ ?_
      · refine fr_up (fm_Wf 0 rfl) (fun M7 => ?_)
        exact fr_some
      · exact fr_some
theorem frJ_X6_readSign_247  (l1 : Int32) (l2 : Int32) (s1 : Int32) (M : fm_M) : fm_Fr (W_X6_readSign) M (J_X6_readSign_247 l1 l2 s1 M) := by
  rw [J_X6_readSign_247]
  refine fr_up (fm_Wf 1 rfl) (fun M27 => ?_)
  exact frJ_X6_readSign_278  _ _ _
theorem frJ_X6_readSign_267  (l1 : Int32) (l2 : Int32) (s1 : Int32) (M : fm_M) : fm_Fr (W_X6_readSign) M (J_X6_readSign_267 l1 l2 s1 M) := by
  rw [J_X6_readSign_267]
  refine fr_up (fm_Wf 1 rfl) (fun M29 => ?_)
  exact frJ_X6_readSign_278  _ _ _
theorem frJ_X6_readSign_44  (l1 : Int32) (s0 : Int32) (M : fm_M) : fm_Fr (W_X6_readSign) M (J_X6_readSign_44 l1 s0 M) := by
  rw [J_X6_readSign_44]
  refine fr_it ?_ ?_
  · refine fr_up (fm_Wf 1 rfl) (fun M4 => ?_)
    exact frJ_X6_readSign_278  _ _ _
  · refine fr_it ?_ ?_
    · refine fr_up (fm_Wf 1 rfl) (fun M8 => ?_)
      exact frJ_X6_readSign_278  _ _ _
    · refine fr_it ?_ ?_
      · refine fr_up (fm_Wf 1 rfl) (fun M9 => ?_)
        exact frJ_X6_readSign_278  _ _ _
      · refine fr_it ?_ ?_
        · refine fr_up (fm_Wf 1 rfl) (fun M10 => ?_)
          exact frJ_X6_readSign_278  _ _ _
        · refine fr_it ?_ ?_
          · refine fr_up (fm_Wf 1 rfl) (fun M11 => ?_)
            exact frJ_X6_readSign_278  _ _ _
          · refine fr_it ?_ ?_
            · refine fr_up (fm_Wf 1 rfl) (fun M12 => ?_)
              exact frJ_X6_readSign_278  _ _ _
            · refine fr_it ?_ ?_
              · refine fr_up (fm_Wf 1 rfl) (fun M13 => ?_)
                exact frJ_X6_readSign_278  _ _ _
              · refine fr_it ?_ ?_
                · refine fr_up (fm_Wf 1 rfl) (fun M14 => ?_)
                  exact frJ_X6_readSign_278  _ _ _
                · refine fr_it ?_ ?_
                  · refine fr_up (fm_Wf 1 rfl) (fun M15 => ?_)
                    exact frJ_X6_readSign_278  _ _ _
                  · refine fr_it ?_ ?_
                    · refine fr_up (fm_Wf 1 rfl) (fun M16 => ?_)
                      exact frJ_X6_readSign_278  _ _ _
                    · refine fr_it ?_ ?_
                      · refine fr_up (fm_Wf 1 rfl) (fun M17 => ?_)
                        exact frJ_X6_readSign_278  _ _ _
                      · refine fr_it ?_ ?_
                        · refine fr_up (fm_Wf 1 rfl) (fun M18 => ?_)
                          exact frJ_X6_readSign_278  _ _ _
                        · refine fr_it ?_ ?_
                          · refine fr_up (fm_Wf 1 rfl) (fun M19 => ?_)
                            exact frJ_X6_readSign_278  _ _ _
                          · refine fr_it ?_ ?_
                            · refine fr_up (fm_Wf 1 rfl) (fun M20 => ?_)
                              exact frJ_X6_readSign_278  _ _ _
                            · refine fr_it ?_ ?_
                              · refine fr_up (fm_Wf 1 rfl) (fun M21 => ?_)
                                exact frJ_X6_readSign_278  _ _ _
                              · refine fr_it ?_ ?_
                                · refine fr_up (fm_Wf 1 rfl) (fun M22 => ?_)
                                  exact frJ_X6_readSign_278  _ _ _
                                · refine fr_it ?_ ?_
                                  · refine fr_up (fm_Wf 1 rfl) (fun M23 => ?_)
                                    exact frJ_X6_readSign_278  _ _ _
                                  · refine fr_it ?_ ?_
                                    · refine fr_up (fm_Wf 1 rfl) (fun M24 => ?_)
                                      exact frJ_X6_readSign_278  _ _ _
                                    · refine fr_it ?_ ?_
                                      · refine fr_up (fm_Wf 1 rfl) (fun M25 => ?_)
                                        exact frJ_X6_readSign_278  _ _ _
                                      · refine fr_it ?_ ?_
                                        · refine fr_up (fm_Wf 1 rfl) (fun M26 => ?_)
                                          exact frJ_X6_readSign_278  _ _ _
                                        · refine fr_it ?_ ?_
                                          · refine fr_it ?_ ?_
                                            · exact frJ_X6_readSign_247  _ _ _ _
                                            · refine fr_it ?_ ?_
                                              · exact frJ_X6_readSign_247  _ _ _ _
                                              · exact frJ_X6_readSign_247  _ _ _ _
                                          · refine fr_it ?_ ?_
                                            · refine fr_up (fm_Wf 1 rfl) (fun M28 => ?_)
                                              exact frJ_X6_readSign_278  _ _ _
                                            · refine fr_it ?_ ?_
                                              · refine fr_it ?_ ?_
                                                · exact frJ_X6_readSign_267  _ _ _ _
                                                · exact frJ_X6_readSign_267  _ _ _ _
                                              · refine fr_up (fm_Wf 1 rfl) (fun M30 => ?_)
                                                exact frJ_X6_readSign_278  _ _ _
theorem fr_X6_readSign  (M : fm_M) : fm_Fr (W_X6_readSign) M (F_X6_readSign  M) := by
  rw [F_X6_readSign]
  refine fr_gdh (fun g1 => ?_)
  refine fr_lt (fun x2 => ?_)
  refine fr_up (fm_Wf 0 rfl) (fun M3 => ?_)
  refine fr_it ?_ ?_
  · exact frJ_X6_readSign_44  _ _ _
  · refine fr_gdh (fun g31 => ?_)
    exact frJ_X6_readSign_44  _ _ _
abbrev W_X6_wordOf  : Nat → Nat → Prop := fm_W []
theorem frG_X6_wordOf_2  : ∀ (n : Nat)  (l1 : Int32) (l2 : Int32) (M : fm_M), fm_Fr (W_X6_wordOf) M (G_X6_wordOf_2 n l1 l2 M) := by
  intro n
  induction n with
  | zero => intro l1 l2 M; simp only [G_X6_wordOf_2]; exact fr_none
  | succ n ih0 =>
    intro l1 l2 M
    have ih := ih0 l1
    rw [G_X6_wordOf_2]
    refine fr_it ?_ ?_
    · exact fr_some
    · refine fr_gdh (fun g1 => ?_)
      refine fr_it ?_ ?_
      · exact fr_some
      · exact ih _ _
theorem fr_X6_wordOf (a1 : Int32) (M : fm_M) : fm_Fr (W_X6_wordOf) M (F_X6_wordOf a1 M) := by
  rw [F_X6_wordOf]
  refine fr_bs (frG_X6_wordOf_2  _ _ _ _) (fun w2 M3 => ?_) (fun _ _ => fr_some)
  exact fr_some
abbrev W_X6_readWord  : Nat → Nat → Prop := fm_W [(1, some 10), (1, some 7), (1, some 8)]
theorem frG_X6_readWord_2  : ∀ (n : Nat)   (l1 : Int32) (M : fm_M), fm_Fr (W_X6_readWord) M (G_X6_readWord_2 n l1 M) := by
  intro n
  induction n with
  | zero => intro l1 M; simp only [G_X6_readWord_2]; exact fr_none
  | succ n ih0 =>
    intro l1 M
    have ih := ih0 
    rw [G_X6_readWord_2]
    refine fr_it ?_ ?_
    · exact fr_some
    · refine fr_gdh (fun g1 => ?_)
      refine fr_bd (fr_mono (fr_X6_isLetter _ _) (fm_Wsub [] rfl)) (fun v2 M3 => ?_)
      refine fr_it ?_ ?_
      · exact fr_some
      · refine fr_it ?_ ?_
        · refine fr_up (fm_Wf 1 rfl) (fun M4 => ?_)
          exact ih _ _
        · refine fr_gdh (fun g5 => ?_)
          refine fr_lt (fun x6 => ?_)
          refine fr_up (fm_Wf 1 rfl) (fun M7 => ?_)
          exact ih _ _
theorem fr_X6_readWord  (M : fm_M) : fm_Fr (W_X6_readWord) M (F_X6_readWord  M) := by
  rw [F_X6_readWord]
  refine fr_bd (frG_X6_readWord_2  _ _ _) (fun w8 M9 => ?_)
  refine fr_up (fm_Wf 0 rfl) (fun M10 => ?_)
  refine fr_it ?_ ?_
  · refine fr_bd (fr_mono (fr_X6_wordOf _ _) (fm_Wsub [] rfl)) (fun v11 M12 => ?_)
    refine fr_up (fm_Wf 2 rfl) (fun M13 => ?_)
    exact fr_some
  · refine fr_up (fm_Wf 2 rfl) (fun M14 => ?_)
    exact fr_some
abbrev W_X6_advance  : Nat → Nat → Prop := fm_W [(1, some 10), (1, some 7), (1, some 8), (1, some 9)]
theorem frG_X6_advance_0  : ∀ (n : Nat)    (M : fm_M), fm_Fr (W_X6_advance) M (G_X6_advance_0 n M) := by
  intro n
  induction n with
  | zero => intro M; simp only [G_X6_advance_0]; exact fr_none
  | succ n ih0 =>
    intro M
    have ih := ih0 
    rw [G_X6_advance_0]
    refine fr_it ?_ ?_
    · exact fr_some
    · refine fr_gdh (fun g1 => ?_)
      refine fr_it ?_ ?_
      · refine fr_up (fm_Wf 1 rfl) (fun M2 => ?_)
        exact ih  _
      · refine fr_gdh (fun g3 => ?_)
        refine fr_it ?_ ?_
        · refine fr_up (fm_Wf 1 rfl) (fun M4 => ?_)
          exact ih  _
        · exact fr_some
theorem fr_X6_advance  (M : fm_M) : fm_Fr (W_X6_advance) M (F_X6_advance  M) := by
  rw [F_X6_advance]
  refine fr_bd (frG_X6_advance_0  _  _) (fun w5 M6 => ?_)
  refine fr_up (fm_Wf 3 rfl) (fun M7 => ?_)
  refine fr_up (fm_Wf 0 rfl) (fun M8 => ?_)
  refine fr_it ?_ ?_
  · refine fr_gdh (fun g9 => ?_)
    refine fr_bd (fr_mono (fr_X6_isLetter _ _) (fm_Wsub [] rfl)) (fun v10 M11 => ?_)
    refine fr_it ?_ ?_
    · refine fr_gdh (fun g12 => ?_)
      refine fr_bd (fr_mono (fr_X6_isDigit _ _) (fm_Wsub [] rfl)) (fun v13 M14 => ?_)
      refine fr_it ?_ ?_
      · refine fr_bd (fr_mono (fr_X6_readSign  _) (fm_Wsub [1, 2] rfl)) (fun v15 M16 => ?_)
        exact fr_some
      · refine fr_bd (fr_mono (fr_X6_readNumber  _) (fm_Wsub [0, 1, 2] rfl)) (fun v17 M18 => ?_)
        exact fr_some
    · refine fr_bd (fr_mono (fr_X6_readWord  _) (fm_Wsub [0, 1, 2] rfl)) (fun v19 M20 => ?_)
      exact fr_some
  · refine fr_up (fm_Wf 2 rfl) (fun M21 => ?_)
    exact fr_some
abbrev W_X8_clear (a0 : Nat) : Nat → Nat → Prop := fm_W [(a0, some 0), (a0, some 11), (a0, some 13), (a0, some 14), (a0, some 15), (a0, some 16), (a0, some 6), (a0, some 7), (a0 + 10, some 4), (a0 + 10, some 5), (a0 + 11, none), (a0 + 12, none)]
theorem fr_X8_clear (a0 : Nat) (M : fm_M) : fm_Fr (W_X8_clear a0) M (F_X8_clear a0 M) := by
  rw [F_X8_clear]
  refine fr_gdh (fun ga0 => ?_)
  refine fr_up (fm_Wf 0 rfl) (fun M1 => ?_)
  refine fr_up (fm_Wf 6 rfl) (fun M2 => ?_)
  refine fr_up (fm_Wf 7 rfl) (fun M3 => ?_)
  refine fr_up (fm_Wf 1 rfl) (fun M4 => ?_)
  refine fr_up (fm_Wf 2 rfl) (fun M5 => ?_)
  refine fr_up (fm_Wf 3 rfl) (fun M6 => ?_)
  refine fr_up (fm_Wf 4 rfl) (fun M7 => ?_)
  refine fr_up (fm_Wf 5 rfl) (fun M8 => ?_)
  refine fr_bd (fr_mono (fr_X3_clear _ _) (fm_Wsub [8, 9, 10, 11] rfl)) (fun v9 M10 => ?_)
  exact fr_some
abbrev W_X6_begin  : Nat → Nat → Prop := fm_W [(1, some 10), (1, some 11), (1, some 2), (1, some 3), (1, some 4), (1, some 6), (1, some 7), (1, some 8), (1, some 9), (14, some 4), (14, some 5), (15, none), (16, none), (21, some 0), (21, some 11), (21, some 13), (21, some 14), (21, some 15), (21, some 16), (21, some 6), (21, some 7), (31, some 4), (31, some 5), (32, none), (33, none), (4, some 0), (4, some 11), (4, some 13), (4, some 14), (4, some 15), (4, some 16), (4, some 6), (4, some 7)]
theorem fr_X6_begin (a1 : Int32) (M : fm_M) : fm_Fr (W_X6_begin) M (F_X6_begin a1 M) := by
  rw [F_X6_begin]
  refine fr_lt (fun t1 => ?_)
  refine fr_gdh (fun g2 => ?_)
  refine fr_bd (fr_mono (fr_X8_clear _ _) (by rcases fm_td g2 with rfl | rfl; exact fm_Wsub [25, 26, 27, 28, 29, 30, 31, 32, 9, 10, 11, 12] rfl; exact fm_Wsub [13, 14, 15, 16, 17, 18, 19, 20, 21, 22, 23, 24] rfl)) (fun v3 M4 => ?_)
  refine fr_up (fm_Wf 5 rfl) (fun M5 => ?_)
  refine fr_up (fm_Wf 6 rfl) (fun M6 => ?_)
  refine fr_up (fm_Wf 2 rfl) (fun M7 => ?_)
  refine fr_up (fm_Wf 1 rfl) (fun M8 => ?_)
  refine fr_up (fm_Wf 3 rfl) (fun M9 => ?_)
  refine fr_up (fm_Wf 4 rfl) (fun M10 => ?_)
  refine fr_bd (fr_mono (fr_X6_advance  _) (fm_Wsub [0, 6, 7, 8] rfl)) (fun v11 M12 => ?_)
  exact fr_some
abbrev W_X6_exchange (a1 : Nat) : Nat → Nat → Prop := fm_W [(1, some 5)]
theorem fr_X6_exchange (a1 : Nat) (M : fm_M) : fm_Fr (W_X6_exchange a1) M (F_X6_exchange a1 M) := by
  rw [F_X6_exchange]
  refine fr_gdh (fun ga1 => ?_)
  refine fr_lt (fun t1 => ?_)
  refine fr_gdh (fun g2 => ?_)
  refine fr_up (fm_Wf 0 rfl) (fun M3 => ?_)
  exact fr_some
abbrev W_X6_hasMore  : Nat → Nat → Prop := fm_W []
theorem fr_X6_hasMore  (M : fm_M) : fm_Fr (W_X6_hasMore) M (F_X6_hasMore  M) := by
  rw [F_X6_hasMore]
  refine fr_it ?_ ?_
  · exact fr_some
  · refine fr_it ?_ ?_
    · exact fr_some
    · exact fr_some
abbrev W_X6_refuse  : Nat → Nat → Prop := fm_W [(1, some 3), (1, some 4)]
theorem fr_X6_refuse (a1 : Int32) (M : fm_M) : fm_Fr (W_X6_refuse) M (F_X6_refuse a1 M) := by
  rw [F_X6_refuse]
  refine fr_it ?_ ?_
  · refine fr_up (fm_Wf 0 rfl) (fun M1 => ?_)
    refine fr_up (fm_Wf 1 rfl) (fun M2 => ?_)
    exact fr_some
  · exact fr_some
abbrev W_X6_number  : Nat → Nat → Prop := fm_W [(1, some 10), (1, some 3), (1, some 4), (1, some 7), (1, some 8), (1, some 9)]
theorem fr_X6_number (a1 : Int32) (a2 : Int32) (M : fm_M) : fm_Fr (W_X6_number) M (F_X6_number a1 a2 M) := by
  rw [F_X6_number]
  refine fr_it ?_ ?_
  · refine fr_lt (fun x1 => ?_)
    refine fr_it ?_ ?_
    · refine fr_it ?_ ?_
      · refine fr_bd (fr_mono (fr_X6_refuse _ _) (fm_Wsub [1, 2] rfl)) (fun v2 M3 => ?_)
        exact fr_some
      · refine fr_it ?_ ?_
        · refine fr_bd (fr_mono (fr_X6_advance  _) (fm_Wsub [0, 3, 4, 5] rfl)) (fun v4 M5 => ?_)
          exact fr_some
        · refine fr_bd (fr_mono (fr_X6_refuse _ _) (fm_Wsub [1, 2] rfl)) (fun v6 M7 => ?_)
          exact fr_some
    · refine fr_bd (fr_mono (fr_X6_refuse _ _) (fm_Wsub [1, 2] rfl)) (fun v8 M9 => ?_)
      exact fr_some
  · exact fr_some
abbrev W_X6_pass  : Nat → Nat → Prop := fm_W [(1, some 10), (1, some 3), (1, some 4), (1, some 7), (1, some 8), (1, some 9)]
theorem fr_X6_pass (a1 : Int32) (M : fm_M) : fm_Fr (W_X6_pass) M (F_X6_pass a1 M) := by
  rw [F_X6_pass]
  refine fr_it ?_ ?_
  · refine fr_it ?_ ?_
    · refine fr_bd (fr_mono (fr_X6_advance  _) (fm_Wsub [0, 3, 4, 5] rfl)) (fun v3 M4 => ?_)
      exact fr_some
    · refine fr_bd (fr_mono (fr_X6_refuse _ _) (fm_Wsub [1, 2] rfl)) (fun v1 M2 => ?_)
      exact fr_some
  · exact fr_some
abbrev W_X6_passOnce  : Nat → Nat → Prop := fm_W [(1, some 10), (1, some 11), (1, some 3), (1, some 4), (1, some 7), (1, some 8), (1, some 9)]
theorem fr_X6_passOnce  (M : fm_M) : fm_Fr (W_X6_passOnce) M (F_X6_passOnce  M) := by
  rw [F_X6_passOnce]
  refine fr_lt (fun x1 => ?_)
  refine fr_it ?_ ?_
  · refine fr_up (fm_Wf 1 rfl) (fun M2 => ?_)
    refine fr_bd (fr_mono (fr_X6_advance  _) (fm_Wsub [0, 4, 5, 6] rfl)) (fun v3 M4 => ?_)
    exact fr_some
  · refine fr_bd (fr_mono (fr_X6_refuse _ _) (fm_Wsub [2, 3] rfl)) (fun v5 M6 => ?_)
    exact fr_some
abbrev W_X8_placeOf (a1 : Nat) : Nat → Nat → Prop := fm_W []
theorem frG_X8_placeOf_2 (a1 : Nat) : ∀ (n : Nat) (n1 : Nat) (l0 : Int32) (l2 : Int32) (l3 : Int32) (M : fm_M), fm_Fr (W_X8_placeOf a1) M (G_X8_placeOf_2 n a1 n1 l0 l2 l3 M) := by
  intro n
  induction n with
  | zero => intro n1 l0 l2 l3 M; simp only [G_X8_placeOf_2]; exact fr_none
  | succ n ih0 =>
    intro n1 l0 l2 l3 M
    have ih := ih0 n1 l0 l2
    rw [G_X8_placeOf_2]
    refine fr_it ?_ ?_
    · exact fr_some
    · refine fr_it ?_ ?_
      · exact fr_some
      · refine fr_gdh (fun g1 => ?_)
        refine fr_it ?_ ?_
        · exact fr_some
        · exact ih _ _
theorem fr_X8_placeOf (a0 : Int32) (a1 : Nat) (a2 : Int32) (M : fm_M) : fm_Fr (W_X8_placeOf a1) M (F_X8_placeOf a0 a1 a2 M) := by
  rw [F_X8_placeOf]
  refine fr_bn (fun n1 => ?_)
  refine fr_bs (frG_X8_placeOf_2 _ _ _ _ _ _ _) (fun w2 M3 => ?_) (fun _ _ => fr_some)
  exact fr_some
abbrev W_X8_forkNamed (a0 : Nat) : Nat → Nat → Prop := fm_W []
theorem fr_X8_forkNamed (a0 : Nat) (a1 : Int32) (M : fm_M) : fm_Fr (W_X8_forkNamed a0) M (F_X8_forkNamed a0 a1 M) := by
  rw [F_X8_forkNamed]
  refine fr_gdh (fun ga0 => ?_)
  refine fr_bd (fr_mono (fr_X8_placeOf _ _ _ _) (fm_Wsub [] rfl)) (fun v1 M2 => ?_)
  exact fr_some
abbrev W_X6_readCrack  : Nat → Nat → Prop := fm_W [(1, some 10), (1, some 3), (1, some 4), (1, some 7), (1, some 8), (1, some 9), (21, some 6), (4, some 6)]
theorem fr_X6_readCrack  (M : fm_M) : fm_Fr (W_X6_readCrack) M (F_X6_readCrack  M) := by
  rw [F_X6_readCrack]
  refine fr_bd (fr_mono (fr_X6_advance  _) (fm_Wsub [0, 3, 4, 5] rfl)) (fun v1 M2 => ?_)
  refine fr_lt (fun t3 => ?_)
  refine fr_gdh (fun g4 => ?_)
  refine fr_bd (fr_mono (fr_X8_forkNamed _ _ _) (by rcases fm_td g4 with rfl | rfl; exact fm_Wsub [] rfl; exact fm_Wsub [] rfl)) (fun v5 M6 => ?_)
  refine fr_it ?_ ?_
  · refine fr_it ?_ ?_
    · refine fr_bd (fr_mono (fr_X6_refuse _ _) (fm_Wsub [1, 2] rfl)) (fun v18 M19 => ?_)
      exact fr_some
    · refine fr_lt (fun t7 => ?_)
      refine fr_gdh (fun g8 => ?_)
      refine fr_bd (fr_mono (fr_X9_bitOf _ _ _) (fm_Wsub [] rfl)) (fun v9 M10 => ?_)
      refine fr_it ?_ ?_
      · refine fr_bd (fr_mono (fr_X6_refuse _ _) (fm_Wsub [1, 2] rfl)) (fun v16 M17 => ?_)
        exact fr_some
      · refine fr_lt (fun t11 => ?_)
        refine fr_gdh (fun g12 => ?_)
        refine fr_up (by rcases fm_td g12 with rfl | rfl; exact fm_Wf 7 rfl; exact fm_Wf 6 rfl) (fun M13 => ?_)
        refine fr_bd (fr_mono (fr_X6_advance  _) (fm_Wsub [0, 3, 4, 5] rfl)) (fun v14 M15 => ?_)
        exact fr_some
  · refine fr_bd (fr_mono (fr_X6_refuse _ _) (fm_Wsub [1, 2] rfl)) (fun v20 M21 => ?_)
    exact fr_some
abbrev W_X6_newName  : Nat → Nat → Prop := fm_W [(1, some 10), (1, some 3), (1, some 4), (1, some 7), (1, some 8), (1, some 9)]
theorem fr_X6_newName (a1 : Int32) (M : fm_M) : fm_Fr (W_X6_newName) M (F_X6_newName a1 M) := by
  rw [F_X6_newName]
  refine fr_lt (fun x1 => ?_)
  refine fr_it ?_ ?_
  · refine fr_it ?_ ?_
    · refine fr_bd (fr_mono (fr_X6_advance  _) (fm_Wsub [0, 3, 4, 5] rfl)) (fun v2 M3 => ?_)
      exact fr_some
    · refine fr_bd (fr_mono (fr_X6_refuse _ _) (fm_Wsub [1, 2] rfl)) (fun v4 M5 => ?_)
      exact fr_some
  · refine fr_bd (fr_mono (fr_X6_refuse _ _) (fm_Wsub [1, 2] rfl)) (fun v6 M7 => ?_)
    exact fr_some
abbrev W_X6_readFork  : Nat → Nat → Prop := fm_W [(1, some 10), (1, some 3), (1, some 4), (1, some 7), (1, some 8), (1, some 9), (21, some 0), (22, none), (23, none), (24, none), (25, none), (26, none), (4, some 0), (5, none), (6, none), (7, none), (8, none), (9, none)]
theorem fr_X6_readFork  (M : fm_M) : fm_Fr (W_X6_readFork) M (F_X6_readFork  M) := by
  rw [F_X6_readFork]
  refine fr_lt (fun t1 => ?_)
  refine fr_gdh (fun g2 => ?_)
  refine fr_lt (fun x3 => ?_)
  refine fr_it ?_ ?_
  · refine fr_bd (fr_mono (fr_X6_advance  _) (fm_Wsub [0, 3, 4, 5] rfl)) (fun v4 M5 => ?_)
    refine fr_lt (fun t6 => ?_)
    refine fr_gdh (fun g7 => ?_)
    refine fr_lt (fun t8 => ?_)
    refine fr_gdh (fun g9 => ?_)
    refine fr_bd (fr_mono (fr_X8_forkNamed _ _ _) (by rcases fm_td g9 with rfl | rfl; exact fm_Wsub [] rfl; exact fm_Wsub [] rfl)) (fun v10 M11 => ?_)
    refine fr_bd (fr_mono (fr_X6_newName _ _) (fm_Wsub [0, 1, 2, 3, 4, 5] rfl)) (fun v12 M13 => ?_)
    refine fr_gdh (fun g14 => ?_)
    refine fr_up (by rcases fm_td g7 with rfl | rfl; exact fm_Wi 13 rfl; exact fm_Wi 7 rfl) (fun M15 => ?_)
    refine fr_lt (fun t16 => ?_)
    refine fr_gdh (fun g17 => ?_)
    refine fr_bd (fr_mono (fr_X6_number _ _ _) (fm_Wsub [0, 1, 2, 3, 4, 5] rfl)) (fun v18 M19 => ?_)
    refine fr_gdh (fun g20 => ?_)
    refine fr_up (by rcases fm_td g17 with rfl | rfl; exact fm_Wi 14 rfl; exact fm_Wi 8 rfl) (fun M21 => ?_)
    refine fr_lt (fun t22 => ?_)
    refine fr_gdh (fun g23 => ?_)
    refine fr_bd (fr_mono (fr_X6_number _ _ _) (fm_Wsub [0, 1, 2, 3, 4, 5] rfl)) (fun v24 M25 => ?_)
    refine fr_gdh (fun g26 => ?_)
    refine fr_up (by rcases fm_td g23 with rfl | rfl; exact fm_Wi 15 rfl; exact fm_Wi 9 rfl) (fun M27 => ?_)
    refine fr_lt (fun t28 => ?_)
    refine fr_gdh (fun g29 => ?_)
    refine fr_bd (fr_mono (fr_X6_number _ _ _) (fm_Wsub [0, 1, 2, 3, 4, 5] rfl)) (fun v30 M31 => ?_)
    refine fr_gdh (fun g32 => ?_)
    refine fr_up (by rcases fm_td g29 with rfl | rfl; exact fm_Wi 16 rfl; exact fm_Wi 10 rfl) (fun M33 => ?_)
    refine fr_lt (fun t34 => ?_)
    refine fr_gdh (fun g35 => ?_)
    refine fr_bd (fr_mono (fr_X6_number _ _ _) (fm_Wsub [0, 1, 2, 3, 4, 5] rfl)) (fun v36 M37 => ?_)
    refine fr_gdh (fun g38 => ?_)
    refine fr_up (by rcases fm_td g35 with rfl | rfl; exact fm_Wi 17 rfl; exact fm_Wi 11 rfl) (fun M39 => ?_)
    refine fr_lt (fun t40 => ?_)
    refine fr_gdh (fun g41 => ?_)
    refine fr_up (by rcases fm_td g41 with rfl | rfl; exact fm_Wf 12 rfl; exact fm_Wf 6 rfl) (fun M42 => ?_)
    exact fr_some
  · refine fr_bd (fr_mono (fr_X6_refuse _ _) (fm_Wsub [1, 2] rfl)) (fun v43 M44 => ?_)
    exact fr_some
abbrev W_X6_passKnot  : Nat → Nat → Prop := fm_W [(1, some 10), (1, some 3), (1, some 4), (1, some 7), (1, some 8), (1, some 9), (14, some 5), (31, some 5)]
theorem fr_X6_passKnot  (M : fm_M) : fm_Fr (W_X6_passKnot) M (F_X6_passKnot  M) := by
  rw [F_X6_passKnot]
  refine fr_lt (fun t1 => ?_)
  refine fr_gdh (fun g2 => ?_)
  refine fr_it ?_ ?_
  · refine fr_lt (fun t3 => ?_)
    refine fr_gdh (fun g4 => ?_)
    refine fr_up (by rcases fm_td g4 with rfl | rfl; exact fm_Wf 6 rfl; exact fm_Wf 7 rfl) (fun M5 => ?_)
    refine fr_bd (fr_mono (fr_X6_advance  _) (fm_Wsub [0, 3, 4, 5] rfl)) (fun v6 M7 => ?_)
    exact fr_some
  · refine fr_bd (fr_mono (fr_X6_refuse _ _) (fm_Wsub [1, 2] rfl)) (fun v8 M9 => ?_)
    exact fr_some
abbrev W_X8_motionNamed (a0 : Nat) : Nat → Nat → Prop := fm_W []
theorem fr_X8_motionNamed (a0 : Nat) (a1 : Int32) (M : fm_M) : fm_Fr (W_X8_motionNamed a0) M (F_X8_motionNamed a0 a1 M) := by
  rw [F_X8_motionNamed]
  refine fr_gdh (fun ga0 => ?_)
  refine fr_bd (fr_mono (fr_X8_placeOf _ _ _ _) (fm_Wsub [] rfl)) (fun v1 M2 => ?_)
  exact fr_some
abbrev W_X6_readMotion  : Nat → Nat → Prop := fm_W [(1, some 10), (1, some 3), (1, some 4), (1, some 7), (1, some 8), (1, some 9), (10, none), (11, none), (12, none), (21, some 7), (27, none), (28, none), (29, none), (4, some 7)]
theorem fr_X6_readMotion  (M : fm_M) : fm_Fr (W_X6_readMotion) M (F_X6_readMotion  M) := by
  rw [F_X6_readMotion]
  refine fr_lt (fun t1 => ?_)
  refine fr_gdh (fun g2 => ?_)
  refine fr_lt (fun x3 => ?_)
  refine fr_it ?_ ?_
  · refine fr_bd (fr_mono (fr_X6_advance  _) (fm_Wsub [0, 3, 4, 5] rfl)) (fun v4 M5 => ?_)
    refine fr_lt (fun t6 => ?_)
    refine fr_gdh (fun g7 => ?_)
    refine fr_lt (fun t8 => ?_)
    refine fr_gdh (fun g9 => ?_)
    refine fr_bd (fr_mono (fr_X8_motionNamed _ _ _) (by rcases fm_td g9 with rfl | rfl; exact fm_Wsub [] rfl; exact fm_Wsub [] rfl)) (fun v10 M11 => ?_)
    refine fr_bd (fr_mono (fr_X6_newName _ _) (fm_Wsub [0, 1, 2, 3, 4, 5] rfl)) (fun v12 M13 => ?_)
    refine fr_gdh (fun g14 => ?_)
    refine fr_up (by rcases fm_td g7 with rfl | rfl; exact fm_Wi 6 rfl; exact fm_Wi 10 rfl) (fun M15 => ?_)
    refine fr_lt (fun t16 => ?_)
    refine fr_gdh (fun g17 => ?_)
    refine fr_bd (fr_mono (fr_X6_number _ _ _) (fm_Wsub [0, 1, 2, 3, 4, 5] rfl)) (fun v18 M19 => ?_)
    refine fr_gdh (fun g20 => ?_)
    refine fr_up (by rcases fm_td g17 with rfl | rfl; exact fm_Wi 7 rfl; exact fm_Wi 11 rfl) (fun M21 => ?_)
    refine fr_lt (fun t22 => ?_)
    refine fr_gdh (fun g23 => ?_)
    refine fr_bd (fr_mono (fr_X6_number _ _ _) (fm_Wsub [0, 1, 2, 3, 4, 5] rfl)) (fun v24 M25 => ?_)
    refine fr_gdh (fun g26 => ?_)
    refine fr_up (by rcases fm_td g23 with rfl | rfl; exact fm_Wi 8 rfl; exact fm_Wi 12 rfl) (fun M27 => ?_)
    refine fr_lt (fun t28 => ?_)
    refine fr_gdh (fun g29 => ?_)
    refine fr_up (by rcases fm_td g29 with rfl | rfl; exact fm_Wf 13 rfl; exact fm_Wf 9 rfl) (fun M30 => ?_)
    exact fr_some
  · refine fr_bd (fr_mono (fr_X6_refuse _ _) (fm_Wsub [1, 2] rfl)) (fun v31 M32 => ?_)
    exact fr_some
abbrev W_X6_readWet  : Nat → Nat → Prop := fm_W [(1, some 10), (1, some 3), (1, some 4), (1, some 7), (1, some 8), (1, some 9), (13, none), (21, some 11), (30, none), (4, some 11)]
theorem fr_X6_readWet  (M : fm_M) : fm_Fr (W_X6_readWet) M (F_X6_readWet  M) := by
  rw [F_X6_readWet]
  refine fr_lt (fun t1 => ?_)
  refine fr_gdh (fun g2 => ?_)
  refine fr_it ?_ ?_
  · refine fr_bd (fr_mono (fr_X6_advance  _) (fm_Wsub [0, 3, 4, 5] rfl)) (fun v3 M4 => ?_)
    refine fr_lt (fun t5 => ?_)
    refine fr_gdh (fun g6 => ?_)
    refine fr_lt (fun t7 => ?_)
    refine fr_gdh (fun g8 => ?_)
    refine fr_bd (fr_mono (fr_X6_number _ _ _) (fm_Wsub [0, 1, 2, 3, 4, 5] rfl)) (fun v9 M10 => ?_)
    refine fr_gdh (fun g11 => ?_)
    refine fr_up (by rcases fm_td g6 with rfl | rfl; exact fm_Wi 6 rfl; exact fm_Wi 8 rfl) (fun M12 => ?_)
    refine fr_lt (fun t13 => ?_)
    refine fr_gdh (fun g14 => ?_)
    refine fr_up (by rcases fm_td g14 with rfl | rfl; exact fm_Wf 9 rfl; exact fm_Wf 7 rfl) (fun M15 => ?_)
    exact fr_some
  · refine fr_bd (fr_mono (fr_X6_refuse _ _) (fm_Wsub [1, 2] rfl)) (fun v16 M17 => ?_)
    exact fr_some
abbrev W_X7_begin (a0 : Nat) (a1 : Nat) : Nat → Nat → Prop := fm_W [(a0, some 0), (a0, some 1), (a0, some 2), (a0, some 3), (a0, some 4), (a0, some 5), (a0, some 6), (a0, some 7), (a0 + 1, none), (a0 + 2, none), (a0 + 3, none), (a0 + 4, none), (a0 + 5, none)]
theorem fr_X7_begin (a0 : Nat) (a1 : Nat) (M : fm_M) : fm_Fr (W_X7_begin a0 a1) M (F_X7_begin a0 a1 M) := by
  rw [F_X7_begin]
  refine fr_gdh (fun ga0 => ?_)
  refine fr_gdh (fun ga1 => ?_)
  refine fr_up (fm_Wf 0 rfl) (fun M1 => ?_)
  refine fr_bd (fr_mono (fr_X8_wetOn _ _ _) (fm_Wsub [] rfl)) (fun v2 M3 => ?_)
  refine fr_up (fm_Wf 1 rfl) (fun M4 => ?_)
  refine fr_up (fm_Wf 2 rfl) (fun M5 => ?_)
  refine fr_up (fm_Wf 3 rfl) (fun M6 => ?_)
  refine fr_up (fm_Wf 4 rfl) (fun M7 => ?_)
  refine fr_up (fm_Wf 5 rfl) (fun M8 => ?_)
  refine fr_up (fm_Wf 6 rfl) (fun M9 => ?_)
  refine fr_up (fm_Wf 7 rfl) (fun M10 => ?_)
  refine fr_gdh (fun g11 => ?_)
  refine fr_row (fun _ => fm_Wi 8 rfl) (fun M12 => ?_)
  refine fr_gdh (fun g13 => ?_)
  refine fr_row (fun _ => fm_Wi 9 rfl) (fun M14 => ?_)
  refine fr_gdh (fun g15 => ?_)
  refine fr_row (fun _ => fm_Wi 10 rfl) (fun M16 => ?_)
  refine fr_bd (fr_mono (fr_J7_fill_53178 _ _ _) (fm_Wsub [11] rfl)) (fun v17 M18 => ?_)
  refine fr_bd (fr_mono (fr_J7_fill_53178 _ _ _) (fm_Wsub [12] rfl)) (fun v19 M20 => ?_)
  exact fr_some
abbrev W_X7_copyFrom (a0 : Nat) (a1 : Nat) : Nat → Nat → Prop := fm_W [(a0, some 0), (a0, some 1), (a0, some 2), (a0, some 3), (a0, some 4), (a0, some 5), (a0, some 6), (a0, some 7), (a0 + 1, none), (a0 + 2, none), (a0 + 3, none), (a0 + 4, none), (a0 + 5, none)]
theorem fr_X7_copyFrom (a0 : Nat) (a1 : Nat) (M : fm_M) : fm_Fr (W_X7_copyFrom a0 a1) M (F_X7_copyFrom a0 a1 M) := by
  rw [F_X7_copyFrom]
  refine fr_gdh (fun ga0 => ?_)
  refine fr_gdh (fun ga1 => ?_)
  refine fr_up (fm_Wf 0 rfl) (fun M1 => ?_)
  refine fr_up (fm_Wf 1 rfl) (fun M2 => ?_)
  refine fr_up (fm_Wf 2 rfl) (fun M3 => ?_)
  refine fr_up (fm_Wf 3 rfl) (fun M4 => ?_)
  refine fr_up (fm_Wf 4 rfl) (fun M5 => ?_)
  refine fr_up (fm_Wf 5 rfl) (fun M6 => ?_)
  refine fr_up (fm_Wf 6 rfl) (fun M7 => ?_)
  refine fr_gdh (fun g8 => ?_)
  refine fr_up (fm_Wf 7 rfl) (fun M9 => ?_)
  refine fr_gdh (fun g10 => ?_)
  refine fr_row (fun _ => fm_Wi 8 rfl) (fun M11 => ?_)
  refine fr_gdh (fun g12 => ?_)
  refine fr_row (fun _ => fm_Wi 9 rfl) (fun M13 => ?_)
  refine fr_gdh (fun g14 => ?_)
  refine fr_row (fun _ => fm_Wi 10 rfl) (fun M15 => ?_)
  refine fr_gdh (fun g16 => ?_)
  refine fr_row (fun _ => fm_Wi 11 rfl) (fun M17 => ?_)
  refine fr_gdh (fun g18 => ?_)
  refine fr_row (fun _ => fm_Wi 12 rfl) (fun M19 => ?_)
  exact fr_some
abbrev W_X7_filed (a0 : Nat) : Nat → Nat → Prop := fm_W [(a0, some 2), (a0, some 3), (a0 + 1, none)]
theorem fr_X7_filed (a0 : Nat) (a1 : Int32) (a2 : Int32) (a3 : Int32) (M : fm_M) : fm_Fr (W_X7_filed a0) M (F_X7_filed a0 a1 a2 a3 M) := by
  rw [F_X7_filed]
  refine fr_gdh (fun ga0 => ?_)
  refine fr_gdh (fun g1 => ?_)
  refine fr_gdh (fun g2 => ?_)
  refine fr_up (fm_Wi 2 rfl) (fun M3 => ?_)
  refine fr_up (fm_Wf 0 rfl) (fun M4 => ?_)
  refine fr_up (fm_Wf 1 rfl) (fun M5 => ?_)
  exact fr_some
abbrev W_X7_wouldBeat (a0 : Nat) : Nat → Nat → Prop := fm_W []
theorem fr_X7_wouldBeat (a0 : Nat) (a1 : Int32) (a2 : Int32) (a3 : Int32) (M : fm_M) : fm_Fr (W_X7_wouldBeat a0) M (F_X7_wouldBeat a0 a1 a2 a3 M) := by
  rw [F_X7_wouldBeat]
  refine fr_gdh (fun ga0 => ?_)
  refine fr_gdh (fun g1 => ?_)
  refine fr_lt (fun x2 => ?_)
  refine fr_bd (fr_mono (fr_X9_isNote _ _) (fm_Wsub [] rfl)) (fun v3 M4 => ?_)
  refine fr_it ?_ ?_
  · exact fr_some
  · refine fr_bd (fr_mono (fr_X7_beatsOf _ _ _) (fm_Wsub [] rfl)) (fun v5 M6 => ?_)
    refine fr_gdh (fun g7 => ?_)
    refine fr_it ?_ ?_
    · exact fr_some
    · exact fr_some
abbrev W_X7_agreed (a0 : Nat) (a1 : Nat) : Nat → Nat → Prop := fm_W [(a1 + 15, none)]
theorem frG_X7_agreed_5 (a0 : Nat) (a1 : Nat) : ∀ (n : Nat)  (l2 : Int32) (l3 : Int32) (l4 : Int32) (M : fm_M), fm_Fr (W_X7_agreed a0 a1) M (G_X7_agreed_5 n a0 a1 l2 l3 l4 M) := by
  intro n
  induction n with
  | zero => intro l2 l3 l4 M; simp only [G_X7_agreed_5]; exact fr_none
  | succ n ih0 =>
    intro l2 l3 l4 M
    have ih := ih0 l2
    rw [G_X7_agreed_5]
    refine fr_it ?_ ?_
    · exact fr_some
    · refine fr_bd (fr_mono (fr_X7_humOf _ _ _ _ _) (fm_Wsub [0] rfl)) (fun v1 M2 => ?_)
      refine fr_it ?_ ?_
      · exact ih _ _ _
      · exact ih _ _ _
theorem fr_X7_agreed (a0 : Nat) (a1 : Nat) (a2 : Int32) (M : fm_M) : fm_Fr (W_X7_agreed a0 a1) M (F_X7_agreed a0 a1 a2 M) := by
  rw [F_X7_agreed]
  refine fr_gdh (fun ga0 => ?_)
  refine fr_gdh (fun ga1 => ?_)
  refine fr_bd (frG_X7_agreed_5 _ _ _ _ _ _ _) (fun w3 M4 => ?_)
  exact fr_some
abbrev W_X7_listen (a0 : Nat) (a1 : Nat) : Nat → Nat → Prop := fm_W [(a0 + 6, none), (a1 + 15, none)]
theorem frG_X7_listen_2 (a0 : Nat) (a1 : Nat) : ∀ (n : Nat)  (l2 : Int32) (l3 : Int32) (M : fm_M), fm_Fr (W_X7_listen a0 a1) M (G_X7_listen_2 n a0 a1 l2 l3 M) := by
  intro n
  induction n with
  | zero => intro l2 l3 M; simp only [G_X7_listen_2]; exact fr_none
  | succ n ih0 =>
    intro l2 l3 M
    have ih := ih0 l2
    rw [G_X7_listen_2]
    refine fr_it ?_ ?_
    · exact fr_some
    · refine fr_bd (fr_mono (fr_X7_humOf _ _ _ _ _) (fm_Wsub [1] rfl)) (fun v1 M2 => ?_)
      refine fr_gdh (fun g3 => ?_)
      refine fr_up (fm_Wi 0 rfl) (fun M4 => ?_)
      exact ih _ _
theorem fr_X7_listen (a0 : Nat) (a1 : Nat) (a2 : Int32) (M : fm_M) : fm_Fr (W_X7_listen a0 a1) M (F_X7_listen a0 a1 a2 M) := by
  rw [F_X7_listen]
  refine fr_gdh (fun ga0 => ?_)
  refine fr_gdh (fun ga1 => ?_)
  refine fr_bd (frG_X7_listen_2 _ _ _ _ _ _) (fun w5 M6 => ?_)
  exact fr_some
abbrev W_X7_listenedTo (a0 : Nat) : Nat → Nat → Prop := fm_W []
theorem frG_X7_listenedTo_5 (a0 : Nat) : ∀ (n : Nat)  (l1 : Int32) (l2 : Int32) (l3 : Int32) (l4 : Int32) (M : fm_M), fm_Fr (W_X7_listenedTo a0) M (G_X7_listenedTo_5 n a0 l1 l2 l3 l4 M) := by
  intro n
  induction n with
  | zero => intro l1 l2 l3 l4 M; simp only [G_X7_listenedTo_5]; exact fr_none
  | succ n ih0 =>
    intro l1 l2 l3 l4 M
    have ih := ih0 l1 l2
    rw [G_X7_listenedTo_5]
    refine fr_it ?_ ?_
    · exact fr_some
    · refine fr_it ?_ ?_
      · exact fr_some
      · refine fr_bd (fr_mono (fr_X9_bitOf _ _ _) (fm_Wsub [] rfl)) (fun v1 M2 => ?_)
        refine fr_it ?_ ?_
        · refine fr_gdh (fun g3 => ?_)
          refine fr_lt (fun x4 => ?_)
          exact ih _ _ _
        · exact ih _ _ _
theorem fr_X7_listenedTo (a0 : Nat) (a1 : Int32) (a2 : Int32) (M : fm_M) : fm_Fr (W_X7_listenedTo a0) M (F_X7_listenedTo a0 a1 a2 M) := by
  rw [F_X7_listenedTo]
  refine fr_gdh (fun ga0 => ?_)
  refine fr_bd (frG_X7_listenedTo_5 _ _ _ _ _ _ _) (fun w5 M6 => ?_)
  exact fr_some
abbrev W_X7_passDays (a0 : Nat) (a1 : Nat) : Nat → Nat → Prop := fm_W [(a0, some 0), (a0, some 1), (a0, some 4), (a0 + 1, none), (a0 + 4, none), (a0 + 5, none), (a1 + 15, none)]
theorem frG_X7_passDays_2 (a0 : Nat) (a1 : Nat) : ∀ (n : Nat)  (l2 : Int32) (l3 : Int32) (M : fm_M), fm_Fr (W_X7_passDays a0 a1) M (G_X7_passDays_2 n a0 a1 l2 l3 M) := by
  intro n
  induction n with
  | zero => intro l2 l3 M; simp only [G_X7_passDays_2]; exact fr_none
  | succ n ih0 =>
    intro l2 l3 M
    have ih := ih0 l2
    rw [G_X7_passDays_2]
    refine fr_it ?_ ?_
    · exact fr_some
    · refine fr_bd (fr_mono (fr_X7_passDay _ _ _) (fm_Wsub [0, 2, 3, 4, 5, 6] rfl)) (fun v1 M2 => ?_)
      refine fr_bd (fr_mono (fr_X8_wetOn _ _ _) (fm_Wsub [] rfl)) (fun v3 M4 => ?_)
      refine fr_up (fm_Wf 1 rfl) (fun M5 => ?_)
      exact ih _ _
theorem fr_X7_passDays (a0 : Nat) (a1 : Nat) (a2 : Int32) (M : fm_M) : fm_Fr (W_X7_passDays a0 a1) M (F_X7_passDays a0 a1 a2 M) := by
  rw [F_X7_passDays]
  refine fr_gdh (fun ga0 => ?_)
  refine fr_gdh (fun ga1 => ?_)
  refine fr_bd (frG_X7_passDays_2 _ _ _ _ _ _) (fun w6 M7 => ?_)
  exact fr_some
abbrev W_X7_passDryDays (a0 : Nat) (a1 : Nat) : Nat → Nat → Prop := fm_W [(a0, some 0), (a0, some 1), (a0, some 4), (a0 + 1, none), (a0 + 4, none), (a0 + 5, none), (a1 + 15, none)]
theorem frG_X7_passDryDays_2 (a0 : Nat) (a1 : Nat) : ∀ (n : Nat)  (l2 : Int32) (l3 : Int32) (M : fm_M), fm_Fr (W_X7_passDryDays a0 a1) M (G_X7_passDryDays_2 n a0 a1 l2 l3 M) := by
  intro n
  induction n with
  | zero => intro l2 l3 M; simp only [G_X7_passDryDays_2]; exact fr_none
  | succ n ih0 =>
    intro l2 l3 M
    have ih := ih0 l2
    rw [G_X7_passDryDays_2]
    refine fr_it ?_ ?_
    · exact fr_some
    · refine fr_up (fm_Wf 1 rfl) (fun M1 => ?_)
      refine fr_bd (fr_mono (fr_X7_passDay _ _ _) (fm_Wsub [0, 2, 3, 4, 5, 6] rfl)) (fun v2 M3 => ?_)
      exact ih _ _
theorem fr_X7_passDryDays (a0 : Nat) (a1 : Nat) (a2 : Int32) (M : fm_M) : fm_Fr (W_X7_passDryDays a0 a1) M (F_X7_passDryDays a0 a1 a2 M) := by
  rw [F_X7_passDryDays]
  refine fr_gdh (fun ga0 => ?_)
  refine fr_gdh (fun ga1 => ?_)
  refine fr_bd (frG_X7_passDryDays_2 _ _ _ _ _ _) (fun w4 M5 => ?_)
  exact fr_some
abbrev W_X7_passDaysByChance (a0 : Nat) (a1 : Nat) : Nat → Nat → Prop := fm_W [(a0, some 0), (a0, some 1), (a0, some 4), (a0 + 1, none), (a0 + 4, none), (a0 + 5, none), (a1 + 15, none)]
theorem frG_X7_passDaysByChance_6 (a0 : Nat) (a1 : Nat) : ∀ (n : Nat)  (l2 : Int32) (l3 : Int32) (l4 : Int32) (l5 : Int32) (M : fm_M), fm_Fr (W_X7_passDaysByChance a0 a1) M (G_X7_passDaysByChance_6 n a0 a1 l2 l3 l4 l5 M) := by
  intro n
  induction n with
  | zero => intro l2 l3 l4 l5 M; simp only [G_X7_passDaysByChance_6]; exact fr_none
  | succ n ih0 =>
    intro l2 l3 l4 l5 M
    have ih := ih0 l2 l3
    rw [G_X7_passDaysByChance_6]
    refine fr_it ?_ ?_
    · exact fr_some
    · refine fr_lt (fun x1 => ?_)
      refine fr_up (fm_Wf 1 rfl) (fun M2 => ?_)
      refine fr_bd (fr_mono (fr_X7_passDay _ _ _) (fm_Wsub [0, 2, 3, 4, 5, 6] rfl)) (fun v3 M4 => ?_)
      exact ih _ _ _
theorem fr_X7_passDaysByChance (a0 : Nat) (a1 : Nat) (a2 : Int32) (a3 : Int32) (M : fm_M) : fm_Fr (W_X7_passDaysByChance a0 a1) M (F_X7_passDaysByChance a0 a1 a2 a3 M) := by
  rw [F_X7_passDaysByChance]
  refine fr_gdh (fun ga0 => ?_)
  refine fr_gdh (fun ga1 => ?_)
  refine fr_bd (frG_X7_passDaysByChance_6 _ _ _ _ _ _ _ _) (fun w5 M6 => ?_)
  exact fr_some
abbrev W_X7_verdicts (a0 : Nat) (a1 : Nat) : Nat → Nat → Prop := fm_W []
theorem frG_X7_verdicts_5 (a0 : Nat) (a1 : Nat) : ∀ (n : Nat)  (l2 : Int32) (l3 : Int32) (l4 : Int32) (M : fm_M), fm_Fr (W_X7_verdicts a0 a1) M (G_X7_verdicts_5 n a0 a1 l2 l3 l4 M) := by
  intro n
  induction n with
  | zero => intro l2 l3 l4 M; simp only [G_X7_verdicts_5]; exact fr_none
  | succ n ih0 =>
    intro l2 l3 l4 M
    have ih := ih0 l2
    rw [G_X7_verdicts_5]
    refine fr_it ?_ ?_
    · exact fr_some
    · refine fr_gdh (fun g1 => ?_)
      refine fr_it ?_ ?_
      · exact ih _ _ _
      · exact ih _ _ _
theorem fr_X7_verdicts (a0 : Nat) (a1 : Nat) (a2 : Int32) (M : fm_M) : fm_Fr (W_X7_verdicts a0 a1) M (F_X7_verdicts a0 a1 a2 M) := by
  rw [F_X7_verdicts]
  refine fr_gdh (fun ga0 => ?_)
  refine fr_gdh (fun ga1 => ?_)
  refine fr_bd (frG_X7_verdicts_5 _ _ _ _ _ _ _) (fun w2 M3 => ?_)
  exact fr_some
abbrev W_X7_heardInSum (a0 : Nat) (a1 : Nat) : Nat → Nat → Prop := fm_W []
theorem frG_X7_heardInSum_4 (a0 : Nat) (a1 : Nat) : ∀ (n : Nat)   (l2 : Int32) (l3 : Int32) (M : fm_M), fm_Fr (W_X7_heardInSum a0 a1) M (G_X7_heardInSum_4 n a0 a1 l2 l3 M) := by
  intro n
  induction n with
  | zero => intro l2 l3 M; simp only [G_X7_heardInSum_4]; exact fr_none
  | succ n ih0 =>
    intro l2 l3 M
    have ih := ih0 
    rw [G_X7_heardInSum_4]
    refine fr_it ?_ ?_
    · exact fr_some
    · refine fr_gdh (fun g1 => ?_)
      refine fr_it ?_ ?_
      · exact ih _ _ _
      · refine fr_gdh (fun g2 => ?_)
        refine fr_lt (fun x3 => ?_)
        exact ih _ _ _
theorem fr_X7_heardInSum (a0 : Nat) (a1 : Nat) (M : fm_M) : fm_Fr (W_X7_heardInSum a0 a1) M (F_X7_heardInSum a0 a1 M) := by
  rw [F_X7_heardInSum]
  refine fr_gdh (fun ga0 => ?_)
  refine fr_gdh (fun ga1 => ?_)
  refine fr_bd (frG_X7_heardInSum_4 _ _ _ _ _ _) (fun w4 M5 => ?_)
  exact fr_some
abbrev W_X9_feed  : Nat → Nat → Prop := fm_W [(1, some 2), (2, none)]
theorem fr_X9_feed (a1 : Int32) (a2 : Int32) (a3 : Int32) (a4 : Int32) (a5 : Int32) (M : fm_M) : fm_Fr (W_X9_feed) M (F_X9_feed a1 a2 a3 a4 a5 M) := by
  rw [F_X9_feed]
  refine fr_it ?_ ?_
  · refine fr_bd (fr_mono (fr_X6_append _ _) (fm_Wsub [0, 1] rfl)) (fun v1 M2 => ?_)
    refine fr_bd (fr_mono (fr_X6_append _ _) (fm_Wsub [0, 1] rfl)) (fun v3 M4 => ?_)
    refine fr_bd (fr_mono (fr_X6_append _ _) (fm_Wsub [0, 1] rfl)) (fun v5 M6 => ?_)
    refine fr_bd (fr_mono (fr_X6_append _ _) (fm_Wsub [0, 1] rfl)) (fun v7 M8 => ?_)
    refine fr_bd (fr_mono (fr_X6_append _ _) (fm_Wsub [0, 1] rfl)) (fun v9 M10 => ?_)
    exact fr_some
  · exact fr_some
abbrev W_X9_fault  : Nat → Nat → Prop := fm_W []
theorem fr_X9_fault (a1 : Int32) (M : fm_M) : fm_Fr (W_X9_fault) M (F_X9_fault a1 M) := by
  rw [F_X9_fault]
  refine fr_it ?_ ?_
  · exact fr_some
  · refine fr_it ?_ ?_
    · exact fr_some
    · exact fr_some
abbrev W_X9_named  : Nat → Nat → Prop := fm_W []
theorem fr_X9_named (a1 : Int32) (a2 : Int32) (M : fm_M) : fm_Fr (W_X9_named) M (F_X9_named a1 a2 M) := by
  rw [F_X9_named]
  refine fr_it ?_ ?_
  · refine fr_lt (fun t5 => ?_)
    refine fr_gdh (fun g6 => ?_)
    refine fr_bd (fr_mono (fr_X8_forkNamed _ _ _) (by rcases fm_td g6 with rfl | rfl; exact fm_Wsub [] rfl; exact fm_Wsub [] rfl)) (fun v7 M8 => ?_)
    exact fr_some
  · refine fr_it ?_ ?_
    · refine fr_lt (fun t1 => ?_)
      refine fr_gdh (fun g2 => ?_)
      refine fr_bd (fr_mono (fr_X8_motionNamed _ _ _) (by rcases fm_td g2 with rfl | rfl; exact fm_Wsub [] rfl; exact fm_Wsub [] rfl)) (fun v3 M4 => ?_)
      exact fr_some
    · exact fr_some
abbrev W_X9_isMotion  : Nat → Nat → Prop := fm_W []
theorem fr_X9_isMotion (a1 : Int32) (M : fm_M) : fm_Fr (W_X9_isMotion) M (F_X9_isMotion a1 M) := by
  rw [F_X9_isMotion]
  refine fr_it ?_ ?_
  · exact fr_some
  · refine fr_lt (fun t1 => ?_)
    refine fr_gdh (fun g2 => ?_)
    refine fr_it ?_ ?_
    · exact fr_some
    · exact fr_some
abbrev W_X9_isFork  : Nat → Nat → Prop := fm_W []
theorem fr_X9_isFork (a1 : Int32) (M : fm_M) : fm_Fr (W_X9_isFork) M (F_X9_isFork a1 M) := by
  rw [F_X9_isFork]
  refine fr_it ?_ ?_
  · exact fr_some
  · refine fr_lt (fun t1 => ?_)
    refine fr_gdh (fun g2 => ?_)
    refine fr_it ?_ ?_
    · exact fr_some
    · exact fr_some
abbrev W_X9_fork  : Nat → Nat → Prop := fm_W []
theorem fr_X9_fork (a1 : Int32) (a2 : Int32) (M : fm_M) : fm_Fr (W_X9_fork) M (F_X9_fork a1 a2 M) := by
  rw [F_X9_fork]
  refine fr_bd (fr_mono (fr_X9_isFork _ _) (fm_Wsub [] rfl)) (fun v1 M2 => ?_)
  refine fr_it ?_ ?_
  · exact fr_some
  · refine fr_it ?_ ?_
    · refine fr_gdh (fun g3 => ?_)
      exact fr_some
    · refine fr_it ?_ ?_
      · refine fr_lt (fun t4 => ?_)
        refine fr_gdh (fun g5 => ?_)
        refine fr_gdh (fun g6 => ?_)
        exact fr_some
      · refine fr_it ?_ ?_
        · refine fr_lt (fun t7 => ?_)
          refine fr_gdh (fun g8 => ?_)
          refine fr_gdh (fun g9 => ?_)
          exact fr_some
        · refine fr_it ?_ ?_
          · refine fr_lt (fun t10 => ?_)
            refine fr_gdh (fun g11 => ?_)
            refine fr_gdh (fun g12 => ?_)
            exact fr_some
          · refine fr_it ?_ ?_
            · refine fr_lt (fun t13 => ?_)
              refine fr_gdh (fun g14 => ?_)
              refine fr_bd (fr_mono (fr_X9_bitOf _ _ _) (fm_Wsub [] rfl)) (fun v15 M16 => ?_)
              exact fr_some
            · refine fr_it ?_ ?_
              · refine fr_bd (fr_mono (fr_X9_bitOf _ _ _) (fm_Wsub [] rfl)) (fun v17 M18 => ?_)
                exact fr_some
              · exact fr_some
abbrev W_X9_wet  : Nat → Nat → Prop := fm_W []
theorem fr_X9_wet (a1 : Int32) (M : fm_M) : fm_Fr (W_X9_wet) M (F_X9_wet a1 M) := by
  rw [F_X9_wet]
  refine fr_it ?_ ?_
  · exact fr_some
  · refine fr_it ?_ ?_
    · refine fr_lt (fun t1 => ?_)
      refine fr_gdh (fun g2 => ?_)
      refine fr_bd (fr_mono (fr_X8_wetOn _ _ _) (by rcases fm_td g2 with rfl | rfl; exact fm_Wsub [] rfl; exact fm_Wsub [] rfl)) (fun v3 M4 => ?_)
      exact fr_some
    · exact fr_some
abbrev W_X9_beats  : Nat → Nat → Prop := fm_W []
theorem fr_X9_beats (a1 : Int32) (a2 : Int32) (M : fm_M) : fm_Fr (W_X9_beats) M (F_X9_beats a1 a2 M) := by
  rw [F_X9_beats]
  refine fr_bd (fr_mono (fr_X9_isFork _ _) (fm_Wsub [] rfl)) (fun v1 M2 => ?_)
  refine fr_it ?_ ?_
  · exact fr_some
  · refine fr_bd (fr_mono (fr_X9_isNote _ _) (fm_Wsub [] rfl)) (fun v3 M4 => ?_)
    refine fr_it ?_ ?_
    · exact fr_some
    · refine fr_bd (fr_mono (fr_X7_beating _ _ _ _) (fm_Wsub [] rfl)) (fun v5 M6 => ?_)
      exact fr_some
abbrev W_X9_hums  : Nat → Nat → Prop := fm_W [(19, none), (36, none)]
theorem fr_X9_hums (a1 : Int32) (a2 : Int32) (M : fm_M) : fm_Fr (W_X9_hums) M (F_X9_hums a1 a2 M) := by
  rw [F_X9_hums]
  refine fr_bd (fr_mono (fr_X9_isFork _ _) (fm_Wsub [] rfl)) (fun v1 M2 => ?_)
  refine fr_it ?_ ?_
  · exact fr_some
  · refine fr_bd (fr_mono (fr_X9_isNote _ _) (fm_Wsub [] rfl)) (fun v3 M4 => ?_)
    refine fr_it ?_ ?_
    · exact fr_some
    · refine fr_lt (fun t5 => ?_)
      refine fr_gdh (fun g6 => ?_)
      refine fr_bd (fr_mono (fr_X7_humOf _ _ _ _ _) (by rcases fm_td g6 with rfl | rfl; exact fm_Wsub [0] rfl; exact fm_Wsub [1] rfl)) (fun v7 M8 => ?_)
      exact fr_some
abbrev W_X9_struck  : Nat → Nat → Prop := fm_W [(19, none), (36, none)]
theorem fr_X9_struck (a1 : Int32) (a2 : Int32) (M : fm_M) : fm_Fr (W_X9_struck) M (F_X9_struck a1 a2 M) := by
  rw [F_X9_struck]
  refine fr_bd (fr_mono (fr_X9_isNote _ _) (fm_Wsub [] rfl)) (fun v1 M2 => ?_)
  refine fr_it ?_ ?_
  · exact fr_some
  · refine fr_it ?_ ?_
    · refine fr_lt (fun t3 => ?_)
      refine fr_gdh (fun g4 => ?_)
      refine fr_bd (fr_mono (fr_X7_humOfAll _ _ _ _) (by rcases fm_td g4 with rfl | rfl; exact fm_Wsub [0] rfl; exact fm_Wsub [1] rfl)) (fun v5 M6 => ?_)
      exact fr_some
    · refine fr_it ?_ ?_
      · refine fr_lt (fun t7 => ?_)
        refine fr_gdh (fun g8 => ?_)
        refine fr_bd (fr_mono (fr_X7_carries _ _ _ _) (by rcases fm_td g8 with rfl | rfl; exact fm_Wsub [0] rfl; exact fm_Wsub [1] rfl)) (fun v9 M10 => ?_)
        refine fr_it ?_ ?_
        · exact fr_some
        · exact fr_some
      · refine fr_it ?_ ?_
        · refine fr_lt (fun t11 => ?_)
          refine fr_gdh (fun g12 => ?_)
          refine fr_bd (fr_mono (fr_X7_agreed _ _ _ _) (by rcases fm_td g12 with rfl | rfl; exact fm_Wsub [0] rfl; exact fm_Wsub [1] rfl)) (fun v13 M14 => ?_)
          exact fr_some
        · exact fr_some
abbrev W_X9_law  : Nat → Nat → Prop := fm_W [(19, none), (36, none)]
theorem fr_X9_law (a1 : Int32) (a2 : Int32) (a3 : Int32) (M : fm_M) : fm_Fr (W_X9_law) M (F_X9_law a1 a2 a3 M) := by
  rw [F_X9_law]
  refine fr_it ?_ ?_
  · refine fr_bd (fr_mono (fr_X9_isFork _ _) (fm_Wsub [] rfl)) (fun v1 M2 => ?_)
    refine fr_it ?_ ?_
    · exact fr_some
    · refine fr_bd (fr_mono (fr_X9_isNote _ _) (fm_Wsub [] rfl)) (fun v3 M4 => ?_)
      refine fr_it ?_ ?_
      · exact fr_some
      · refine fr_lt (fun t5 => ?_)
        refine fr_gdh (fun g6 => ?_)
        refine fr_bd (fr_mono (fr_X7_humLaw _ _ _ _ _) (by rcases fm_td g6 with rfl | rfl; exact fm_Wsub [0] rfl; exact fm_Wsub [1] rfl)) (fun v7 M8 => ?_)
        exact fr_some
  · refine fr_it ?_ ?_
    · refine fr_bd (fr_mono (fr_X9_isFork _ _) (fm_Wsub [] rfl)) (fun v9 M10 => ?_)
      refine fr_it ?_ ?_
      · exact fr_some
      · refine fr_lt (fun t11 => ?_)
        refine fr_gdh (fun g12 => ?_)
        refine fr_bd (fr_mono (fr_X7_rustLaw _ _ _ _) (by rcases fm_td g12 with rfl | rfl; exact fm_Wsub [0] rfl; exact fm_Wsub [1] rfl)) (fun v13 M14 => ?_)
        exact fr_some
    · refine fr_it ?_ ?_
      · refine fr_bd (fr_mono (fr_X9_isNote _ _) (fm_Wsub [] rfl)) (fun v15 M16 => ?_)
        refine fr_it ?_ ?_
        · exact fr_some
        · refine fr_lt (fun t17 => ?_)
          refine fr_gdh (fun g18 => ?_)
          refine fr_lt (fun t19 => ?_)
          refine fr_gdh (fun g20 => ?_)
          refine fr_bd (fr_mono (fr_X7_humOfAll _ _ _ _) (by rcases fm_td g20 with rfl | rfl; exact fm_Wsub [0] rfl; exact fm_Wsub [1] rfl)) (fun v21 M22 => ?_)
          refine fr_bd (fr_mono (fr_X7_passLaw _ _ _ _ _) (by rcases fm_td g18 with rfl | rfl; exact fm_Wsub [0] rfl; exact fm_Wsub [1] rfl)) (fun v23 M24 => ?_)
          exact fr_some
      · exact fr_some
abbrev W_X9_touch  : Nat → Nat → Prop := fm_W [(38, some 4), (59, some 3), (60, none), (61, none), (62, none)]
theorem frJ_X9_touch_28  (l1 : Int32) (l2 : Int32) (s0 : Int32) (M : fm_M) : fm_Fr (W_X9_touch) M (J_X9_touch_28 l1 l2 s0 M) := by
  rw [J_X9_touch_28]
  refine fr_it ?_ ?_
  · exact fr_some
  · refine fr_up (fm_Wf 0 rfl) (fun M5 => ?_)
    refine fr_bd (fr_mono (fr_X1_add _ _ _ _) (fm_Wsub [1, 2, 3, 4] rfl)) (fun v6 M7 => ?_)
    exact fr_some
theorem fr_X9_touch (a1 : Int32) (a2 : Int32) (M : fm_M) : fm_Fr (W_X9_touch) M (F_X9_touch a1 a2 M) := by
  rw [F_X9_touch]
  refine fr_bd (fr_mono (fr_X9_isFork _ _) (fm_Wsub [] rfl)) (fun v1 M2 => ?_)
  refine fr_it ?_ ?_
  · exact fr_some
  · refine fr_bd (fr_mono (fr_X9_bitOf _ _ _) (fm_Wsub [] rfl)) (fun v3 M4 => ?_)
    refine fr_it ?_ ?_
    · exact frJ_X9_touch_28  _ _ _ _
    · exact frJ_X9_touch_28  _ _ _ _
abbrev W_X9_file  : Nat → Nat → Prop := fm_W [(38, some 2), (38, some 3), (39, none), (59, some 3), (60, none), (61, none), (62, none)]
theorem fr_X9_file (a1 : Int32) (a2 : Int32) (M : fm_M) : fm_Fr (W_X9_file) M (F_X9_file a1 a2 M) := by
  rw [F_X9_file]
  refine fr_bd (fr_mono (fr_X9_isFork _ _) (fm_Wsub [] rfl)) (fun v1 M2 => ?_)
  refine fr_it ?_ ?_
  · exact fr_some
  · refine fr_it ?_ ?_
    · exact fr_some
    · refine fr_it ?_ ?_
      · exact fr_some
      · refine fr_it ?_ ?_
        · exact fr_some
        · refine fr_gdh (fun g3 => ?_)
          refine fr_lt (fun x4 => ?_)
          refine fr_bd (fr_mono (fr_X9_isNote _ _) (fm_Wsub [] rfl)) (fun v5 M6 => ?_)
          refine fr_it ?_ ?_
          · exact fr_some
          · refine fr_lt (fun t7 => ?_)
            refine fr_gdh (fun g8 => ?_)
            refine fr_lt (fun x9 => ?_)
            refine fr_it ?_ ?_
            · refine fr_bd (fr_mono (fr_X7_filed _ _ _ _ _) (fm_Wsub [0, 1, 2] rfl)) (fun v10 M11 => ?_)
              refine fr_bd (fr_mono (fr_X1_add _ _ _ _) (fm_Wsub [3, 4, 5, 6] rfl)) (fun v12 M13 => ?_)
              exact fr_some
            · exact fr_some
abbrev W_X9_put  : Nat → Nat → Prop := fm_W [(41, none), (59, some 3), (60, none), (61, none), (62, none)]
theorem fr_X9_put (a1 : Int32) (a2 : Int32) (M : fm_M) : fm_Fr (W_X9_put) M (F_X9_put a1 a2 M) := by
  rw [F_X9_put]
  refine fr_bd (fr_mono (fr_X9_isMotion _ _) (fm_Wsub [] rfl)) (fun v1 M2 => ?_)
  refine fr_it ?_ ?_
  · exact fr_some
  · refine fr_it ?_ ?_
    · exact fr_some
    · refine fr_it ?_ ?_
      · refine fr_gdh (fun g3 => ?_)
        refine fr_it ?_ ?_
        · refine fr_gdh (fun g4 => ?_)
          refine fr_it ?_ ?_
          · exact fr_some
          · refine fr_gdh (fun g5 => ?_)
            refine fr_bd (fr_mono (fr_X1_add _ _ _ _) (fm_Wsub [1, 2, 3, 4] rfl)) (fun v6 M7 => ?_)
            refine fr_gdh (fun g8 => ?_)
            refine fr_up (fm_Wi 0 rfl) (fun M9 => ?_)
            exact fr_some
        · exact fr_some
      · exact fr_some
abbrev W_X9_earn  : Nat → Nat → Prop := fm_W [(38, some 2), (59, some 3), (60, none), (61, none), (62, none)]
theorem fr_X9_earn (a1 : Int32) (M : fm_M) : fm_Fr (W_X9_earn) M (F_X9_earn a1 M) := by
  rw [F_X9_earn]
  refine fr_it ?_ ?_
  · exact fr_some
  · refine fr_it ?_ ?_
    · exact fr_some
    · refine fr_it ?_ ?_
      · refine fr_up (fm_Wf 0 rfl) (fun M1 => ?_)
        refine fr_bd (fr_mono (fr_X1_add _ _ _ _) (fm_Wsub [1, 2, 3, 4] rfl)) (fun v2 M3 => ?_)
        exact fr_some
      · exact fr_some
abbrev W_X9_isSpan  : Nat → Nat → Prop := fm_W []
theorem fr_X9_isSpan (a0 : Int32) (M : fm_M) : fm_Fr (W_X9_isSpan) M (F_X9_isSpan a0 M) := by
  rw [F_X9_isSpan]
  refine fr_it ?_ ?_
  · exact fr_some
  · refine fr_it ?_ ?_
    · exact fr_some
    · exact fr_some
abbrev W_X9_go  : Nat → Nat → Prop := fm_W [(19, none), (36, none), (38, some 0), (38, some 1), (38, some 4), (39, none), (42, none), (43, none), (59, some 3)]
theorem fr_X9_go (a1 : Int32) (M : fm_M) : fm_Fr (W_X9_go) M (F_X9_go a1 M) := by
  rw [F_X9_go]
  refine fr_bd (fr_mono (fr_X9_isSpan _ _) (fm_Wsub [] rfl)) (fun v1 M2 => ?_)
  refine fr_it ?_ ?_
  · exact fr_some
  · refine fr_it ?_ ?_
    · refine fr_it ?_ ?_
      · exact fr_some
      · refine fr_lt (fun t3 => ?_)
        refine fr_gdh (fun g4 => ?_)
        refine fr_bd (fr_mono (fr_X7_passDays _ _ _ _) (by rcases fm_td g4 with rfl | rfl; exact fm_Wsub [2, 3, 4, 5, 6, 7, 0] rfl; exact fm_Wsub [2, 3, 4, 5, 6, 7, 1] rfl)) (fun v5 M6 => ?_)
        refine fr_up (fm_Wf 8 rfl) (fun M7 => ?_)
        exact fr_some
    · exact fr_some
abbrev W_X9_ahead  : Nat → Nat → Prop := fm_W [(19, none), (36, none), (45, some 0), (45, some 1), (45, some 2), (45, some 3), (45, some 4), (45, some 5), (45, some 6), (45, some 7), (46, none), (47, none), (48, none), (49, none), (50, none)]
theorem frJ_X9_ahead_107  (l1 : Int32) (l2 : Int32) (l3 : Int32) (s0 : Int32) (M : fm_M) : fm_Fr (W_X9_ahead) M (J_X9_ahead_107 l1 l2 l3 s0 M) := by
  rw [J_X9_ahead_107]
  refine fr_lt (fun t9 => ?_)
  refine fr_gdh (fun g10 => ?_)
  refine fr_bd (fr_mono (fr_X7_verdicts _ _ _ _) (by rcases fm_td g10 with rfl | rfl; exact fm_Wsub [] rfl; exact fm_Wsub [] rfl)) (fun v11 M12 => ?_)
  refine fr_lt (fun t13 => ?_)
  refine fr_gdh (fun g14 => ?_)
  refine fr_bd (fr_mono (fr_X7_verdicts _ _ _ _) (by rcases fm_td g14 with rfl | rfl; exact fm_Wsub [] rfl; exact fm_Wsub [] rfl)) (fun v15 M16 => ?_)
  exact fr_some
theorem frJ_X9_ahead_31  (l1 : Int32) (l2 : Int32) (l3 : Int32) (M : fm_M) : fm_Fr (W_X9_ahead) M (J_X9_ahead_31 l1 l2 l3 M) := by
  rw [J_X9_ahead_31]
  refine fr_bd (fr_mono (fr_X7_copyFrom _ _ _) (fm_Wsub [2, 3, 4, 5, 6, 7, 8, 9, 10, 11, 12, 13, 14] rfl)) (fun v3 M4 => ?_)
  refine fr_lt (fun t5 => ?_)
  refine fr_gdh (fun g6 => ?_)
  refine fr_bd (fr_mono (fr_X7_passDays _ _ _ _) (by rcases fm_td g6 with rfl | rfl; exact fm_Wsub [2, 3, 6, 10, 13, 14, 0] rfl; exact fm_Wsub [2, 3, 6, 10, 13, 14, 1] rfl)) (fun v7 M8 => ?_)
  refine fr_it ?_ ?_
  · refine fr_gdh (fun g25 => ?_)
    exact fr_some
  · refine fr_it ?_ ?_
    · refine fr_lt (fun t17 => ?_)
      refine fr_gdh (fun g18 => ?_)
      refine fr_bd (fr_mono (fr_X7_heardInSum _ _ _) (by rcases fm_td g18 with rfl | rfl; exact fm_Wsub [] rfl; exact fm_Wsub [] rfl)) (fun v19 M20 => ?_)
      refine fr_lt (fun t21 => ?_)
      refine fr_gdh (fun g22 => ?_)
      refine fr_bd (fr_mono (fr_X7_heardInSum _ _ _) (by rcases fm_td g22 with rfl | rfl; exact fm_Wsub [] rfl; exact fm_Wsub [] rfl)) (fun v23 M24 => ?_)
      exact fr_some
    · refine fr_it ?_ ?_
      · exact frJ_X9_ahead_107  _ _ _ _ _
      · exact frJ_X9_ahead_107  _ _ _ _ _
theorem fr_X9_ahead (a1 : Int32) (a2 : Int32) (a3 : Int32) (M : fm_M) : fm_Fr (W_X9_ahead) M (F_X9_ahead a1 a2 a3 M) := by
  rw [F_X9_ahead]
  refine fr_bd (fr_mono (fr_X9_isSpan _ _) (fm_Wsub [] rfl)) (fun v1 M2 => ?_)
  refine fr_it ?_ ?_
  · exact fr_some
  · refine fr_it ?_ ?_
    · exact fr_some
    · refine fr_it ?_ ?_
      · exact fr_some
      · refine fr_it ?_ ?_
        · refine fr_bd (fr_mono (fr_X9_isFork _ _) (fm_Wsub [] rfl)) (fun v26 M27 => ?_)
          refine fr_it ?_ ?_
          · exact fr_some
          · exact frJ_X9_ahead_31  _ _ _ _
        · exact frJ_X9_ahead_31  _ _ _ _
abbrev W_X9_best  : Nat → Nat → Prop := fm_W [(19, none), (36, none)]
theorem frG_X9_best_20  : ∀ (n : Nat)  (l1 : Int32) (l2 : Int32) (l3 : Int32) (l4 : Int32) (M : fm_M), fm_Fr (W_X9_best) M (G_X9_best_20 n l1 l2 l3 l4 M) := by
  intro n
  induction n with
  | zero => intro l1 l2 l3 l4 M; simp only [G_X9_best_20]; exact fr_none
  | succ n ih0 =>
    intro l1 l2 l3 l4 M
    have ih := ih0 l1
    rw [G_X9_best_20]
    refine fr_it ?_ ?_
    · exact fr_some
    · refine fr_lt (fun t1 => ?_)
      refine fr_gdh (fun g2 => ?_)
      refine fr_bd (fr_mono (fr_X7_humOfAll _ _ _ _) (by rcases fm_td g2 with rfl | rfl; exact fm_Wsub [0] rfl; exact fm_Wsub [1] rfl)) (fun v3 M4 => ?_)
      refine fr_it ?_ ?_
      · exact ih _ _ _ _
      · exact ih _ _ _ _
theorem frJ_X9_best_11  (l1 : Int32) (M : fm_M) : fm_Fr (W_X9_best) M (J_X9_best_11 l1 M) := by
  rw [J_X9_best_11]
  refine fr_bd (frG_X9_best_20  _ _ _ _ _ _) (fun w5 M6 => ?_)
  refine fr_it ?_ ?_
  · exact fr_some
  · exact fr_some
theorem fr_X9_best (a1 : Int32) (M : fm_M) : fm_Fr (W_X9_best) M (F_X9_best a1 M) := by
  rw [F_X9_best]
  refine fr_it ?_ ?_
  · exact frJ_X9_best_11  _ _
  · refine fr_it ?_ ?_
    · exact frJ_X9_best_11  _ _
    · exact fr_some
abbrev W_X9_open  : Nat → Nat → Prop := fm_W [(19, none), (36, none)]
theorem frG_X9_open_5  : ∀ (n : Nat)   (l1 : Int32) (l2 : Int32) (M : fm_M), fm_Fr (W_X9_open) M (G_X9_open_5 n l1 l2 M) := by
  intro n
  induction n with
  | zero => intro l1 l2 M; simp only [G_X9_open_5]; exact fr_none
  | succ n ih0 =>
    intro l1 l2 M
    have ih := ih0 
    rw [G_X9_open_5]
    refine fr_it ?_ ?_
    · exact fr_some
    · refine fr_lt (fun t1 => ?_)
      refine fr_gdh (fun g2 => ?_)
      refine fr_bd (fr_mono (fr_X7_carries _ _ _ _) (by rcases fm_td g2 with rfl | rfl; exact fm_Wsub [0] rfl; exact fm_Wsub [1] rfl)) (fun v3 M4 => ?_)
      refine fr_it ?_ ?_
      · exact ih _ _ _
      · exact ih _ _ _
theorem fr_X9_open  (M : fm_M) : fm_Fr (W_X9_open) M (F_X9_open  M) := by
  rw [F_X9_open]
  refine fr_bd (frG_X9_open_5  _ _ _ _) (fun w5 M6 => ?_)
  exact fr_some
abbrev W_X9_bribe  : Nat → Nat → Prop := fm_W [(19, none), (36, none), (45, some 0), (45, some 1), (45, some 2), (45, some 3), (45, some 4), (45, some 5), (45, some 6), (45, some 7), (46, none), (47, none), (48, none), (49, none), (50, none), (66, some 3), (66, some 4), (66, some 5), (67, none), (68, none), (69, none)]
theorem frJ_X9_bribe_38  (l1 : Int32) (l2 : Int32) (M : fm_M) : fm_Fr (W_X9_bribe) M (J_X9_bribe_38 l1 l2 M) := by
  rw [J_X9_bribe_38]
  refine fr_bd (fr_mono (fr_X7_copyFrom _ _ _) (fm_Wsub [2, 3, 4, 5, 6, 7, 8, 9, 10, 11, 12, 13, 14] rfl)) (fun v3 M4 => ?_)
  refine fr_lt (fun t5 => ?_)
  refine fr_gdh (fun g6 => ?_)
  refine fr_bd (fr_mono (fr_X0_seek _ _ _ _) (by rcases fm_td g6 with rfl | rfl; exact fm_Wsub [15, 16, 17, 18, 19, 20, 0, 10] rfl; exact fm_Wsub [15, 16, 17, 18, 19, 20, 1, 10] rfl)) (fun v7 M8 => ?_)
  refine fr_it ?_ ?_
  · exact fr_some
  · refine fr_it ?_ ?_
    · exact fr_some
    · refine fr_bd (fr_mono (fr_X0_filingOf _ _) (fm_Wsub [] rfl)) (fun v9 M10 => ?_)
      exact fr_some
theorem fr_X9_bribe (a1 : Int32) (a2 : Int32) (M : fm_M) : fm_Fr (W_X9_bribe) M (F_X9_bribe a1 a2 M) := by
  rw [F_X9_bribe]
  refine fr_bd (fr_mono (fr_X9_isNote _ _) (fm_Wsub [] rfl)) (fun v1 M2 => ?_)
  refine fr_it ?_ ?_
  · exact fr_some
  · refine fr_it ?_ ?_
    · exact fr_some
    · refine fr_it ?_ ?_
      · refine fr_it ?_ ?_
        · exact frJ_X9_bribe_38  _ _ _
        · refine fr_lt (fun t11 => ?_)
          refine fr_gdh (fun g12 => ?_)
          refine fr_it ?_ ?_
          · exact frJ_X9_bribe_38  _ _ _
          · exact fr_some
      · exact fr_some
abbrev W_X9_swing  : Nat → Nat → Prop := fm_W [(19, none), (36, none), (44, none)]
theorem frG_X9_swing_49  : ∀ (n : Nat)  (l1 : Int32) (l2 : Int32) (l3 : Int32) (l4 : Int32) (l5 : Int32) (M : fm_M), fm_Fr (W_X9_swing) M (G_X9_swing_49 n l1 l2 l3 l4 l5 M) := by
  intro n
  induction n with
  | zero => intro l1 l2 l3 l4 l5 M; simp only [G_X9_swing_49]; exact fr_none
  | succ n ih0 =>
    intro l1 l2 l3 l4 l5 M
    have ih := ih0 l1 l2 l3
    rw [G_X9_swing_49]
    refine fr_lt (fun t13 => ?_)
    refine fr_gdh (fun g14 => ?_)
    refine fr_it ?_ ?_
    · exact fr_some
    · refine fr_bd (fr_mono (fr_X9_bitOf _ _ _) (fm_Wsub [] rfl)) (fun v15 M16 => ?_)
      refine fr_it ?_ ?_
      · refine fr_lt (fun t17 => ?_)
        refine fr_gdh (fun g18 => ?_)
        refine fr_bd (fr_mono (fr_X7_listenedTo _ _ _ _) (fm_Wsub [] rfl)) (fun v19 M20 => ?_)
        refine fr_lt (fun t21 => ?_)
        refine fr_gdh (fun g22 => ?_)
        refine fr_it ?_ ?_
        · exact ih _ _ _
        · refine fr_lt (fun t23 => ?_)
          refine fr_gdh (fun g24 => ?_)
          refine fr_it ?_ ?_
          · exact ih _ _ _
          · exact ih _ _ _
      · exact ih _ _ _
theorem fr_X9_swing (a1 : Int32) (a2 : Int32) (M : fm_M) : fm_Fr (W_X9_swing) M (F_X9_swing a1 a2 M) := by
  rw [F_X9_swing]
  refine fr_bd (fr_mono (fr_X9_isFork _ _) (fm_Wsub [] rfl)) (fun v1 M2 => ?_)
  refine fr_it ?_ ?_
  · exact fr_some
  · refine fr_bd (fr_mono (fr_X9_isNote _ _) (fm_Wsub [] rfl)) (fun v3 M4 => ?_)
    refine fr_it ?_ ?_
    · exact fr_some
    · refine fr_lt (fun t5 => ?_)
      refine fr_gdh (fun g6 => ?_)
      refine fr_bd (fr_mono (fr_X7_humOf _ _ _ _ _) (by rcases fm_td g6 with rfl | rfl; exact fm_Wsub [0] rfl; exact fm_Wsub [1] rfl)) (fun v7 M8 => ?_)
      refine fr_lt (fun t9 => ?_)
      refine fr_gdh (fun g10 => ?_)
      refine fr_bd (fr_mono (fr_X7_listen _ _ _ _) (by rcases fm_td g10 with rfl | rfl; exact fm_Wsub [2, 0] rfl; exact fm_Wsub [2, 1] rfl)) (fun v11 M12 => ?_)
      refine fr_bd (frG_X9_swing_49  _ _ _ _ _ _ _) (fun w25 M26 => ?_)
      exact fr_some
abbrev W_J6_bitCount_0f7a4  : Nat → Nat → Prop := fm_W []
theorem fr_J6_bitCount_0f7a4 (a0 : Int32) (M : fm_M) : fm_Fr (W_J6_bitCount_0f7a4) M (F_J6_bitCount_0f7a4 a0 M) := by
  rw [F_J6_bitCount_0f7a4]
  refine fr_lt (fun x1 => ?_)
  refine fr_lt (fun x2 => ?_)
  refine fr_lt (fun x3 => ?_)
  refine fr_lt (fun x4 => ?_)
  refine fr_lt (fun x5 => ?_)
  exact fr_some
abbrev W_X9_censure  : Nat → Nat → Prop := fm_W [(19, none), (36, none), (44, none)]
theorem frJ_X9_censure_63  (rec : Int32 → Int32 → fm_M → Option ((Int32 × Int32) × fm_M)) (ih : ∀ (l3 : Int32) (l4 : Int32) (M : fm_M), fm_Fr (W_X9_censure) M (rec l3 l4 M)) (l1 : Int32) (l2 : Int32) (l3 : Int32) (l4 : Int32) (M : fm_M) : fm_Fr (W_X9_censure) M (J_X9_censure_63 rec l1 l2 l3 l4 M) := by
  rw [J_X9_censure_63]
  refine fr_lt (fun t10 => ?_)
  refine fr_gdh (fun g11 => ?_)
  refine fr_bd (fr_mono (fr_X7_listenedTo _ _ _ _) (fm_Wsub [] rfl)) (fun v12 M13 => ?_)
  refine fr_lt (fun t14 => ?_)
  refine fr_gdh (fun g15 => ?_)
  refine fr_bd (fr_mono (fr_X7_passes _ _ _ _ _) (by rcases fm_td g15 with rfl | rfl; exact fm_Wsub [0] rfl; exact fm_Wsub [1] rfl)) (fun v16 M17 => ?_)
  refine fr_it ?_ ?_
  · exact ih _ _ _
  · exact ih _ _ _
theorem frG_X9_censure_39  : ∀ (n : Nat)  (l1 : Int32) (l2 : Int32) (l3 : Int32) (l4 : Int32) (M : fm_M), fm_Fr (W_X9_censure) M (G_X9_censure_39 n l1 l2 l3 l4 M) := by
  intro n
  induction n with
  | zero => intro l1 l2 l3 l4 M; simp only [G_X9_censure_39]; exact fr_none
  | succ n ih0 =>
    intro l1 l2 l3 l4 M
    have ih := ih0 l1 l2
    rw [G_X9_censure_39]
    refine fr_it ?_ ?_
    · exact fr_some
    · refine fr_it ?_ ?_
      · exact frJ_X9_censure_63  _ (fun y0 y1 y2 => ih y0 y1 y2) _ _ _ _ _
      · refine fr_bd (fr_mono (fr_J6_bitCount_0f7a4 _ _) (fm_Wsub [] rfl)) (fun v18 M19 => ?_)
        refine fr_bd (fr_mono (fr_J6_bitCount_0f7a4 _ _) (fm_Wsub [] rfl)) (fun v20 M21 => ?_)
        refine fr_it ?_ ?_
        · exact ih _ _ _
        · exact frJ_X9_censure_63  _ (fun y0 y1 y2 => ih y0 y1 y2) _ _ _ _ _
theorem fr_X9_censure (a1 : Int32) (M : fm_M) : fm_Fr (W_X9_censure) M (F_X9_censure a1 M) := by
  rw [F_X9_censure]
  refine fr_bd (fr_mono (fr_X9_isNote _ _) (fm_Wsub [] rfl)) (fun v1 M2 => ?_)
  refine fr_it ?_ ?_
  · exact fr_some
  · refine fr_lt (fun t3 => ?_)
    refine fr_gdh (fun g4 => ?_)
    refine fr_bd (fr_mono (fr_X7_listen _ _ _ _) (by rcases fm_td g4 with rfl | rfl; exact fm_Wsub [2, 0] rfl; exact fm_Wsub [2, 1] rfl)) (fun v5 M6 => ?_)
    refine fr_lt (fun t7 => ?_)
    refine fr_gdh (fun g8 => ?_)
    refine fr_lt (fun x9 => ?_)
    refine fr_bd (frG_X9_censure_39  _ _ _ _ _ _) (fun w22 M23 => ?_)
    exact fr_some
abbrev W_X9_party  : Nat → Nat → Prop := fm_W [(19, none), (36, none)]
theorem frG_X9_party_23  : ∀ (n : Nat)  (l1 : Int32) (l2 : Int32) (l3 : Int32) (l4 : Int32) (M : fm_M), fm_Fr (W_X9_party) M (G_X9_party_23 n l1 l2 l3 l4 M) := by
  intro n
  induction n with
  | zero => intro l1 l2 l3 l4 M; simp only [G_X9_party_23]; exact fr_none
  | succ n ih0 =>
    intro l1 l2 l3 l4 M
    have ih := ih0 l1 l2
    rw [G_X9_party_23]
    refine fr_lt (fun t3 => ?_)
    refine fr_gdh (fun g4 => ?_)
    refine fr_it ?_ ?_
    · exact fr_some
    · refine fr_lt (fun t5 => ?_)
      refine fr_gdh (fun g6 => ?_)
      refine fr_gdh (fun g7 => ?_)
      refine fr_it ?_ ?_
      · refine fr_lt (fun t8 => ?_)
        refine fr_gdh (fun g9 => ?_)
        refine fr_bd (fr_mono (fr_X7_humOf _ _ _ _ _) (by rcases fm_td g9 with rfl | rfl; exact fm_Wsub [0] rfl; exact fm_Wsub [1] rfl)) (fun v10 M11 => ?_)
        refine fr_lt (fun x12 => ?_)
        exact ih _ _ _
      · exact ih _ _ _
theorem fr_X9_party (a1 : Int32) (a2 : Int32) (M : fm_M) : fm_Fr (W_X9_party) M (F_X9_party a1 a2 M) := by
  rw [F_X9_party]
  refine fr_it ?_ ?_
  · exact fr_some
  · refine fr_it ?_ ?_
    · exact fr_some
    · refine fr_bd (fr_mono (fr_X9_isNote _ _) (fm_Wsub [] rfl)) (fun v1 M2 => ?_)
      refine fr_it ?_ ?_
      · exact fr_some
      · refine fr_bd (frG_X9_party_23  _ _ _ _ _ _) (fun w13 M14 => ?_)
        exact fr_some
abbrev W_X9_arePair  : Nat → Nat → Prop := fm_W []
theorem fr_X9_arePair (a1 : Int32) (a2 : Int32) (M : fm_M) : fm_Fr (W_X9_arePair) M (F_X9_arePair a1 a2 M) := by
  rw [F_X9_arePair]
  refine fr_bd (fr_mono (fr_X9_isFork _ _) (fm_Wsub [] rfl)) (fun v1 M2 => ?_)
  refine fr_it ?_ ?_
  · exact fr_some
  · refine fr_bd (fr_mono (fr_X9_isFork _ _) (fm_Wsub [] rfl)) (fun v3 M4 => ?_)
    refine fr_it ?_ ?_
    · exact fr_some
    · refine fr_it ?_ ?_
      · exact fr_some
      · exact fr_some
abbrev W_X9_rests  : Nat → Nat → Prop := fm_W [(19, none), (36, none), (45, some 0), (45, some 1), (45, some 2), (45, some 3), (45, some 4), (45, some 5), (45, some 6), (45, some 7), (46, none), (47, none), (48, none), (49, none), (50, none), (70, some 2), (71, none), (72, none)]
theorem fr_X9_rests (a1 : Int32) (a2 : Int32) (a3 : Int32) (M : fm_M) : fm_Fr (W_X9_rests) M (F_X9_rests a1 a2 a3 M) := by
  rw [F_X9_rests]
  refine fr_bd (fr_mono (fr_X9_arePair _ _ _) (fm_Wsub [] rfl)) (fun v1 M2 => ?_)
  refine fr_it ?_ ?_
  · exact fr_some
  · refine fr_bd (fr_mono (fr_X9_isNote _ _) (fm_Wsub [] rfl)) (fun v3 M4 => ?_)
    refine fr_it ?_ ?_
    · exact fr_some
    · refine fr_bd (fr_mono (fr_X7_copyFrom _ _ _) (fm_Wsub [2, 3, 4, 5, 6, 7, 8, 9, 10, 11, 12, 13, 14] rfl)) (fun v5 M6 => ?_)
      refine fr_lt (fun t7 => ?_)
      refine fr_gdh (fun g8 => ?_)
      refine fr_bd (fr_mono (fr_X2_settle _ _ _ _ _ _) (by rcases fm_td g8 with rfl | rfl; exact fm_Wsub [15, 16, 17, 0, 10] rfl; exact fm_Wsub [15, 16, 17, 1, 10] rfl)) (fun v9 M10 => ?_)
      exact fr_some
abbrev W_X9_rest  : Nat → Nat → Prop := fm_W [(19, none), (36, none), (45, some 0), (45, some 1), (45, some 2), (45, some 3), (45, some 4), (45, some 5), (45, some 6), (45, some 7), (46, none), (47, none), (48, none), (49, none), (50, none), (70, some 2), (71, none), (72, none)]
theorem fr_X9_rest (a1 : Int32) (a2 : Int32) (a3 : Int32) (a4 : Int32) (M : fm_M) : fm_Fr (W_X9_rest) M (F_X9_rest a1 a2 a3 a4 M) := by
  rw [F_X9_rest]
  refine fr_bd (fr_mono (fr_X9_arePair _ _ _) (fm_Wsub [] rfl)) (fun v1 M2 => ?_)
  refine fr_it ?_ ?_
  · exact fr_some
  · refine fr_bd (fr_mono (fr_X9_isNote _ _) (fm_Wsub [] rfl)) (fun v3 M4 => ?_)
    refine fr_it ?_ ?_
    · exact fr_some
    · refine fr_it ?_ ?_
      · refine fr_bd (fr_mono (fr_X7_copyFrom _ _ _) (fm_Wsub [2, 3, 4, 5, 6, 7, 8, 9, 10, 11, 12, 13, 14] rfl)) (fun v5 M6 => ?_)
        refine fr_lt (fun t7 => ?_)
        refine fr_gdh (fun g8 => ?_)
        refine fr_bd (fr_mono (fr_X2_settle _ _ _ _ _ _) (by rcases fm_td g8 with rfl | rfl; exact fm_Wsub [15, 16, 17, 0, 10] rfl; exact fm_Wsub [15, 16, 17, 1, 10] rfl)) (fun v9 M10 => ?_)
        refine fr_it ?_ ?_
        · exact fr_some
        · refine fr_gdh (fun g11 => ?_)
          exact fr_some
      · exact fr_some
abbrev W_X9_likely  : Nat → Nat → Prop := fm_W [(19, none), (36, none), (45, some 0), (45, some 1), (45, some 2), (45, some 3), (45, some 4), (45, some 5), (45, some 6), (45, some 7), (46, none), (47, none), (48, none), (49, none), (50, none)]
theorem frG_X9_likely_35  : ∀ (n : Nat)  (l1 : Int32) (l2 : Int32) (l3 : Int32) (l4 : Int32) (M : fm_M), fm_Fr (W_X9_likely) M (G_X9_likely_35 n l1 l2 l3 l4 M) := by
  intro n
  induction n with
  | zero => intro l1 l2 l3 l4 M; simp only [G_X9_likely_35]; exact fr_none
  | succ n ih0 =>
    intro l1 l2 l3 l4 M
    have ih := ih0 l1 l2
    rw [G_X9_likely_35]
    refine fr_it ?_ ?_
    · exact fr_some
    · refine fr_up (fm_Wf 3 rfl) (fun M5 => ?_)
      refine fr_lt (fun t6 => ?_)
      refine fr_gdh (fun g7 => ?_)
      refine fr_lt (fun t8 => ?_)
      refine fr_gdh (fun g9 => ?_)
      refine fr_gdh (fun g10 => ?_)
      refine fr_bd (fr_mono (fr_X7_carries _ _ _ _) (by rcases fm_td g7 with rfl | rfl; exact fm_Wsub [0] rfl; exact fm_Wsub [1] rfl)) (fun v11 M12 => ?_)
      refine fr_it ?_ ?_
      · exact ih _ _ _
      · exact ih _ _ _
theorem frJ_X9_likely_121  (l1 : Int32) (l2 : Int32) (l3 : Int32) (l4 : Int32) (M : fm_M) : fm_Fr (W_X9_likely) M (J_X9_likely_121 l1 l2 l3 l4 M) := by
  rw [J_X9_likely_121]
  refine fr_it ?_ ?_
  · refine fr_gdh (fun g16 => ?_)
    exact fr_some
  · refine fr_gdh (fun g15 => ?_)
    exact fr_some
theorem frJ_X9_likely_19  (l1 : Int32) (l2 : Int32) (M : fm_M) : fm_Fr (W_X9_likely) M (J_X9_likely_19 l1 l2 M) := by
  rw [J_X9_likely_19]
  refine fr_bd (fr_mono (fr_X7_copyFrom _ _ _) (fm_Wsub [2, 3, 4, 5, 6, 7, 8, 9, 10, 11, 12, 13, 14] rfl)) (fun v3 M4 => ?_)
  refine fr_bd (frG_X9_likely_35  _ _ _ _ _ _) (fun w13 M14 => ?_)
  refine fr_it ?_ ?_
  · exact frJ_X9_likely_121  _ _ _ _ _
  · refine fr_it ?_ ?_
    · exact frJ_X9_likely_121  _ _ _ _ _
    · refine fr_it ?_ ?_
      · exact frJ_X9_likely_121  _ _ _ _ _
      · exact frJ_X9_likely_121  _ _ _ _ _
theorem fr_X9_likely (a1 : Int32) (a2 : Int32) (M : fm_M) : fm_Fr (W_X9_likely) M (F_X9_likely a1 a2 M) := by
  rw [F_X9_likely]
  refine fr_bd (fr_mono (fr_X9_isMotion _ _) (fm_Wsub [] rfl)) (fun v1 M2 => ?_)
  refine fr_it ?_ ?_
  · exact fr_some
  · refine fr_it ?_ ?_
    · exact frJ_X9_likely_19  _ _ _
    · refine fr_it ?_ ?_
      · exact frJ_X9_likely_19  _ _ _
      · exact fr_some
abbrev W_X9_order  : Nat → Nat → Prop := fm_W [(19, none), (36, none), (45, some 0), (45, some 1), (45, some 2), (45, some 3), (45, some 4), (45, some 5), (45, some 6), (45, some 7), (46, none), (47, none), (48, none), (49, none), (50, none), (73, some 2), (73, some 3), (74, none), (75, none)]
theorem fr_X9_order (a1 : Int32) (a2 : Int32) (M : fm_M) : fm_Fr (W_X9_order) M (F_X9_order a1 a2 M) := by
  rw [F_X9_order]
  refine fr_it ?_ ?_
  · exact fr_some
  · refine fr_it ?_ ?_
    · exact fr_some
    · refine fr_it ?_ ?_
      · exact fr_some
      · refine fr_it ?_ ?_
        · refine fr_bd (fr_mono (fr_X7_copyFrom _ _ _) (fm_Wsub [2, 3, 4, 5, 6, 7, 8, 9, 10, 11, 12, 13, 14] rfl)) (fun v1 M2 => ?_)
          refine fr_lt (fun t3 => ?_)
          refine fr_gdh (fun g4 => ?_)
          refine fr_bd (fr_mono (fr_X5_seek _ _ _ _) (by rcases fm_td g4 with rfl | rfl; exact fm_Wsub [15, 16, 17, 18, 0, 2, 3, 6, 10, 12, 13, 14] rfl; exact fm_Wsub [15, 16, 17, 18, 1, 2, 3, 6, 10, 12, 13, 14] rfl)) (fun v5 M6 => ?_)
          refine fr_it ?_ ?_
          · refine fr_lt (fun t9 => ?_)
            refine fr_gdh (fun g10 => ?_)
            refine fr_bd (fr_mono (fr_X7_verdicts _ _ _ _) (by rcases fm_td g10 with rfl | rfl; exact fm_Wsub [] rfl; exact fm_Wsub [] rfl)) (fun v11 M12 => ?_)
            refine fr_lt (fun t13 => ?_)
            refine fr_gdh (fun g14 => ?_)
            refine fr_bd (fr_mono (fr_X7_verdicts _ _ _ _) (by rcases fm_td g14 with rfl | rfl; exact fm_Wsub [] rfl; exact fm_Wsub [] rfl)) (fun v15 M16 => ?_)
            exact fr_some
          · refine fr_it ?_ ?_
            · exact fr_some
            · refine fr_bd (fr_mono (fr_X5_dayOf _ _) (fm_Wsub [] rfl)) (fun v7 M8 => ?_)
              exact fr_some
        · exact fr_some
abbrev W_X9_room  : Nat → Nat → Prop := fm_W []
theorem frG_X9_room_19  : ∀ (n : Nat)  (l1 : Int32) (l2 : Int32) (l3 : Int32) (M : fm_M), fm_Fr (W_X9_room) M (G_X9_room_19 n l1 l2 l3 M) := by
  intro n
  induction n with
  | zero => intro l1 l2 l3 M; simp only [G_X9_room_19]; exact fr_none
  | succ n ih0 =>
    intro l1 l2 l3 M
    have ih := ih0 l1 l2
    rw [G_X9_room_19]
    refine fr_it ?_ ?_
    · exact fr_some
    · refine fr_bd (fr_mono (fr_X7_wouldBeat _ _ _ _ _) (fm_Wsub [] rfl)) (fun v5 M6 => ?_)
      refine fr_it ?_ ?_
      · refine fr_bd (fr_mono (fr_X7_wouldBeat _ _ _ _ _) (fm_Wsub [] rfl)) (fun v7 M8 => ?_)
        refine fr_it ?_ ?_
        · exact ih _ _
        · exact fr_some
      · exact fr_some
theorem fr_X9_room (a1 : Int32) (a2 : Int32) (M : fm_M) : fm_Fr (W_X9_room) M (F_X9_room a1 a2 M) := by
  rw [F_X9_room]
  refine fr_bd (fr_mono (fr_X9_isFork _ _) (fm_Wsub [] rfl)) (fun v1 M2 => ?_)
  refine fr_it ?_ ?_
  · exact fr_some
  · refine fr_bd (fr_mono (fr_X9_isNote _ _) (fm_Wsub [] rfl)) (fun v3 M4 => ?_)
    refine fr_it ?_ ?_
    · exact fr_some
    · refine fr_bs (frG_X9_room_19  _ _ _ _ _) (fun w9 M10 => ?_) (fun _ _ => fr_some)
      exact fr_some
abbrev W_X9_minute  : Nat → Nat → Prop := fm_W [(63, some 2), (64, none), (65, none)]
theorem fr_X9_minute (a1 : Int32) (a2 : Int32) (M : fm_M) : fm_Fr (W_X9_minute) M (F_X9_minute a1 a2 M) := by
  rw [F_X9_minute]
  refine fr_bd (fr_mono (fr_X9_isMotion _ _) (fm_Wsub [] rfl)) (fun v1 M2 => ?_)
  refine fr_it ?_ ?_
  · exact fr_some
  · refine fr_it ?_ ?_
    · refine fr_bd (fr_mono (fr_X4_add _ _ _) (fm_Wsub [0, 1, 2] rfl)) (fun v3 M4 => ?_)
      exact fr_some
    · refine fr_bd (fr_mono (fr_X4_add _ _ _) (fm_Wsub [0, 1, 2] rfl)) (fun v5 M6 => ?_)
      exact fr_some
abbrev W_X9_out  : Nat → Nat → Prop := fm_W [(63, some 2), (64, none), (65, none)]
theorem fr_X9_out (a1 : Int32) (M : fm_M) : fm_Fr (W_X9_out) M (F_X9_out a1 M) := by
  rw [F_X9_out]
  refine fr_it ?_ ?_
  · exact fr_some
  · refine fr_it ?_ ?_
    · exact fr_some
    · refine fr_bd (fr_mono (fr_X4_add _ _ _) (fm_Wsub [0, 1, 2] rfl)) (fun v1 M2 => ?_)
      exact fr_some
abbrev W_X9_known  : Nat → Nat → Prop := fm_W [(63, some 3)]
theorem fr_X9_known (a1 : Int32) (M : fm_M) : fm_Fr (W_X9_known) M (F_X9_known a1 M) := by
  rw [F_X9_known]
  refine fr_it ?_ ?_
  · exact fr_some
  · refine fr_it ?_ ?_
    · refine fr_up (fm_Wf 0 rfl) (fun M1 => ?_)
      exact fr_some
    · exact fr_some
abbrev W_X9_widths  : Nat → Nat → Prop := fm_W [(19, none), (36, none), (45, some 0), (45, some 1), (45, some 2), (45, some 3), (45, some 4), (45, some 5), (45, some 6), (45, some 7), (46, none), (47, none), (48, none), (49, none), (50, none), (63, some 4)]
theorem frG_X9_widths_34  : ∀ (n : Nat)  (l1 : Int32) (l2 : Int32) (l3 : Int32) (l4 : Int32) (M : fm_M), fm_Fr (W_X9_widths) M (G_X9_widths_34 n l1 l2 l3 l4 M) := by
  intro n
  induction n with
  | zero => intro l1 l2 l3 l4 M; simp only [G_X9_widths_34]; exact fr_none
  | succ n ih0 =>
    intro l1 l2 l3 l4 M
    have ih := ih0 l1 l2
    rw [G_X9_widths_34]
    refine fr_it ?_ ?_
    · exact fr_some
    · refine fr_lt (fun t9 => ?_)
      refine fr_gdh (fun g10 => ?_)
      refine fr_bd (fr_mono (fr_X7_begin _ _ _) (by rcases fm_td g10 with rfl | rfl; exact fm_Wsub [2, 3, 4, 5, 6, 7, 8, 9, 10, 11, 12, 13, 14] rfl; exact fm_Wsub [2, 3, 4, 5, 6, 7, 8, 9, 10, 11, 12, 13, 14] rfl)) (fun v11 M12 => ?_)
      refine fr_gdh (fun g13 => ?_)
      refine fr_up (fm_Wi 11 rfl) (fun M14 => ?_)
      refine fr_lt (fun t15 => ?_)
      refine fr_gdh (fun g16 => ?_)
      refine fr_bd (fr_mono (fr_X7_passDays _ _ _ _) (by rcases fm_td g16 with rfl | rfl; exact fm_Wsub [2, 3, 6, 10, 13, 14, 0] rfl; exact fm_Wsub [2, 3, 6, 10, 13, 14, 1] rfl)) (fun v17 M18 => ?_)
      refine fr_bd (fr_mono (fr_X4_agreeWith _ _) (fm_Wsub [] rfl)) (fun v19 M20 => ?_)
      refine fr_it ?_ ?_
      · exact ih _ _ _
      · refine fr_lt (fun x21 => ?_)
        exact ih _ _ _
theorem fr_X9_widths (a1 : Int32) (M : fm_M) : fm_Fr (W_X9_widths) M (F_X9_widths a1 M) := by
  rw [F_X9_widths]
  refine fr_bd (fr_mono (fr_X9_isFork _ _) (fm_Wsub [] rfl)) (fun v1 M2 => ?_)
  refine fr_it ?_ ?_
  · exact fr_some
  · refine fr_bd (fr_mono (fr_X4_sift  _) (fm_Wsub [15] rfl)) (fun v3 M4 => ?_)
    refine fr_lt (fun t5 => ?_)
    refine fr_gdh (fun g6 => ?_)
    refine fr_bd (fr_mono (fr_X4_daysToHear _ _) (by rcases fm_td g6 with rfl | rfl; exact fm_Wsub [] rfl; exact fm_Wsub [] rfl)) (fun v7 M8 => ?_)
    refine fr_bd (frG_X9_widths_34  _ _ _ _ _ _) (fun w22 M23 => ?_)
    exact fr_some
abbrev W_X9_chance  : Nat → Nat → Prop := fm_W [(19, none), (36, none), (45, some 0), (45, some 1), (45, some 2), (45, some 3), (45, some 4), (45, some 5), (45, some 6), (45, some 7), (46, none), (47, none), (48, none), (49, none), (50, none)]
theorem frG_X9_chance_50  : ∀ (n : Nat)  (l1 : Int32) (l2 : Int32) (l3 : Int32) (l4 : Int32) (l5 : Int32) (l6 : Int32) (l7 : Int32) (M : fm_M), fm_Fr (W_X9_chance) M (G_X9_chance_50 n l1 l2 l3 l4 l5 l6 l7 M) := by
  intro n
  induction n with
  | zero => intro l1 l2 l3 l4 l5 l6 l7 M; simp only [G_X9_chance_50]; exact fr_none
  | succ n ih0 =>
    intro l1 l2 l3 l4 l5 l6 l7 M
    have ih := ih0 l1 l2 l3 l4
    rw [G_X9_chance_50]
    refine fr_it ?_ ?_
    · exact fr_some
    · refine fr_bd (fr_mono (fr_X7_copyFrom _ _ _) (fm_Wsub [2, 3, 4, 5, 6, 7, 8, 9, 10, 11, 12, 13, 14] rfl)) (fun v5 M6 => ?_)
      refine fr_lt (fun t7 => ?_)
      refine fr_gdh (fun g8 => ?_)
      refine fr_bd (fr_mono (fr_X7_passDaysByChance _ _ _ _ _) (by rcases fm_td g8 with rfl | rfl; exact fm_Wsub [2, 3, 6, 10, 13, 14, 0] rfl; exact fm_Wsub [2, 3, 6, 10, 13, 14, 1] rfl)) (fun v9 M10 => ?_)
      refine fr_lt (fun t11 => ?_)
      refine fr_gdh (fun g12 => ?_)
      refine fr_bd (fr_mono (fr_X7_verdicts _ _ _ _) (by rcases fm_td g12 with rfl | rfl; exact fm_Wsub [] rfl; exact fm_Wsub [] rfl)) (fun v13 M14 => ?_)
      refine fr_it ?_ ?_
      · exact ih _ _ _ _
      · exact ih _ _ _ _
theorem fr_X9_chance (a1 : Int32) (a2 : Int32) (a3 : Int32) (M : fm_M) : fm_Fr (W_X9_chance) M (F_X9_chance a1 a2 a3 M) := by
  rw [F_X9_chance]
  refine fr_it ?_ ?_
  · exact fr_some
  · refine fr_it ?_ ?_
    · exact fr_some
    · refine fr_it ?_ ?_
      · exact fr_some
      · refine fr_it ?_ ?_
        · exact fr_some
        · refine fr_it ?_ ?_
          · refine fr_lt (fun t1 => ?_)
            refine fr_gdh (fun g2 => ?_)
            refine fr_bd (fr_mono (fr_X7_verdicts _ _ _ _) (by rcases fm_td g2 with rfl | rfl; exact fm_Wsub [] rfl; exact fm_Wsub [] rfl)) (fun v3 M4 => ?_)
            refine fr_bd (frG_X9_chance_50  _ _ _ _ _ _ _ _ _) (fun w15 M16 => ?_)
            exact fr_some
          · exact fr_some
abbrev W_X9_tried  : Nat → Nat → Prop := fm_W [(19, none), (36, none), (45, some 0), (45, some 1), (45, some 2), (45, some 3), (45, some 4), (45, some 5), (45, some 6), (45, some 7), (46, none), (47, none), (48, none), (49, none), (50, none)]
theorem frJ_X9_tried_156  (l1 : Int32) (l2 : Int32) (l3 : Int32) (M : fm_M) : fm_Fr (W_X9_tried) M (J_X9_tried_156 l1 l2 l3 M) := by
  rw [J_X9_tried_156]
  refine fr_lt (fun t10 => ?_)
  refine fr_gdh (fun g11 => ?_)
  refine fr_bd (fr_mono (fr_X7_verdicts _ _ _ _) (by rcases fm_td g11 with rfl | rfl; exact fm_Wsub [] rfl; exact fm_Wsub [] rfl)) (fun v12 M13 => ?_)
  refine fr_lt (fun t14 => ?_)
  refine fr_gdh (fun g15 => ?_)
  refine fr_bd (fr_mono (fr_X7_verdicts _ _ _ _) (by rcases fm_td g15 with rfl | rfl; exact fm_Wsub [] rfl; exact fm_Wsub [] rfl)) (fun v16 M17 => ?_)
  exact fr_some
theorem frJ_X9_tried_124  (l1 : Int32) (l2 : Int32) (l3 : Int32) (M : fm_M) : fm_Fr (W_X9_tried) M (J_X9_tried_124 l1 l2 l3 M) := by
  rw [J_X9_tried_124]
  refine fr_it ?_ ?_
  · refine fr_lt (fun t18 => ?_)
    refine fr_gdh (fun g19 => ?_)
    refine fr_bd (fr_mono (fr_X7_passDryDays _ _ _ _) (by rcases fm_td g19 with rfl | rfl; exact fm_Wsub [2, 3, 6, 10, 13, 14, 0] rfl; exact fm_Wsub [2, 3, 6, 10, 13, 14, 1] rfl)) (fun v20 M21 => ?_)
    exact frJ_X9_tried_156  _ _ _ _
  · refine fr_lt (fun t6 => ?_)
    refine fr_gdh (fun g7 => ?_)
    refine fr_bd (fr_mono (fr_X7_passDays _ _ _ _) (by rcases fm_td g7 with rfl | rfl; exact fm_Wsub [2, 3, 6, 10, 13, 14, 0] rfl; exact fm_Wsub [2, 3, 6, 10, 13, 14, 1] rfl)) (fun v8 M9 => ?_)
    exact frJ_X9_tried_156  _ _ _ _
theorem frJ_X9_tried_38  (l1 : Int32) (l2 : Int32) (l3 : Int32) (M : fm_M) : fm_Fr (W_X9_tried) M (J_X9_tried_38 l1 l2 l3 M) := by
  rw [J_X9_tried_38]
  refine fr_bd (fr_mono (fr_X7_copyFrom _ _ _) (fm_Wsub [2, 3, 4, 5, 6, 7, 8, 9, 10, 11, 12, 13, 14] rfl)) (fun v3 M4 => ?_)
  refine fr_it ?_ ?_
  · refine fr_up (fm_Wf 8 rfl) (fun M5 => ?_)
    exact frJ_X9_tried_124  _ _ _ _
  · refine fr_it ?_ ?_
    · refine fr_up (fm_Wf 9 rfl) (fun M22 => ?_)
      exact frJ_X9_tried_124  _ _ _ _
    · refine fr_it ?_ ?_
      · refine fr_up (fm_Wf 7 rfl) (fun M23 => ?_)
        exact frJ_X9_tried_124  _ _ _ _
      · refine fr_it ?_ ?_
        · refine fr_up (fm_Wf 6 rfl) (fun M24 => ?_)
          exact frJ_X9_tried_124  _ _ _ _
        · exact frJ_X9_tried_124  _ _ _ _
theorem fr_X9_tried (a1 : Int32) (a2 : Int32) (a3 : Int32) (M : fm_M) : fm_Fr (W_X9_tried) M (F_X9_tried a1 a2 a3 M) := by
  rw [F_X9_tried]
  refine fr_it ?_ ?_
  · exact fr_some
  · refine fr_it ?_ ?_
    · exact fr_some
    · refine fr_bd (fr_mono (fr_X9_isSpan _ _) (fm_Wsub [] rfl)) (fun v1 M2 => ?_)
      refine fr_it ?_ ?_
      · exact fr_some
      · refine fr_it ?_ ?_
        · refine fr_bd (fr_mono (fr_X9_isFork _ _) (fm_Wsub [] rfl)) (fun v25 M26 => ?_)
          refine fr_it ?_ ?_
          · exact fr_some
          · exact frJ_X9_tried_38  _ _ _ _
        · refine fr_it ?_ ?_
          · exact frJ_X9_tried_38  _ _ _ _
          · exact fr_some
abbrev W_X9_undo  : Nat → Nat → Prop := fm_W [(38, some 2), (38, some 3), (38, some 4), (39, none), (41, none), (59, some 3)]
theorem fr_X9_undo  (M : fm_M) : fm_Fr (W_X9_undo) M (F_X9_undo  M) := by
  rw [F_X9_undo]
  refine fr_it ?_ ?_
  · exact fr_some
  · refine fr_it ?_ ?_
    · refine fr_up (fm_Wf 5 rfl) (fun M1 => ?_)
      refine fr_gdh (fun g2 => ?_)
      refine fr_lt (fun x3 => ?_)
      refine fr_gdh (fun g4 => ?_)
      refine fr_lt (fun x5 => ?_)
      refine fr_gdh (fun g6 => ?_)
      refine fr_lt (fun x7 => ?_)
      refine fr_it ?_ ?_
      · refine fr_up (fm_Wf 2 rfl) (fun M8 => ?_)
        exact fr_some
      · refine fr_it ?_ ?_
        · refine fr_lt (fun t9 => ?_)
          refine fr_gdh (fun g10 => ?_)
          refine fr_bd (fr_mono (fr_X7_filed _ _ _ _ _) (fm_Wsub [0, 1, 3] rfl)) (fun v11 M12 => ?_)
          exact fr_some
        · refine fr_it ?_ ?_
          · refine fr_gdh (fun g13 => ?_)
            refine fr_up (fm_Wi 4 rfl) (fun M14 => ?_)
            exact fr_some
          · refine fr_up (fm_Wf 0 rfl) (fun M15 => ?_)
            exact fr_some
    · exact fr_some
abbrev W_X9_keep  : Nat → Nat → Prop := fm_W [(0, some 5), (52, some 0), (52, some 1), (52, some 2), (52, some 3), (52, some 4), (52, some 5), (52, some 6), (52, some 7), (53, none), (54, none), (55, none), (56, none), (57, none)]
theorem fr_X9_keep  (M : fm_M) : fm_Fr (W_X9_keep) M (F_X9_keep  M) := by
  rw [F_X9_keep]
  refine fr_bd (fr_mono (fr_X7_copyFrom _ _ _) (fm_Wsub [1, 2, 3, 4, 5, 6, 7, 8, 9, 10, 11, 12, 13] rfl)) (fun v1 M2 => ?_)
  refine fr_up (fm_Wf 0 rfl) (fun M3 => ?_)
  exact fr_some
abbrev W_X9_back  : Nat → Nat → Prop := fm_W [(38, some 0), (38, some 1), (38, some 2), (38, some 3), (38, some 4), (38, some 5), (38, some 6), (38, some 7), (39, none), (40, none), (41, none), (42, none), (43, none), (59, some 3)]
theorem fr_X9_back  (M : fm_M) : fm_Fr (W_X9_back) M (F_X9_back  M) := by
  rw [F_X9_back]
  refine fr_it ?_ ?_
  · exact fr_some
  · refine fr_bd (fr_mono (fr_X7_copyFrom _ _ _) (fm_Wsub [0, 1, 2, 3, 4, 5, 6, 7, 8, 9, 10, 11, 12] rfl)) (fun v1 M2 => ?_)
    refine fr_up (fm_Wf 13 rfl) (fun M3 => ?_)
    exact fr_some
abbrev W_X9_count  : Nat → Nat → Prop := fm_W []
theorem fr_X9_count (a1 : Int32) (M : fm_M) : fm_Fr (W_X9_count) M (F_X9_count a1 M) := by
  rw [F_X9_count]
  refine fr_it ?_ ?_
  · refine fr_lt (fun t1 => ?_)
    refine fr_gdh (fun g2 => ?_)
    exact fr_some
  · refine fr_it ?_ ?_
    · refine fr_lt (fun t3 => ?_)
      refine fr_gdh (fun g4 => ?_)
      exact fr_some
    · refine fr_it ?_ ?_
      · refine fr_lt (fun t5 => ?_)
        refine fr_gdh (fun g6 => ?_)
        refine fr_bd (fr_mono (fr_J6_bitCount_0f7a4 _ _) (fm_Wsub [] rfl)) (fun v7 M8 => ?_)
        exact fr_some
      · refine fr_it ?_ ?_
        · refine fr_lt (fun t9 => ?_)
          refine fr_gdh (fun g10 => ?_)
          exact fr_some
        · refine fr_it ?_ ?_
          · refine fr_lt (fun t11 => ?_)
            refine fr_gdh (fun g12 => ?_)
            exact fr_some
          · refine fr_it ?_ ?_
            · exact fr_some
            · refine fr_it ?_ ?_
              · exact fr_some
              · refine fr_it ?_ ?_
                · exact fr_some
                · refine fr_it ?_ ?_
                  · refine fr_lt (fun t13 => ?_)
                    refine fr_gdh (fun g14 => ?_)
                    refine fr_bd (fr_mono (fr_X7_verdicts _ _ _ _) (by rcases fm_td g14 with rfl | rfl; exact fm_Wsub [] rfl; exact fm_Wsub [] rfl)) (fun v15 M16 => ?_)
                    exact fr_some
                  · refine fr_it ?_ ?_
                    · refine fr_lt (fun t17 => ?_)
                      refine fr_gdh (fun g18 => ?_)
                      refine fr_bd (fr_mono (fr_X7_verdicts _ _ _ _) (by rcases fm_td g18 with rfl | rfl; exact fm_Wsub [] rfl; exact fm_Wsub [] rfl)) (fun v19 M20 => ?_)
                      exact fr_some
                    · refine fr_it ?_ ?_
                      · refine fr_lt (fun t21 => ?_)
                        refine fr_gdh (fun g22 => ?_)
                        refine fr_bd (fr_mono (fr_X7_heardInSum _ _ _) (by rcases fm_td g22 with rfl | rfl; exact fm_Wsub [] rfl; exact fm_Wsub [] rfl)) (fun v23 M24 => ?_)
                        exact fr_some
                      · refine fr_it ?_ ?_
                        · refine fr_bd (fr_mono (fr_J6_bitCount_0f7a4 _ _) (fm_Wsub [] rfl)) (fun v25 M26 => ?_)
                          exact fr_some
                        · refine fr_it ?_ ?_
                          · exact fr_some
                          · refine fr_it ?_ ?_
                            · refine fr_bd (fr_mono (fr_X4_reach  _) (fm_Wsub [] rfl)) (fun v27 M28 => ?_)
                              exact fr_some
                            · refine fr_it ?_ ?_
                              · exact fr_some
                              · exact fr_some
abbrev W_X10_thrown  : Nat → Nat → Prop := fm_W []
theorem fr_X10_thrown  (M : fm_M) : fm_Fr (W_X10_thrown) M (F_X10_thrown  M) := by
  rw [F_X10_thrown]
  exact fr_some
abbrev W_X10_feed  : Nat → Nat → Prop := fm_W [(76, some 0), (76, some 2), (77, none)]
theorem frJ_X10_feed_73  (rec : Int32 → fm_M → Option ((Int32) × fm_M)) (ih : ∀ (l6 : Int32) (M : fm_M), fm_Fr (W_X10_feed) M (rec l6 M)) (l1 : Int32) (l2 : Int32) (l3 : Int32) (l4 : Int32) (l5 : Int32) (l6 : Int32) (s0 : Int32) (M : fm_M) : fm_Fr (W_X10_feed) M (J_X10_feed_73 rec l1 l2 l3 l4 l5 l6 s0 M) := by
  rw [J_X10_feed_73]
  refine fr_gdh (fun g2 => ?_)
  refine fr_up (fm_Wi 2 rfl) (fun M3 => ?_)
  exact ih _ _
theorem frG_X10_feed_20  : ∀ (n : Nat)  (l1 : Int32) (l2 : Int32) (l3 : Int32) (l4 : Int32) (l5 : Int32) (l6 : Int32) (M : fm_M), fm_Fr (W_X10_feed) M (G_X10_feed_20 n l1 l2 l3 l4 l5 l6 M) := by
  intro n
  induction n with
  | zero => intro l1 l2 l3 l4 l5 l6 M; simp only [G_X10_feed_20]; exact fr_none
  | succ n ih0 =>
    intro l1 l2 l3 l4 l5 l6 M
    have ih := ih0 l1 l2 l3 l4 l5
    rw [G_X10_feed_20]
    refine fr_it ?_ ?_
    · exact fr_some
    · refine fr_it ?_ ?_
      · refine fr_it ?_ ?_
        · refine fr_it ?_ ?_
          · refine fr_it ?_ ?_
            · exact frJ_X10_feed_73  _ (fun y0 y1 => ih y0 y1) _ _ _ _ _ _ _ _
            · exact frJ_X10_feed_73  _ (fun y0 y1 => ih y0 y1) _ _ _ _ _ _ _ _
          · exact frJ_X10_feed_73  _ (fun y0 y1 => ih y0 y1) _ _ _ _ _ _ _ _
        · exact frJ_X10_feed_73  _ (fun y0 y1 => ih y0 y1) _ _ _ _ _ _ _ _
      · exact frJ_X10_feed_73  _ (fun y0 y1 => ih y0 y1) _ _ _ _ _ _ _ _
theorem fr_X10_feed (a1 : Int32) (a2 : Int32) (a3 : Int32) (a4 : Int32) (a5 : Int32) (M : fm_M) : fm_Fr (W_X10_feed) M (F_X10_feed a1 a2 a3 a4 a5 M) := by
  rw [F_X10_feed]
  refine fr_up (fm_Wf 0 rfl) (fun M1 => ?_)
  refine fr_it ?_ ?_
  · refine fr_bd (frG_X10_feed_20  _ _ _ _ _ _ _ _) (fun w4 M5 => ?_)
    refine fr_up (fm_Wf 1 rfl) (fun M6 => ?_)
    exact fr_some
  · exact fr_some
abbrev W_X10_here  : Nat → Nat → Prop := fm_W []
theorem fr_X10_here  (M : fm_M) : fm_Fr (W_X10_here) M (F_X10_here  M) := by
  rw [F_X10_here]
  refine fr_it ?_ ?_
  · exact fr_some
  · refine fr_gdh (fun g1 => ?_)
    exact fr_some
abbrev W_X10_isSmall  : Nat → Nat → Prop := fm_W []
theorem fr_X10_isSmall (a0 : Int32) (M : fm_M) : fm_Fr (W_X10_isSmall) M (F_X10_isSmall a0 M) := by
  rw [F_X10_isSmall]
  refine fr_it ?_ ?_
  · exact fr_some
  · refine fr_it ?_ ?_
    · exact fr_some
    · exact fr_some
abbrev W_X10_isDigit  : Nat → Nat → Prop := fm_W []
theorem fr_X10_isDigit (a0 : Int32) (M : fm_M) : fm_Fr (W_X10_isDigit) M (F_X10_isDigit a0 M) := by
  rw [F_X10_isDigit]
  refine fr_it ?_ ?_
  · exact fr_some
  · refine fr_it ?_ ?_
    · exact fr_some
    · exact fr_some
abbrev W_X10_name  : Nat → Nat → Prop := fm_W [(76, some 23)]
theorem frG_X10_name_7  : ∀ (n : Nat)   (l1 : Int32) (M : fm_M), fm_Fr (W_X10_name) M (G_X10_name_7 n l1 M) := by
  intro n
  induction n with
  | zero => intro l1 M; simp only [G_X10_name_7]; exact fr_none
  | succ n ih0 =>
    intro l1 M
    have ih := ih0 
    rw [G_X10_name_7]
    refine fr_it ?_ ?_
    · exact fr_some
    · refine fr_it ?_ ?_
      · refine fr_up (fm_Wf 0 rfl) (fun M2 => ?_)
        exact ih _ _
      · refine fr_gdh (fun g3 => ?_)
        refine fr_up (fm_Wf 0 rfl) (fun M4 => ?_)
        exact ih _ _
theorem fr_X10_name  (M : fm_M) : fm_Fr (W_X10_name) M (F_X10_name  M) := by
  rw [F_X10_name]
  refine fr_up (fm_Wf 0 rfl) (fun M1 => ?_)
  refine fr_bd (frG_X10_name_7  _ _ _) (fun w5 M6 => ?_)
  exact fr_some
abbrev W_X10_sign  : Nat → Nat → Prop := fm_W [(76, some 20), (76, some 22), (76, some 23)]
theorem frJ_X10_sign_150  (l1 : Int32) (M : fm_M) : fm_Fr (W_X10_sign) M (J_X10_sign_150 l1 M) := by
  rw [J_X10_sign_150]
  refine fr_it ?_ ?_
  · exact fr_some
  · refine fr_up (fm_Wf 0 rfl) (fun M4 => ?_)
    exact fr_some
theorem frJ_X10_sign_128  (l1 : Int32) (M : fm_M) : fm_Fr (W_X10_sign) M (J_X10_sign_128 l1 M) := by
  rw [J_X10_sign_128]
  refine fr_it ?_ ?_
  · refine fr_bd (fr_mono (fr_X10_here  _) (fm_Wsub [] rfl)) (fun v5 M6 => ?_)
    refine fr_it ?_ ?_
    · refine fr_up (fm_Wf 2 rfl) (fun M7 => ?_)
      exact frJ_X10_sign_150  _ _
    · exact frJ_X10_sign_150  _ _
  · exact frJ_X10_sign_150  _ _
theorem frJ_X10_sign_106  (l1 : Int32) (M : fm_M) : fm_Fr (W_X10_sign) M (J_X10_sign_106 l1 M) := by
  rw [J_X10_sign_106]
  refine fr_it ?_ ?_
  · refine fr_bd (fr_mono (fr_X10_here  _) (fm_Wsub [] rfl)) (fun v8 M9 => ?_)
    refine fr_it ?_ ?_
    · refine fr_up (fm_Wf 2 rfl) (fun M10 => ?_)
      exact frJ_X10_sign_128  _ _
    · exact frJ_X10_sign_128  _ _
  · exact frJ_X10_sign_128  _ _
theorem frJ_X10_sign_76  (l1 : Int32) (s1 : Int32) (M : fm_M) : fm_Fr (W_X10_sign) M (J_X10_sign_76 l1 s1 M) := by
  rw [J_X10_sign_76]
  refine fr_up (fm_Wf 1 rfl) (fun M2 => ?_)
  refine fr_up (fm_Wf 2 rfl) (fun M3 => ?_)
  refine fr_it ?_ ?_
  · refine fr_bd (fr_mono (fr_X10_here  _) (fm_Wsub [] rfl)) (fun v11 M12 => ?_)
    refine fr_it ?_ ?_
    · refine fr_up (fm_Wf 2 rfl) (fun M13 => ?_)
      exact frJ_X10_sign_106  _ _
    · exact frJ_X10_sign_106  _ _
  · exact frJ_X10_sign_106  _ _
theorem frJ_X10_sign_71  (l1 : Int32) (M : fm_M) : fm_Fr (W_X10_sign) M (J_X10_sign_71 l1 M) := by
  rw [J_X10_sign_71]
  exact frJ_X10_sign_76  _ _ _
theorem fr_X10_sign (a1 : Int32) (M : fm_M) : fm_Fr (W_X10_sign) M (F_X10_sign a1 M) := by
  rw [F_X10_sign]
  refine fr_up (fm_Wf 0 rfl) (fun M1 => ?_)
  refine fr_it ?_ ?_
  · exact frJ_X10_sign_71  _ _
  · refine fr_it ?_ ?_
    · exact frJ_X10_sign_71  _ _
    · refine fr_it ?_ ?_
      · exact frJ_X10_sign_71  _ _
      · refine fr_it ?_ ?_
        · exact frJ_X10_sign_71  _ _
        · refine fr_it ?_ ?_
          · exact frJ_X10_sign_71  _ _
          · refine fr_it ?_ ?_
            · exact frJ_X10_sign_71  _ _
            · refine fr_it ?_ ?_
              · exact frJ_X10_sign_71  _ _
              · refine fr_it ?_ ?_
                · exact frJ_X10_sign_71  _ _
                · refine fr_it ?_ ?_
                  · exact frJ_X10_sign_71  _ _
                  · refine fr_it ?_ ?_
                    · exact frJ_X10_sign_71  _ _
                    · exact frJ_X10_sign_76  _ _ _
abbrev W_X10_word  : Nat → Nat → Prop := fm_W []
theorem frG_X10_word_15  : ∀ (n : Nat)  (l1 : Int32) (l2 : Int32) (l3 : Int32) (M : fm_M), fm_Fr (W_X10_word) M (G_X10_word_15 n l1 l2 l3 M) := by
  intro n
  induction n with
  | zero => intro l1 l2 l3 M; simp only [G_X10_word_15]; exact fr_none
  | succ n ih0 =>
    intro l1 l2 l3 M
    have ih := ih0 l1 l2
    rw [G_X10_word_15]
    refine fr_gdh (fun g1 => ?_)
    refine fr_it ?_ ?_
    · exact fr_some
    · refine fr_it ?_ ?_
      · exact fr_some
      · refine fr_gdh (fun g2 => ?_)
        refine fr_gdh (fun g3 => ?_)
        refine fr_it ?_ ?_
        · exact ih _ _
        · exact fr_some
theorem frG_X10_word_97  : ∀ (n : Nat)  (l1 : Int32) (l3 : Int32) (l2 : Int32) (M : fm_M), fm_Fr (W_X10_word) M (G_X10_word_97 n l1 l3 l2 M) := by
  intro n
  induction n with
  | zero => intro l1 l3 l2 M; simp only [G_X10_word_97]; exact fr_none
  | succ n ih0 =>
    intro l1 l3 l2 M
    have ih := ih0 l1 l3
    rw [G_X10_word_97]
    refine fr_gdh (fun g7 => ?_)
    refine fr_it ?_ ?_
    · exact fr_some
    · exact ih _ _
theorem frG_X10_word_4  : ∀ (n : Nat)   (l1 : Int32) (l2 : Int32) (M : fm_M), fm_Fr (W_X10_word) M (G_X10_word_4 n l1 l2 M) := by
  intro n
  induction n with
  | zero => intro l1 l2 M; simp only [G_X10_word_4]; exact fr_none
  | succ n ih0 =>
    intro l1 l2 M
    have ih := ih0 
    rw [G_X10_word_4]
    refine fr_it ?_ ?_
    · exact fr_some
    · refine fr_bd (frG_X10_word_15  _ _ _ _ _) (fun w4 M5 => ?_)
      refine fr_gdh (fun g6 => ?_)
      refine fr_it ?_ ?_
      · refine fr_it ?_ ?_
        · exact fr_some
        · refine fr_bd (frG_X10_word_97  _ _ _ _ _) (fun w10 M11 => ?_)
          exact ih _ _ _
      · refine fr_bd (frG_X10_word_97  _ _ _ _ _) (fun w8 M9 => ?_)
        exact ih _ _ _
theorem fr_X10_word  (M : fm_M) : fm_Fr (W_X10_word) M (F_X10_word  M) := by
  rw [F_X10_word]
  refine fr_bs (frG_X10_word_4  _ _ _ _) (fun w12 M13 => ?_) (fun _ _ => fr_some)
  exact fr_some
abbrev W_X10_token  : Nat → Nat → Prop := fm_W [(76, some 20), (76, some 21), (76, some 22), (76, some 23)]
theorem frG_X10_token_0  : ∀ (n : Nat)    (M : fm_M), fm_Fr (W_X10_token) M (G_X10_token_0 n M) := by
  intro n
  induction n with
  | zero => intro M; simp only [G_X10_token_0]; exact fr_none
  | succ n ih0 =>
    intro M
    have ih := ih0 
    rw [G_X10_token_0]
    refine fr_bd (fr_mono (fr_X10_here  _) (fm_Wsub [] rfl)) (fun v1 M2 => ?_)
    refine fr_it ?_ ?_
    · refine fr_up (fm_Wf 0 rfl) (fun M3 => ?_)
      exact ih  _
    · refine fr_bd (fr_mono (fr_X10_here  _) (fm_Wsub [] rfl)) (fun v4 M5 => ?_)
      refine fr_it ?_ ?_
      · refine fr_up (fm_Wf 0 rfl) (fun M6 => ?_)
        exact ih  _
      · exact fr_some
theorem frJ_X10_token_204  (rec : fm_M → Option ((Unit) × fm_M)) (ih : ∀  (M : fm_M), fm_Fr (W_X10_token) M (rec M)) (l1 : Int32) (s1 : Int32) (M : fm_M) : fm_Fr (W_X10_token) M (J_X10_token_204 rec l1 s1 M) := by
  rw [J_X10_token_204]
  refine fr_up (fm_Wf 3 rfl) (fun M26 => ?_)
  refine fr_up (fm_Wf 0 rfl) (fun M27 => ?_)
  exact ih  _
theorem frG_X10_token_162  : ∀ (n : Nat)  (l1 : Int32)  (M : fm_M), fm_Fr (W_X10_token) M (G_X10_token_162 n l1 M) := by
  intro n
  induction n with
  | zero => intro l1 M; simp only [G_X10_token_162]; exact fr_none
  | succ n ih0 =>
    intro l1 M
    have ih := ih0 l1
    rw [G_X10_token_162]
    refine fr_bd (fr_mono (fr_X10_here  _) (fm_Wsub [] rfl)) (fun v20 M21 => ?_)
    refine fr_bd (fr_mono (fr_X10_isDigit _ _) (fm_Wsub [] rfl)) (fun v22 M23 => ?_)
    refine fr_it ?_ ?_
    · exact fr_some
    · refine fr_it ?_ ?_
      · refine fr_bd (fr_mono (fr_X10_here  _) (fm_Wsub [] rfl)) (fun v24 M25 => ?_)
        exact frJ_X10_token_204  _ (fun y0 => ih y0) _ _ _
      · exact frJ_X10_token_204  _ (fun y0 => ih y0) _ _ _
theorem frG_X10_token_64  : ∀ (n : Nat)  (l1 : Int32)  (M : fm_M), fm_Fr (W_X10_token) M (G_X10_token_64 n l1 M) := by
  intro n
  induction n with
  | zero => intro l1 M; simp only [G_X10_token_64]; exact fr_none
  | succ n ih0 =>
    intro l1 M
    have ih := ih0 l1
    rw [G_X10_token_64]
    refine fr_bd (fr_mono (fr_X10_here  _) (fm_Wsub [] rfl)) (fun v30 M31 => ?_)
    refine fr_bd (fr_mono (fr_X10_isSmall _ _) (fm_Wsub [] rfl)) (fun v32 M33 => ?_)
    refine fr_it ?_ ?_
    · exact fr_some
    · refine fr_up (fm_Wf 0 rfl) (fun M34 => ?_)
      exact ih  _
theorem frJ_X10_token_127  (l1 : Int32) (s1 : Int32) (M : fm_M) : fm_Fr (W_X10_token) M (J_X10_token_127 l1 s1 M) := by
  rw [J_X10_token_127]
  refine fr_up (fm_Wf 2 rfl) (fun M40 => ?_)
  refine fr_it ?_ ?_
  · refine fr_bd (fr_mono (fr_X10_name  _) (fm_Wsub [3] rfl)) (fun v41 M42 => ?_)
    exact fr_some
  · exact fr_some
theorem fr_X10_token  (M : fm_M) : fm_Fr (W_X10_token) M (F_X10_token  M) := by
  rw [F_X10_token]
  refine fr_bd (frG_X10_token_0  _  _) (fun w7 M8 => ?_)
  refine fr_up (fm_Wf 1 rfl) (fun M9 => ?_)
  refine fr_bd (fr_mono (fr_X10_here  _) (fm_Wsub [] rfl)) (fun v10 M11 => ?_)
  refine fr_it ?_ ?_
  · refine fr_up (fm_Wf 2 rfl) (fun M43 => ?_)
    exact fr_some
  · refine fr_bd (fr_mono (fr_X10_isSmall _ _) (fm_Wsub [] rfl)) (fun v12 M13 => ?_)
    refine fr_it ?_ ?_
    · refine fr_bd (fr_mono (fr_X10_isDigit _ _) (fm_Wsub [] rfl)) (fun v14 M15 => ?_)
      refine fr_it ?_ ?_
      · refine fr_bd (fr_mono (fr_X10_sign _ _) (fm_Wsub [0, 2, 3] rfl)) (fun v16 M17 => ?_)
        exact fr_some
      · refine fr_up (fm_Wf 2 rfl) (fun M18 => ?_)
        refine fr_up (fm_Wf 3 rfl) (fun M19 => ?_)
        refine fr_bd (frG_X10_token_162  _ _ _) (fun w28 M29 => ?_)
        exact fr_some
    · refine fr_bd (frG_X10_token_64  _ _ _) (fun w35 M36 => ?_)
      refine fr_bd (fr_mono (fr_X10_word  _) (fm_Wsub [] rfl)) (fun v37 M38 => ?_)
      refine fr_up (fm_Wf 3 rfl) (fun M39 => ?_)
      refine fr_it ?_ ?_
      · refine fr_it ?_ ?_
        · exact frJ_X10_token_127  _ _ _
        · exact frJ_X10_token_127  _ _ _
      · exact frJ_X10_token_127  _ _ _
abbrev W_X10_wrong  : Nat → Nat → Prop := fm_W [(76, some 24), (76, some 25)]
theorem fr_X10_wrong (a1 : Int32) (M : fm_M) : fm_Fr (W_X10_wrong) M (F_X10_wrong a1 M) := by
  rw [F_X10_wrong]
  refine fr_it ?_ ?_
  · refine fr_up (fm_Wf 0 rfl) (fun M1 => ?_)
    refine fr_up (fm_Wf 1 rfl) (fun M2 => ?_)
    exact fr_some
  · exact fr_some
