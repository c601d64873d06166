/-! ONE MEMORY: the class's call, then the reference's -/
theorem fm_Wlt {l : List (Nat × Option Nat)} (hl : ∀ e ∈ l, e.1 < 76) {q k : Nat} (hq : 76 ≤ q) : ¬ fm_W l q k := by
  rintro ⟨e, he, h1, -⟩
  have := hl e he
  omega
theorem fm_Wge {l : List (Nat × Option Nat)} (hl : ∀ e ∈ l, 76 ≤ e.1) {q k : Nat} (hq : q < 76) : ¬ fm_W l q k := by
  rintro ⟨e, he, h1, -⟩
  have := hl e he
  omega
theorem on_gen {α : Type} {F9 F10 : fm_M → Option (α × fm_M)} (hp : ∀ A B, Inv A B → pI (F9 A) (F10 B)) (f9 : ∀ M x, F9 M = some x → ∀ q k, 76 ≤ q → x.2.1 q k = M.1 q k) (f10 : ∀ M x, F10 M = some x → ∀ q k, q < 76 → x.2.1 q k = M.1 q k) {M : fm_M} (h : Inv M M) : ∃ (v : α) (M1 M2 : fm_M), F9 M = some (v, M1) ∧ F10 M1 = some (v, M2) ∧ Inv M2 M2 := by
  obtain ⟨v, w, A, B, e1, e2, e3, e4⟩ := hp M M h
  have h1 : Inv M A := by
    obtain ⟨t, nf, nm, kd, km, h⟩ := h
    exact ⟨t, nf, nm, kd, km, iv_cg h (fun _ _ _ => rfl) (fun q k z => f9 M _ e1 q k (by unfold iv_pB at z; omega))⟩
  obtain ⟨v2, w2, A2, C, g1, g2, g3, g4⟩ := hp M A h1
  have g5 := Option.some.inj (e1.symm.trans g1)
  have g6 : A = A2 := congrArg Prod.snd g5
  have g7 : v = v2 := congrArg Prod.fst g5
  subst g6 g7 g3
  refine ⟨v, A, C, e1, g2, ?_⟩
  obtain ⟨t, nf, nm, kd, km, h⟩ := g4
  exact ⟨t, nf, nm, kd, km, iv_cg h (fun q k z => f10 A _ g2 q k (by unfold iv_pA at z; omega)) (fun _ _ _ => rfl)⟩
theorem on_feed (a1 a2 a3 a4 a5 : Int32) {M : fm_M} (h : Inv M M) : ∃ (v : Int32) (M1 M2 : fm_M), F_X9_feed a1 a2 a3 a4 a5 M = some (v, M1) ∧ F_X10_feed a1 a2 a3 a4 a5 M1 = some (v, M2) ∧ Inv M2 M2 := by
  refine on_gen (F9 := F_X9_feed a1 a2 a3 a4 a5) (F10 := F_X10_feed a1 a2 a3 a4 a5) (fun A B h => by obtain ⟨t, nf, nm, kd, km, h⟩ := h; exact pI_feed h a1 a2 a3 a4 a5) (fun M x e q k z => fr_X9_feed a1 a2 a3 a4 a5 M x e q k (fm_Wlt (by decide) z)) (fun M x e q k z => fr_X10_feed a1 a2 a3 a4 a5 M x e q k (fm_Wge (by decide) z)) h
theorem on_text (a : Int32) {M : fm_M} (h : Inv M M) : ∃ (v : Int32) (M1 M2 : fm_M), F_X9_text a M = some (v, M1) ∧ F_X10_text a M1 = some (v, M2) ∧ Inv M2 M2 := by
  obtain ⟨t, nf, nm, kd, km, h⟩ := h
  obtain ⟨v, A, B, e1, e2, e3, e4, e5⟩ := rx_text h a
  have h1 : iv_all M A t nf nm kd km := iv_cg h (fun _ _ _ => rfl) (fun q k z => e4 q k (by unfold iv_pB at z; omega))
  obtain ⟨v2, A2, C, g1, g2, g3, g4, g8⟩ := rx_text h1 a
  have g5 := Option.some.inj (e1.symm.trans g1)
  have g6 : A = A2 := congrArg Prod.snd g5
  have g7 : v = v2 := congrArg Prod.fst g5
  subst g6 g7
  refine ⟨v, A, C, e1, g2, ?_⟩
  obtain ⟨t, nf, nm, kd, km, h⟩ := g3
  exact ⟨t, nf, nm, kd, km, iv_cg h (fun q k z => g8 q k (by unfold iv_pA at z; omega)) (fun _ _ _ => rfl)⟩
theorem on_fault (a1 : Int32) {M : fm_M} (h : Inv M M) : ∃ (v : Int32) (M1 M2 : fm_M), F_X9_fault a1 M = some (v, M1) ∧ F_X10_fault a1 M1 = some (v, M2) ∧ Inv M2 M2 := by
  refine on_gen (F9 := F_X9_fault a1) (F10 := F_X10_fault a1) (fun A B h => by obtain ⟨t, nf, nm, kd, km, h⟩ := h; exact pu_I (pu_fault h a1)) (fun M x e q k z => fr_X9_fault a1 M x e q k (fm_Wlt (by decide) z)) (fun M x e q k z => fr_X10_fault a1 M x e q k (fm_Wge (by decide) z)) h
theorem on_named (a1 a2 : Int32) {M : fm_M} (h : Inv M M) : ∃ (v : Int32) (M1 M2 : fm_M), F_X9_named a1 a2 M = some (v, M1) ∧ F_X10_named a1 a2 M1 = some (v, M2) ∧ Inv M2 M2 := by
  refine on_gen (F9 := F_X9_named a1 a2) (F10 := F_X10_named a1 a2) (fun A B h => by obtain ⟨t, nf, nm, kd, km, h⟩ := h; exact pu_I (pu_named h a1 a2)) (fun M x e q k z => fr_X9_named a1 a2 M x e q k (fm_Wlt (by decide) z)) (fun M x e q k z => fr_X10_named a1 a2 M x e q k (fm_Wge (by decide) z)) h
theorem on_fork (a1 a2 : Int32) {M : fm_M} (h : Inv M M) : ∃ (v : Int32) (M1 M2 : fm_M), F_X9_fork a1 a2 M = some (v, M1) ∧ F_X10_fork a1 a2 M1 = some (v, M2) ∧ Inv M2 M2 := by
  refine on_gen (F9 := F_X9_fork a1 a2) (F10 := F_X10_fork a1 a2) (fun A B h => by obtain ⟨t, nf, nm, kd, km, h⟩ := h; exact pu_I (pu_fork h a1 a2)) (fun M x e q k z => fr_X9_fork a1 a2 M x e q k (fm_Wlt (by decide) z)) (fun M x e q k z => fr_X10_fork a1 a2 M x e q k (fm_Wge (by decide) z)) h
theorem on_wet (a1 : Int32) {M : fm_M} (h : Inv M M) : ∃ (v : Int32) (M1 M2 : fm_M), F_X9_wet a1 M = some (v, M1) ∧ F_X10_wet a1 M1 = some (v, M2) ∧ Inv M2 M2 := by
  refine on_gen (F9 := F_X9_wet a1) (F10 := F_X10_wet a1) (fun A B h => by obtain ⟨t, nf, nm, kd, km, h⟩ := h; exact pu_I (pu_wet h a1)) (fun M x e q k z => fr_X9_wet a1 M x e q k (fm_Wlt (by decide) z)) (fun M x e q k z => fr_X10_wet a1 M x e q k (fm_Wge (by decide) z)) h
theorem on_beats (a1 a2 : Int32) {M : fm_M} (h : Inv M M) : ∃ (v : Int32) (M1 M2 : fm_M), F_X9_beats a1 a2 M = some (v, M1) ∧ F_X10_beats a1 a2 M1 = some (v, M2) ∧ Inv M2 M2 := by
  refine on_gen (F9 := F_X9_beats a1 a2) (F10 := F_X10_beats a1 a2) (fun A B h => by obtain ⟨t, nf, nm, kd, km, h⟩ := h; exact pu_I (pu_beats h a1 a2)) (fun M x e q k z => fr_X9_beats a1 a2 M x e q k (fm_Wlt (by decide) z)) (fun M x e q k z => fr_X10_beats a1 a2 M x e q k (fm_Wge (by decide) z)) h
theorem on_hums (a1 a2 : Int32) {M : fm_M} (h : Inv M M) : ∃ (v : Int32) (M1 M2 : fm_M), F_X9_hums a1 a2 M = some (v, M1) ∧ F_X10_hums a1 a2 M1 = some (v, M2) ∧ Inv M2 M2 := by
  refine on_gen (F9 := F_X9_hums a1 a2) (F10 := F_X10_hums a1 a2) (fun A B h => by obtain ⟨t, nf, nm, kd, km, h⟩ := h; exact pu_I (pu_hums h a1 a2)) (fun M x e q k z => fr_X9_hums a1 a2 M x e q k (fm_Wlt (by decide) z)) (fun M x e q k z => fr_X10_hums a1 a2 M x e q k (fm_Wge (by decide) z)) h
theorem on_struck (a1 a2 : Int32) {M : fm_M} (h : Inv M M) : ∃ (v : Int32) (M1 M2 : fm_M), F_X9_struck a1 a2 M = some (v, M1) ∧ F_X10_struck a1 a2 M1 = some (v, M2) ∧ Inv M2 M2 := by
  refine on_gen (F9 := F_X9_struck a1 a2) (F10 := F_X10_struck a1 a2) (fun A B h => by obtain ⟨t, nf, nm, kd, km, h⟩ := h; exact pu_I (pu_struck h a1 a2)) (fun M x e q k z => fr_X9_struck a1 a2 M x e q k (fm_Wlt (by decide) z)) (fun M x e q k z => fr_X10_struck a1 a2 M x e q k (fm_Wge (by decide) z)) h
theorem on_law (a1 a2 a3 : Int32) {M : fm_M} (h : Inv M M) : ∃ (v : Int64) (M1 M2 : fm_M), F_X9_law a1 a2 a3 M = some (v, M1) ∧ F_X10_law a1 a2 a3 M1 = some (v, M2) ∧ Inv M2 M2 := by
  refine on_gen (F9 := F_X9_law a1 a2 a3) (F10 := F_X10_law a1 a2 a3) (fun A B h => by obtain ⟨t, nf, nm, kd, km, h⟩ := h; exact pu_I (pu_law h a1 a2 a3)) (fun M x e q k z => fr_X9_law a1 a2 a3 M x e q k (fm_Wlt (by decide) z)) (fun M x e q k z => fr_X10_law a1 a2 a3 M x e q k (fm_Wge (by decide) z)) h
theorem on_touch (a1 a2 : Int32) {M : fm_M} (h : Inv M M) : ∃ (v : Int32) (M1 M2 : fm_M), F_X9_touch a1 a2 M = some (v, M1) ∧ F_X10_touch a1 a2 M1 = some (v, M2) ∧ Inv M2 M2 := by
  refine on_gen (F9 := F_X9_touch a1 a2) (F10 := F_X10_touch a1 a2) (fun A B h => by obtain ⟨t, nf, nm, kd, km, h⟩ := h; exact pI_touch h a1 a2) (fun M x e q k z => fr_X9_touch a1 a2 M x e q k (fm_Wlt (by decide) z)) (fun M x e q k z => fr_X10_touch a1 a2 M x e q k (fm_Wge (by decide) z)) h
theorem on_file (a1 a2 : Int32) {M : fm_M} (h : Inv M M) : ∃ (v : Int32) (M1 M2 : fm_M), F_X9_file a1 a2 M = some (v, M1) ∧ F_X10_file a1 a2 M1 = some (v, M2) ∧ Inv M2 M2 := by
  refine on_gen (F9 := F_X9_file a1 a2) (F10 := F_X10_file a1 a2) (fun A B h => by obtain ⟨t, nf, nm, kd, km, h⟩ := h; exact pI_file h a1 a2) (fun M x e q k z => fr_X9_file a1 a2 M x e q k (fm_Wlt (by decide) z)) (fun M x e q k z => fr_X10_file a1 a2 M x e q k (fm_Wge (by decide) z)) h
theorem on_put (a1 a2 : Int32) {M : fm_M} (h : Inv M M) : ∃ (v : Int32) (M1 M2 : fm_M), F_X9_put a1 a2 M = some (v, M1) ∧ F_X10_put a1 a2 M1 = some (v, M2) ∧ Inv M2 M2 := by
  refine on_gen (F9 := F_X9_put a1 a2) (F10 := F_X10_put a1 a2) (fun A B h => by obtain ⟨t, nf, nm, kd, km, h⟩ := h; exact pI_put h a1 a2) (fun M x e q k z => fr_X9_put a1 a2 M x e q k (fm_Wlt (by decide) z)) (fun M x e q k z => fr_X10_put a1 a2 M x e q k (fm_Wge (by decide) z)) h
theorem on_earn (a1 : Int32) {M : fm_M} (h : Inv M M) : ∃ (v : Int32) (M1 M2 : fm_M), F_X9_earn a1 M = some (v, M1) ∧ F_X10_earn a1 M1 = some (v, M2) ∧ Inv M2 M2 := by
  refine on_gen (F9 := F_X9_earn a1) (F10 := F_X10_earn a1) (fun A B h => by obtain ⟨t, nf, nm, kd, km, h⟩ := h; exact pI_earn h a1) (fun M x e q k z => fr_X9_earn a1 M x e q k (fm_Wlt (by decide) z)) (fun M x e q k z => fr_X10_earn a1 M x e q k (fm_Wge (by decide) z)) h
theorem on_go (a1 : Int32) {M : fm_M} (h : Inv M M) : ∃ (v : Int32) (M1 M2 : fm_M), F_X9_go a1 M = some (v, M1) ∧ F_X10_go a1 M1 = some (v, M2) ∧ Inv M2 M2 := by
  refine on_gen (F9 := F_X9_go a1) (F10 := F_X10_go a1) (fun A B h => by obtain ⟨t, nf, nm, kd, km, h⟩ := h; exact pI_go h a1) (fun M x e q k z => fr_X9_go a1 M x e q k (fm_Wlt (by decide) z)) (fun M x e q k z => fr_X10_go a1 M x e q k (fm_Wge (by decide) z)) h
theorem on_ahead (a1 a2 a3 : Int32) {M : fm_M} (h : Inv M M) : ∃ (v : Int32) (M1 M2 : fm_M), F_X9_ahead a1 a2 a3 M = some (v, M1) ∧ F_X10_ahead a1 a2 a3 M1 = some (v, M2) ∧ Inv M2 M2 := by
  refine on_gen (F9 := F_X9_ahead a1 a2 a3) (F10 := F_X10_ahead a1 a2 a3) (fun A B h => by obtain ⟨t, nf, nm, kd, km, h⟩ := h; exact pI_ahead h a1 a2 a3) (fun M x e q k z => fr_X9_ahead a1 a2 a3 M x e q k (fm_Wlt (by decide) z)) (fun M x e q k z => fr_X10_ahead a1 a2 a3 M x e q k (fm_Wge (by decide) z)) h
theorem on_best (a1 : Int32) {M : fm_M} (h : Inv M M) : ∃ (v : Int32) (M1 M2 : fm_M), F_X9_best a1 M = some (v, M1) ∧ F_X10_best a1 M1 = some (v, M2) ∧ Inv M2 M2 := by
  refine on_gen (F9 := F_X9_best a1) (F10 := F_X10_best a1) (fun A B h => by obtain ⟨t, nf, nm, kd, km, h⟩ := h; exact pu_I (pu_best h a1)) (fun M x e q k z => fr_X9_best a1 M x e q k (fm_Wlt (by decide) z)) (fun M x e q k z => fr_X10_best a1 M x e q k (fm_Wge (by decide) z)) h
theorem on_open {M : fm_M} (h : Inv M M) : ∃ (v : Int32) (M1 M2 : fm_M), F_X9_open M = some (v, M1) ∧ F_X10_open M1 = some (v, M2) ∧ Inv M2 M2 := by
  refine on_gen (F9 := F_X9_open) (F10 := F_X10_open) (fun A B h => by obtain ⟨t, nf, nm, kd, km, h⟩ := h; exact pu_I (pu_open h)) (fun M x e q k z => fr_X9_open M x e q k (fm_Wlt (by decide) z)) (fun M x e q k z => fr_X10_open M x e q k (fm_Wge (by decide) z)) h
theorem on_bribe (a1 a2 : Int32) {M : fm_M} (h : Inv M M) : ∃ (v : Int32) (M1 M2 : fm_M), F_X9_bribe a1 a2 M = some (v, M1) ∧ F_X10_bribe a1 a2 M1 = some (v, M2) ∧ Inv M2 M2 := by
  refine on_gen (F9 := F_X9_bribe a1 a2) (F10 := F_X10_bribe a1 a2) (fun A B h => by obtain ⟨t, nf, nm, kd, km, h⟩ := h; exact pu_I (pu_bribe h a1 a2)) (fun M x e q k z => fr_X9_bribe a1 a2 M x e q k (fm_Wlt (by decide) z)) (fun M x e q k z => fr_X10_bribe a1 a2 M x e q k (fm_Wge (by decide) z)) h
theorem on_swing (a1 a2 : Int32) {M : fm_M} (h : Inv M M) : ∃ (v : Int32) (M1 M2 : fm_M), F_X9_swing a1 a2 M = some (v, M1) ∧ F_X10_swing a1 a2 M1 = some (v, M2) ∧ Inv M2 M2 := by
  refine on_gen (F9 := F_X9_swing a1 a2) (F10 := F_X10_swing a1 a2) (fun A B h => by obtain ⟨t, nf, nm, kd, km, h⟩ := h; exact pu_I (pu_swing h a1 a2)) (fun M x e q k z => fr_X9_swing a1 a2 M x e q k (fm_Wlt (by decide) z)) (fun M x e q k z => fr_X10_swing a1 a2 M x e q k (fm_Wge (by decide) z)) h
theorem on_censure (a1 : Int32) {M : fm_M} (h : Inv M M) : ∃ (v : Int32) (M1 M2 : fm_M), F_X9_censure a1 M = some (v, M1) ∧ F_X10_censure a1 M1 = some (v, M2) ∧ Inv M2 M2 := by
  refine on_gen (F9 := F_X9_censure a1) (F10 := F_X10_censure a1) (fun A B h => by obtain ⟨t, nf, nm, kd, km, h⟩ := h; exact pu_I (pu_censure h a1)) (fun M x e q k z => fr_X9_censure a1 M x e q k (fm_Wlt (by decide) z)) (fun M x e q k z => fr_X10_censure a1 M x e q k (fm_Wge (by decide) z)) h
theorem on_party (a1 a2 : Int32) {M : fm_M} (h : Inv M M) : ∃ (v : Int32) (M1 M2 : fm_M), F_X9_party a1 a2 M = some (v, M1) ∧ F_X10_party a1 a2 M1 = some (v, M2) ∧ Inv M2 M2 := by
  refine on_gen (F9 := F_X9_party a1 a2) (F10 := F_X10_party a1 a2) (fun A B h => by obtain ⟨t, nf, nm, kd, km, h⟩ := h; exact pu_I (pu_party h a1 a2)) (fun M x e q k z => fr_X9_party a1 a2 M x e q k (fm_Wlt (by decide) z)) (fun M x e q k z => fr_X10_party a1 a2 M x e q k (fm_Wge (by decide) z)) h
theorem on_rests (a1 a2 a3 : Int32) {M : fm_M} (h : Inv M M) : ∃ (v : Int32) (M1 M2 : fm_M), F_X9_rests a1 a2 a3 M = some (v, M1) ∧ F_X10_rests a1 a2 a3 M1 = some (v, M2) ∧ Inv M2 M2 := by
  refine on_gen (F9 := F_X9_rests a1 a2 a3) (F10 := F_X10_rests a1 a2 a3) (fun A B h => by obtain ⟨t, nf, nm, kd, km, h⟩ := h; exact pu_I (pu_rests h a1 a2 a3)) (fun M x e q k z => fr_X9_rests a1 a2 a3 M x e q k (fm_Wlt (by decide) z)) (fun M x e q k z => fr_X10_rests a1 a2 a3 M x e q k (fm_Wge (by decide) z)) h
theorem on_rest (a1 a2 a3 a4 : Int32) {M : fm_M} (h : Inv M M) : ∃ (v : Int32) (M1 M2 : fm_M), F_X9_rest a1 a2 a3 a4 M = some (v, M1) ∧ F_X10_rest a1 a2 a3 a4 M1 = some (v, M2) ∧ Inv M2 M2 := by
  refine on_gen (F9 := F_X9_rest a1 a2 a3 a4) (F10 := F_X10_rest a1 a2 a3 a4) (fun A B h => by obtain ⟨t, nf, nm, kd, km, h⟩ := h; exact pu_I (pu_rest h a1 a2 a3 a4)) (fun M x e q k z => fr_X9_rest a1 a2 a3 a4 M x e q k (fm_Wlt (by decide) z)) (fun M x e q k z => fr_X10_rest a1 a2 a3 a4 M x e q k (fm_Wge (by decide) z)) h
theorem on_likely (a1 a2 : Int32) {M : fm_M} (h : Inv M M) : ∃ (v : Int32) (M1 M2 : fm_M), F_X9_likely a1 a2 M = some (v, M1) ∧ F_X10_likely a1 a2 M1 = some (v, M2) ∧ Inv M2 M2 := by
  refine on_gen (F9 := F_X9_likely a1 a2) (F10 := F_X10_likely a1 a2) (fun A B h => by obtain ⟨t, nf, nm, kd, km, h⟩ := h; exact pu_I (pu_likely h a1 a2)) (fun M x e q k z => fr_X9_likely a1 a2 M x e q k (fm_Wlt (by decide) z)) (fun M x e q k z => fr_X10_likely a1 a2 M x e q k (fm_Wge (by decide) z)) h
theorem on_order (a1 a2 : Int32) {M : fm_M} (h : Inv M M) : ∃ (v : Int32) (M1 M2 : fm_M), F_X9_order a1 a2 M = some (v, M1) ∧ F_X10_order a1 a2 M1 = some (v, M2) ∧ Inv M2 M2 := by
  refine on_gen (F9 := F_X9_order a1 a2) (F10 := F_X10_order a1 a2) (fun A B h => by obtain ⟨t, nf, nm, kd, km, h⟩ := h; exact pu_I (pu_order h a1 a2)) (fun M x e q k z => fr_X9_order a1 a2 M x e q k (fm_Wlt (by decide) z)) (fun M x e q k z => fr_X10_order a1 a2 M x e q k (fm_Wge (by decide) z)) h
theorem on_room (a1 a2 : Int32) {M : fm_M} (h : Inv M M) : ∃ (v : Int32) (M1 M2 : fm_M), F_X9_room a1 a2 M = some (v, M1) ∧ F_X10_room a1 a2 M1 = some (v, M2) ∧ Inv M2 M2 := by
  refine on_gen (F9 := F_X9_room a1 a2) (F10 := F_X10_room a1 a2) (fun A B h => by obtain ⟨t, nf, nm, kd, km, h⟩ := h; exact pu_I (pu_room h a1 a2)) (fun M x e q k z => fr_X9_room a1 a2 M x e q k (fm_Wlt (by decide) z)) (fun M x e q k z => fr_X10_room a1 a2 M x e q k (fm_Wge (by decide) z)) h
theorem on_minute (a1 a2 : Int32) (hb : a2 = 0 ∨ a2 = 1) {M : fm_M} (h : Inv M M) : ∃ (v : Int32) (M1 M2 : fm_M), F_X9_minute a1 a2 M = some (v, M1) ∧ F_X10_minute a1 a2 M1 = some (v, M2) ∧ Inv M2 M2 := by
  refine on_gen (F9 := F_X9_minute a1 a2) (F10 := F_X10_minute a1 a2) (fun A B h => by obtain ⟨t, nf, nm, kd, km, h⟩ := h; exact pI_minute h a1 a2 hb) (fun M x e q k z => fr_X9_minute a1 a2 M x e q k (fm_Wlt (by decide) z)) (fun M x e q k z => fr_X10_minute a1 a2 M x e q k (fm_Wge (by decide) z)) h
theorem on_out (a1 : Int32) {M : fm_M} (h : Inv M M) : ∃ (v : Int32) (M1 M2 : fm_M), F_X9_out a1 M = some (v, M1) ∧ F_X10_out a1 M1 = some (v, M2) ∧ Inv M2 M2 := by
  refine on_gen (F9 := F_X9_out a1) (F10 := F_X10_out a1) (fun A B h => by obtain ⟨t, nf, nm, kd, km, h⟩ := h; exact pI_out h a1) (fun M x e q k z => fr_X9_out a1 M x e q k (fm_Wlt (by decide) z)) (fun M x e q k z => fr_X10_out a1 M x e q k (fm_Wge (by decide) z)) h
theorem on_known (a1 : Int32) {M : fm_M} (h : Inv M M) : ∃ (v : Int32) (M1 M2 : fm_M), F_X9_known a1 M = some (v, M1) ∧ F_X10_known a1 M1 = some (v, M2) ∧ Inv M2 M2 := by
  refine on_gen (F9 := F_X9_known a1) (F10 := F_X10_known a1) (fun A B h => by obtain ⟨t, nf, nm, kd, km, h⟩ := h; exact pI_known h a1) (fun M x e q k z => fr_X9_known a1 M x e q k (fm_Wlt (by decide) z)) (fun M x e q k z => fr_X10_known a1 M x e q k (fm_Wge (by decide) z)) h
theorem on_widths (a1 : Int32) {M : fm_M} (h : Inv M M) : ∃ (v : Int32) (M1 M2 : fm_M), F_X9_widths a1 M = some (v, M1) ∧ F_X10_widths a1 M1 = some (v, M2) ∧ Inv M2 M2 := by
  refine on_gen (F9 := F_X9_widths a1) (F10 := F_X10_widths a1) (fun A B h => by obtain ⟨t, nf, nm, kd, km, h⟩ := h; exact pu_I (pu_widths h a1)) (fun M x e q k z => fr_X9_widths a1 M x e q k (fm_Wlt (by decide) z)) (fun M x e q k z => fr_X10_widths a1 M x e q k (fm_Wge (by decide) z)) h
theorem on_chance (a1 a2 a3 : Int32) {M : fm_M} (h : Inv M M) : ∃ (v : Int32) (M1 M2 : fm_M), F_X9_chance a1 a2 a3 M = some (v, M1) ∧ F_X10_chance a1 a2 a3 M1 = some (v, M2) ∧ Inv M2 M2 := by
  refine on_gen (F9 := F_X9_chance a1 a2 a3) (F10 := F_X10_chance a1 a2 a3) (fun A B h => by obtain ⟨t, nf, nm, kd, km, h⟩ := h; exact pu_I (pu_chance h a1 a2 a3)) (fun M x e q k z => fr_X9_chance a1 a2 a3 M x e q k (fm_Wlt (by decide) z)) (fun M x e q k z => fr_X10_chance a1 a2 a3 M x e q k (fm_Wge (by decide) z)) h
theorem on_tried (a1 a2 a3 : Int32) {M : fm_M} (h : Inv M M) : ∃ (v : Int32) (M1 M2 : fm_M), F_X9_tried a1 a2 a3 M = some (v, M1) ∧ F_X10_tried a1 a2 a3 M1 = some (v, M2) ∧ Inv M2 M2 := by
  refine on_gen (F9 := F_X9_tried a1 a2 a3) (F10 := F_X10_tried a1 a2 a3) (fun A B h => by obtain ⟨t, nf, nm, kd, km, h⟩ := h; exact pI_tried h a1 a2 a3) (fun M x e q k z => fr_X9_tried a1 a2 a3 M x e q k (fm_Wlt (by decide) z)) (fun M x e q k z => fr_X10_tried a1 a2 a3 M x e q k (fm_Wge (by decide) z)) h
theorem on_undo {M : fm_M} (h : Inv M M) : ∃ (v : Int32) (M1 M2 : fm_M), F_X9_undo M = some (v, M1) ∧ F_X10_undo M1 = some (v, M2) ∧ Inv M2 M2 := by
  refine on_gen (F9 := F_X9_undo) (F10 := F_X10_undo) (fun A B h => by obtain ⟨t, nf, nm, kd, km, h⟩ := h; exact pI_undo h) (fun M x e q k z => fr_X9_undo M x e q k (fm_Wlt (by decide) z)) (fun M x e q k z => fr_X10_undo M x e q k (fm_Wge (by decide) z)) h
theorem on_keep {M : fm_M} (h : Inv M M) : ∃ (v : Int32) (M1 M2 : fm_M), F_X9_keep M = some (v, M1) ∧ F_X10_keep M1 = some (v, M2) ∧ Inv M2 M2 := by
  refine on_gen (F9 := F_X9_keep) (F10 := F_X10_keep) (fun A B h => by obtain ⟨t, nf, nm, kd, km, h⟩ := h; exact pI_keep h) (fun M x e q k z => fr_X9_keep M x e q k (fm_Wlt (by decide) z)) (fun M x e q k z => fr_X10_keep M x e q k (fm_Wge (by decide) z)) h
theorem on_back {M : fm_M} (h : Inv M M) : ∃ (v : Int32) (M1 M2 : fm_M), F_X9_back M = some (v, M1) ∧ F_X10_back M1 = some (v, M2) ∧ Inv M2 M2 := by
  refine on_gen (F9 := F_X9_back) (F10 := F_X10_back) (fun A B h => by obtain ⟨t, nf, nm, kd, km, h⟩ := h; exact pI_back h) (fun M x e q k z => fr_X9_back M x e q k (fm_Wlt (by decide) z)) (fun M x e q k z => fr_X10_back M x e q k (fm_Wge (by decide) z)) h
theorem on_count (a1 : Int32) {M : fm_M} (h : Inv M M) : ∃ (v : Int32) (M1 M2 : fm_M), F_X9_count a1 M = some (v, M1) ∧ F_X10_count a1 M1 = some (v, M2) ∧ Inv M2 M2 := by
  refine on_gen (F9 := F_X9_count a1) (F10 := F_X10_count a1) (fun A B h => by obtain ⟨t, nf, nm, kd, km, h⟩ := h; exact pu_I (pu_count h a1)) (fun M x e q k z => fr_X9_count a1 M x e q k (fm_Wlt (by decide) z)) (fun M x e q k z => fr_X10_count a1 M x e q k (fm_Wge (by decide) z)) h
