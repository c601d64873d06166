/-! THE FLAT MEMORY. The world's places are numbered (SHP); a memory says what each place holds, by index. fm_mw d y Q pc L S M: from pc in method y, with locals L, stack S, memory M, with d frames of room, the method returns and Q holds of its answer and its memory. -/
abbrev fm_M : Type := (Nat → Nat → Int32) × (Nat → Nat → Int64)
abbrev fm_I : Type := MethodName × ByteArray × Nat × Option FieldType
def fm_re (ad : Nat → Nat) (v : Value) : Value := match v with
  | .ref q => .ref (ad q)
  | v => v
def fm_v (M : fm_M) (p k : Nat) (kd : Option (Option Nat)) : Value := match kd with
  | none => .int (M.1 p k)
  | some none => if M.1 p k = -1 then .null else .ref (M.1 p k).toNatClampNeg
  | some (some q) => .ref q
def fm_cell (ad : Nat → Nat) (ca : FieldType → ClassId) (M : fm_M) (p : Nat) (sh : fm_S) : va_E := match sh with
  | .inl (ty, n) => .inl (ca ty, n, .inl (M.1 p))
  | .inr (.inl n) => .inl (ca .long, n, .inr (.inl (M.2 p)))
  | .inr (.inr (ci, ks)) => .inr (ci, ks.mapIdx fun k kd => fm_re ad (fm_v M p k kd))
def fm_ws (ad : Nat → Nat) (ca : FieldType → ClassId) (M : fm_M) : va_W := SHP.mapIdx fun p sh => (ad p, fm_cell ad ca M p sh)
def fm_tys (ca : FieldType → ClassId) : List (ClassId × FieldType) := [(ca .int, .int), (ca .long, .long), (ca .byte, .byte), (ca .boolean, .boolean)]
def fm_row (M : fm_M) (p : Nat) (f : Nat → Int32) : fm_M := (va_up M.1 p f, M.2)
def fm_up (M : fm_M) (p k : Nat) (v : Int32) : fm_M := fm_row M p (upd (M.1 p) k v)
def fm_upL (M : fm_M) (p k : Nat) (v : Int64) : fm_M := (M.1, va_up M.2 p (vp_updL (M.2 p) k v))
theorem fm_ws_get {ad : Nat → Nat} {ca : FieldType → ClassId} {M : fm_M} {p : Nat} {sh : fm_S} (h : SHP[p]? = some sh) : (fm_ws ad ca M)[p]? = some (ad p, fm_cell ad ca M p sh) := by
  simp only [fm_ws, List.getElem?_mapIdx, h, Option.map_some]
theorem fm_cell_eq {ad : Nat → Nat} {ca : FieldType → ClassId} {M M' : fm_M} {p : Nat} (sh : fm_S) (h1 : M'.1 p = M.1 p) (h2 : M'.2 p = M.2 p) : fm_cell ad ca M' p sh = fm_cell ad ca M p sh := by
  rcases sh with ⟨ty, n⟩ | n | ⟨ci, ks⟩
  · simp only [fm_cell, h1]
  · simp only [fm_cell, h2]
  · have e : ∀ (k : Nat) (kd : Option (Option Nat)), fm_v M' p k kd = fm_v M p k kd := fun k kd => by
      rcases kd with _ | _ | q <;> simp only [fm_v, h1]
    simp only [fm_cell, e]
theorem fm_ws_set {ad : Nat → Nat} {ca : FieldType → ClassId} {M M' : fm_M} {p : Nat} {sh : fm_S} {x : va_E} (h : SHP[p]? = some sh) (hx : x = fm_cell ad ca M' p sh) (h1 : ∀ q, q ≠ p → M'.1 q = M.1 q ∧ M'.2 q = M.2 q) : (fm_ws ad ca M).set p (ad p, x) = fm_ws ad ca M' := by
  have hl : p < (fm_ws ad ca M).length := (List.getElem?_eq_some_iff.mp (fm_ws_get (ad := ad) (ca := ca) (M := M) h)).1
  apply List.ext_getElem?
  intro k
  by_cases hk : k = p
  · subst hk
    rw [List.getElem?_set_self hl, fm_ws_get h, hx]
  · rw [List.getElem?_set_ne (Ne.symm hk)]
    simp only [fm_ws, List.getElem?_mapIdx]
    cases SHP[k]? with
    | none => rfl
    | some s2 => simp only [Option.map_some, fm_cell_eq s2 (h1 k hk).1 (h1 k hk).2]
theorem fm_row_ne {M : fm_M} {p : Nat} {f : Nat → Int32} : ∀ q, q ≠ p → (fm_row M p f).1 q = M.1 q ∧ (fm_row M p f).2 q = M.2 q := fun q h => ⟨by simp only [fm_row, va_up, if_neg h], rfl⟩
theorem fm_upL_ne {M : fm_M} {p k : Nat} {v : Int64} : ∀ q, q ≠ p → (fm_upL M p k v).1 q = M.1 q ∧ (fm_upL M p k v).2 q = M.2 q := fun q h => ⟨rfl, by simp only [fm_upL, va_up, if_neg h]⟩
theorem fm_row_eq {M : fm_M} {p : Nat} {f : Nat → Int32} : (fm_row M p f).1 p = f := by simp only [fm_row, va_up, if_true]
theorem fm_upL_eq {M : fm_M} {p k : Nat} {v : Int64} : (fm_upL M p k v).2 p = vp_updL (M.2 p) k v := by simp only [fm_upL, va_up, if_true]
/-- an object's field becomes another -/
theorem fm_ws_put {ad : Nat → Nat} {ca : FieldType → ClassId} {M : fm_M} {p ci k : Nat} {ks : List (Option (Option Nat))} {kd : Option (Option Nat)} {v : Int32} {w : Value} (h : SHP[p]? = some (.inr (.inr (ci, ks)))) (hk : ks[k]? = some kd) (hw : w = fm_re ad (fm_v (fm_up M p k v) p k kd)) :
    (fm_ws ad ca M).set p (ad p, .inr (ci, (ks.mapIdx fun k kd => fm_re ad (fm_v M p k kd)).set k w)) = fm_ws ad ca (fm_up M p k v) := by
  refine fm_ws_set h ?_ fm_row_ne
  have e : (ks.mapIdx fun k kd => fm_re ad (fm_v M p k kd)).set k w = ks.mapIdx fun k2 kd => fm_re ad (fm_v (fm_up M p k v) p k2 kd) := by
    have hl : k < (ks.mapIdx fun k kd => fm_re ad (fm_v M p k kd)).length := by rw [List.length_mapIdx]; exact (List.getElem?_eq_some_iff.mp hk).1
    apply List.ext_getElem?
    intro j
    by_cases hj : j = k
    · subst hj
      rw [List.getElem?_set_self hl, List.getElem?_mapIdx, hk, hw]
      rfl
    · rw [List.getElem?_set_ne (Ne.symm hj), List.getElem?_mapIdx, List.getElem?_mapIdx]
      cases ks[j]? with
      | none => rfl
      | some kd2 =>
        have e2 : (fm_up M p k v).1 p j = M.1 p j := by simp only [fm_up, fm_row_eq, upd, if_neg hj]
        have e3 : fm_v (fm_up M p k v) p j kd2 = fm_v M p j kd2 := by rcases kd2 with _ | _ | q <;> simp only [fm_v, e2]
        simp only [Option.map_some, e3]
  rw [e]
  rfl
/-! locals by their places -/
def fm_lv (ad : Nat → Nat) (ls : Array Slot) (nL : Nat) (L : List (Option Value)) : Prop := ls.size = nL ∧ lv_wf ls ∧ ∀ (i : Nat) (v : Value), L[i]? = some (some v) → ls[i]? = some (.val (fm_re ad v))
def fm_al (ad : Nat → Nat) : Nat → List (Option Value) → List (Nat × Value)
  | _, [] => []
  | i, none :: r => fm_al ad (i + 1) r
  | i, some v :: r => (i, fm_re ad v) :: fm_al ad (i + 1) r
theorem fm_al_in {ad : Nat → Nat} : ∀ (L : List (Option Value)) (n : Nat) (q : Nat × Value), q ∈ fm_al ad n L → ∃ (i : Nat) (v : Value), q = (n + i, fm_re ad v) ∧ L[i]? = some (some v)
  | [], n, q, h => by simp [fm_al] at h
  | none :: r, n, q, h => by
    obtain ⟨i, v, h1, h2⟩ := fm_al_in r (n + 1) q h
    exact ⟨i + 1, v, by rw [h1]; simp; omega, by simpa using h2⟩
  | some w :: r, n, q, h => by
    rcases List.mem_cons.mp h with h | h
    · exact ⟨0, w, by simpa using h, by simp⟩
    · obtain ⟨i, v, h1, h2⟩ := fm_al_in r (n + 1) q h
      exact ⟨i + 1, v, by rw [h1]; simp; omega, by simpa using h2⟩
theorem fm_al_of {ad : Nat → Nat} : ∀ (L : List (Option Value)) (n i : Nat) (v : Value), L[i]? = some (some v) → (n + i, fm_re ad v) ∈ fm_al ad n L
  | [], n, i, v, h => by simp at h
  | none :: r, n, 0, v, h => by simp at h
  | none :: r, n, i + 1, v, h => by
    have := fm_al_of (ad := ad) r (n + 1) i v (by simpa using h)
    rw [show n + (i + 1) = n + 1 + i by omega]
    exact this
  | some w :: r, n, 0, v, h => by
    have e : w = v := by simpa using h
    subst e
    exact List.mem_cons_self
  | some w :: r, n, i + 1, v, h => by
    have := fm_al_of (ad := ad) r (n + 1) i v (by simpa using h)
    rw [show n + (i + 1) = n + 1 + i by omega]
    exact List.mem_cons_of_mem _ this
theorem fm_lv_has {ad : Nat → Nat} {ls : Array Slot} {nL : Nat} {L : List (Option Value)} (h : fm_lv ad ls nL L) : lv_has ls nL (fm_al ad 0 L) := by
  refine ⟨h.1, h.2.1, fun q hq => ?_⟩
  obtain ⟨i, v, h1, h2⟩ := fm_al_in L 0 q hq
  rw [h1, Nat.zero_add]
  exact h.2.2 i v h2
def fm_kl (x : Option Value) : Option Value := match x with
  | some (.long _) => none
  | some (.double _) => none
  | x => x
def fm_set (v : Value) : Nat → List (Option Value) → List (Option Value)
  | _, [] => []
  | 0, _ :: r => some v :: r
  | k + 1, x :: r => (if k = 0 then fm_kl x else x) :: fm_set v k r
def fm_set2 (v : Value) : Nat → List (Option Value) → List (Option Value)
  | _, [] => []
  | 0, _ :: r => some v :: (match r with | [] => [] | _ :: t => none :: t)
  | k + 1, x :: r => (if k = 0 then fm_kl x else x) :: fm_set2 v k r
theorem fm_cat (ad : Nat → Nat) (v : Value) : (fm_re ad v).category = v.category := by cases v <;> rfl
theorem fm_kl_some {x : Option Value} {w : Value} (h : fm_kl x = some w) : x = some w ∧ ¬ w.category = 2 := by
  rcases x with _ | x
  · simp [fm_kl] at h
  · cases x <;> simp [fm_kl] at h <;> subst h <;> simp [Value.category]
theorem fm_set_get {v : Value} : ∀ (k : Nat) (L : List (Option Value)) (j : Nat) (w : Value), (fm_set v k L)[j]? = some (some w) → (j = k ∧ w = v) ∨ (j ≠ k ∧ L[j]? = some (some w) ∧ ¬ (j + 1 = k ∧ w.category = 2))
  | k, [], j, w, h => by simp [fm_set] at h
  | 0, x :: r, 0, w, h => by
    have e : v = w := by simpa [fm_set] using h
    exact Or.inl ⟨rfl, e.symm⟩
  | 0, x :: r, j + 1, w, h => Or.inr ⟨by omega, by simpa [fm_set] using h, by omega⟩
  | k + 1, x :: r, 0, w, h => by
    by_cases hk : k = 0
    · have h2 : fm_kl x = some w := by simpa [fm_set, hk] using h
      obtain ⟨a, b⟩ := fm_kl_some h2
      exact Or.inr ⟨by omega, by simpa using a, fun q => b q.2⟩
    · have h2 : x = some w := by simpa [fm_set, hk] using h
      exact Or.inr ⟨by omega, by simpa using h2, by omega⟩
  | k + 1, x :: r, j + 1, w, h => by
    rcases fm_set_get k r j w (by simpa [fm_set] using h) with ⟨a, b⟩ | ⟨a, b, c⟩
    · exact Or.inl ⟨by omega, b⟩
    · exact Or.inr ⟨by omega, by simpa using b, fun q => c ⟨by omega, q.2⟩⟩
theorem fm_set2_get {v : Value} : ∀ (k : Nat) (L : List (Option Value)) (j : Nat) (w : Value), (fm_set2 v k L)[j]? = some (some w) → (j = k ∧ w = v) ∨ (j ≠ k ∧ j ≠ k + 1 ∧ L[j]? = some (some w) ∧ ¬ (j + 1 = k ∧ w.category = 2))
  | k, [], j, w, h => by simp [fm_set2] at h
  | 0, x :: r, 0, w, h => by
    have e : v = w := by simpa [fm_set2] using h
    exact Or.inl ⟨rfl, e.symm⟩
  | 0, x :: [], j + 1, w, h => by simp [fm_set2] at h
  | 0, x :: z :: t, 1, w, h => by simp [fm_set2] at h
  | 0, x :: z :: t, j + 2, w, h => Or.inr ⟨by omega, by omega, by simpa [fm_set2] using h, by omega⟩
  | k + 1, x :: r, 0, w, h => by
    by_cases hk : k = 0
    · have h2 : fm_kl x = some w := by simpa [fm_set2, hk] using h
      obtain ⟨a, b⟩ := fm_kl_some h2
      exact Or.inr ⟨by omega, by omega, by simpa using a, fun q => b q.2⟩
    · have h2 : x = some w := by simpa [fm_set2, hk] using h
      exact Or.inr ⟨by omega, by omega, by simpa using h2, by omega⟩
  | k + 1, x :: r, j + 1, w, h => by
    rcases fm_set2_get k r j w (by simpa [fm_set2] using h) with ⟨a, b⟩ | ⟨a, a2, b, c⟩
    · exact Or.inl ⟨by omega, b⟩
    · exact Or.inr ⟨by omega, by omega, by simpa using b, fun q => c ⟨by omega, q.2⟩⟩
theorem fm_lv_set {ad : Nat → Nat} {ls : Array Slot} {nL i : Nat} {L : List (Option Value)} {v : Value} (h : lv_has ls nL ((i, fm_re ad v) :: (fm_al ad 0 L).filter (fun q => !(q.1 == i) && !(q.1 + 1 == i && q.2.category == 2)))) : fm_lv ad ls nL (fm_set v i L) := by
  refine ⟨h.1, h.2.1, fun j w hj => ?_⟩
  rcases fm_set_get i L j w hj with ⟨rfl, rfl⟩ | ⟨a, b, c⟩
  · exact h.2.2 _ List.mem_cons_self
  · have hm := fm_al_of (ad := ad) L 0 j w b
    rw [Nat.zero_add] at hm
    refine h.2.2 (j, fm_re ad w) (List.mem_cons_of_mem _ (List.mem_filter.mpr ⟨hm, ?_⟩))
    simp only [fm_cat]
    simp only [Bool.and_eq_true, Bool.not_eq_true', beq_eq_false_iff_ne, ne_eq, Bool.and_eq_false_iff]
    refine ⟨a, ?_⟩
    by_cases h1 : j + 1 = i
    · exact Or.inr (fun q => c ⟨h1, q⟩)
    · exact Or.inl h1
theorem fm_lv_set2 {ad : Nat → Nat} {ls : Array Slot} {nL i : Nat} {L : List (Option Value)} {v : Value} (h : lv_has ls nL ((i, fm_re ad v) :: (fm_al ad 0 L).filter (fun q => !(q.1 == i) && (!(q.1 == i + 1) && !(q.1 + 1 == i && q.2.category == 2))))) : fm_lv ad ls nL (fm_set2 v i L) := by
  refine ⟨h.1, h.2.1, fun j w hj => ?_⟩
  rcases fm_set2_get i L j w hj with ⟨rfl, rfl⟩ | ⟨a, a2, b, c⟩
  · exact h.2.2 _ List.mem_cons_self
  · have hm := fm_al_of (ad := ad) L 0 j w b
    rw [Nat.zero_add] at hm
    refine h.2.2 (j, fm_re ad w) (List.mem_cons_of_mem _ (List.mem_filter.mpr ⟨hm, ?_⟩))
    simp only [fm_cat]
    simp only [Bool.and_eq_true, Bool.not_eq_true', beq_eq_false_iff_ne, ne_eq, Bool.and_eq_false_iff]
    refine ⟨a, a2, ?_⟩
    by_cases h1 : j + 1 = i
    · exact Or.inr (fun q => c ⟨h1, q⟩)
    · exact Or.inl h1
/-! a method's entry -/
def fm_en : List Value → List (Option Value)
  | [] => []
  | .long x :: r => some (.long x) :: none :: fm_en r
  | .double x :: r => some (.double x) :: none :: fm_en r
  | v :: r => some v :: fm_en r
def fm_ent (As : List Value) (n : Nat) : List (Option Value) := fm_en As ++ List.replicate (n - (fm_en As).length) none
theorem fm_en_c1 {v : Value} {r : List Value} (h : v.category = 1) : fm_en (v :: r) = some v :: fm_en r := by cases v <;> first | rfl | (simp [Value.category] at h)
theorem fm_en_c2 {v : Value} {r : List Value} (h : v.category = 2) : fm_en (v :: r) = some v :: none :: fm_en r := by cases v <;> first | rfl | (simp [Value.category] at h)
theorem fm_en_len {ad : Nat → Nat} : ∀ (As : List Value), (lg_sl (As.map (fm_re ad))).length = (fm_en As).length
  | [] => rfl
  | v :: r => by
    have ih := fm_en_len (ad := ad) r
    simp only [lg_sl, List.map_cons, List.flatMap_cons, List.length_append, fm_cat] at ih ⊢
    rcases lv_cat v with h | h
    · rw [fm_en_c1 h, if_neg (by omega), ih]; simp; omega
    · rw [fm_en_c2 h, if_pos h, ih]; simp; omega
theorem fm_en_in {ad : Nat → Nat} : ∀ (As : List Value) (n i : Nat) (v : Value), (fm_en As)[i]? = some (some v) → (n + i, fm_re ad v) ∈ lv_args n (As.map (fm_re ad))
  | [], n, i, v, h => by simp [fm_en] at h
  | w :: r, n, i, v, h => by
    rcases lv_cat w with hw | hw
    · rw [fm_en_c1 hw] at h
      rw [List.map_cons, lv_args, if_neg (by rw [fm_cat]; omega)]
      cases i with
      | zero =>
        have e : w = v := by simpa using h
        subst e
        exact List.mem_cons_self
      | succ i =>
        have := fm_en_in (ad := ad) r (n + 1) i v (by simpa using h)
        rw [show n + (i + 1) = n + 1 + i by omega]
        exact List.mem_cons_of_mem _ this
    · rw [fm_en_c2 hw] at h
      rw [List.map_cons, lv_args, if_pos (by rw [fm_cat]; exact hw)]
      match i, h with
      | 0, h =>
        have e : w = v := by simpa using h
        subst e
        exact List.mem_cons_self
      | 1, h => simp at h
      | i + 2, h =>
        have := fm_en_in (ad := ad) r (n + 2) i v (by simpa using h)
        rw [show n + (i + 2) = n + 2 + i by omega]
        exact List.mem_cons_of_mem _ this
theorem fm_lv_ent {ad : Nat → Nat} {As : List Value} {n : Nat} {ls : Array Slot} (h : lv_has ls n (lv_args 0 (As.map (fm_re ad)))) : fm_lv ad ls n (fm_ent As n) := by
  refine ⟨h.1, h.2.1, fun i v hi => ?_⟩
  by_cases hl : i < (fm_en As).length
  · rw [fm_ent, List.getElem?_append_left hl] at hi
    have := fm_en_in (ad := ad) As 0 i v hi
    rw [Nat.zero_add] at this
    exact h.2.2 _ this
  · rw [fm_ent, List.getElem?_append_right (by omega), List.getElem?_replicate] at hi
    split at hi <;> simp at hi
/-! the text of the words, outside the world's places: place 1000 the String, 1001 its bytes, 1002 a function that no run calls -/
def fm_wb : List Int32 := [102, 111, 114, 107, 32, 99, 114, 97, 99, 107, 32, 109, 111, 116, 105, 111, 110, 32, 116, 97, 98, 108, 101, 32, 119, 101, 116, 32, 112, 117, 114, 115, 101, 32, 114, 117, 115, 116, 121, 32, 115, 101, 101, 100, 32, 108, 97, 119, 32, 104, 117, 109, 32, 114, 117, 115, 116, 32, 112, 97, 115, 115, 32, 111, 114, 32, 97, 110, 100, 32, 110, 111, 116, 32, 112, 105, 116, 99, 104, 32, 110, 111, 116, 101, 32, 119, 105, 100, 116, 104, 32, 108, 111, 117, 100, 32, 98, 101, 97, 116, 115, 32, 100, 97, 109, 112, 32, 100, 97, 121, 32]
def fm_str (ad : Nat → Nat) (A : Nat → Prop) (U : State) (H : Heap) : Prop := va_O "java/lang/String" (ad 1000) A U H ∧ va_OF "java/lang/String" "coder" "B" (.int 0) (ad 1000) A U H ∧ va_OF "java/lang/String" "value" "[B" (.ref (ad 1001)) (ad 1000) A U H ∧ va_T .byte (ad 1001) 111 (fun j => .int (fm_wb.getD j 0)) A U H ∧ vk_R "ForkCouncilModel" 173 "fork crack motion table wet purse rusty seed law hum rust pass or and not pitch note width loud beats damp day " (ad 1000) U ∧ va_Z "java/lang/String" "COMPACT_STRINGS" "Z" (.int 1) A U H ∧ (va_Z "jdk/internal/util/Preconditions" "SIOOBE_FORMATTER" "Ljava/util/function/BiFunction;" .null A U H ∨ va_Z "jdk/internal/util/Preconditions" "SIOOBE_FORMATTER" "Ljava/util/function/BiFunction;" (.ref (ad 1002)) A U H)
theorem fm_str.go {ad : Nat → Nat} {A B : Nat → Prop} {s U : State} {H H1 : Heap} (h : fm_str ad A s H) (hq : ∀ a : Nat, a < H.size → ¬ A a → H1[a]? = H[a]?) (hvm : s.vm.Alike U.vm) (hR : vk_R "ForkCouncilModel" 173 "fork crack motion table wet purse rusty seed law hum rust pass or and not pitch note width loud beats damp day " (ad 1000) U) (hAB : ∀ q, B q → A q) : fm_str ad B U H1 := by
  obtain ⟨h1, h2, h3, h4, h5, h6, h7⟩ := h
  refine ⟨((h1.kept hq).moved hvm).narrow hAB, ((h2.kept hq).moved hvm).narrow hAB, ((h3.kept hq).moved hvm).narrow hAB, ((h4.kept hq).moved hvm).narrow hAB, hR, ((h6.kept hq).moved hvm).narrow hAB, ?_⟩
  rcases h7 with h7 | h7
  · exact Or.inl (((h7.kept hq).moved hvm).narrow hAB)
  · exact Or.inr (((h7.kept hq).moved hvm).narrow hAB)
/-! the walk -/
def fm_room (d : Nat) : Room := { frames := d, cells := 0, slots := 0, locals := 64 * d }
def fm_ok (y : fm_I) (p : Program) (s : State) (m : MethodId) (args : Array Value) (meth : Method) (c : Code) (D : va_G) (ad : Nat → Nat) (ca : FieldType → ClassId) (A : Nat → Prop) : Prop :=
  p.tables.exec = Jvm.exec ∧ c.code = y.2.1 ∧ c.maxLocals = y.2.2.1 ∧ meth.sig.returnType = y.2.2.2 ∧ meth.locks = false ∧ s.vm.findClass y.1.cls = some m.cls ∧ (∀ w ∈ fm_gw, w.before args s = true) ∧ va_K D vwCl (fm_tys ca) s ∧ (∀ q, s.heap.size ≤ q → A q) ∧ (∀ w ∈ fm_nw, va_Nw w s) ∧ fm_str ad A s s.heap
def fm_Qc (Q : Option Value → fm_M → Prop) (D : va_G) (ad : Nat → Nat) (ca : FieldType → ClassId) (A : Nat → Prop) : Array Value → State → Outcome → State → Prop := fun _ st oc t =>
  (∃ (r : Option Value) (M : fm_M), oc = .returned (r.map (fm_re ad)) ∧ Q r M ∧ va_P D vwCl (fm_ws ad ca M) t.heap ∧ va_K D vwCl (fm_tys ca) t ∧ va_D A (fm_ws ad ca M)) ∧ va_F A st t
def fm_mw (d : Nat) (y : fm_I) (Q : Option Value → fm_M → Prop) (pc : Nat) (L : List (Option Value)) (S : List Value) (M : fm_M) : Prop :=
  ∀ (p : Program) (l : Launch) (e : Env) (s : State) (m : MethodId) (args : Array Value) (below : List Frame) (meth : Method) (c : Code) (D : va_G) (ad : Nat → Nat) (ca : FieldType → ClassId) (A : Nat → Prop) (H : Heap) (locs : List Loc) (ls : Array Slot),
    fm_ok y p s m args meth c D ad ca A → fm_lv ad ls y.2.2.1 L → va_P D vwCl (fm_ws ad ca M) H → va_D A (fm_ws ad ca M) → va_S A s.heap H locs →
    W p l e (fm_room d) s m args below meth c H locs 0 0 (MQ below (fm_Qc Q D ad ca A) args s 0 0 A) (F0 m pc ls (S.map (fm_re ad)))
/-- what a method does when it is called -/
def fm_ct (d : Nat) (y : fm_I) (As : List Value) (M : fm_M) (Q : Option Value → fm_M → Prop) : Prop := fm_mw d y Q 0 (fm_ent As y.2.2.1) [] M
theorem fm_iconst {d : Nat} {y : fm_I} {Q : Option Value → fm_M → Prop} {pc : Nat} {L : List (Option Value)} {r : List Value} {M : fm_M} {n : Int} (hd : decode y.2.1 pc = .ok (.iconst n, 1)) (k : fm_mw d y Q (pc + 1) L (.int (Int32.ofInt n) :: r) M) : fm_mw d y Q pc L r M :=
  fun p l e s m args below meth c D ad ca A H locs ls C hl hP hD hS => lv_iconst C.1 C.2.1 hd rfl (k p l e s m args below meth c D ad ca A H locs ls C hl hP hD hS)
theorem fm_bipush {d : Nat} {y : fm_I} {Q : Option Value → fm_M → Prop} {pc : Nat} {L : List (Option Value)} {r : List Value} {M : fm_M} {n : Int} (hd : decode y.2.1 pc = .ok (.bipush n, 2)) (k : fm_mw d y Q (pc + 2) L (.int (Int8.ofInt n).toInt32 :: r) M) : fm_mw d y Q pc L r M :=
  fun p l e s m args below meth c D ad ca A H locs ls C hl hP hD hS => lv_bipush C.1 C.2.1 hd rfl (k p l e s m args below meth c D ad ca A H locs ls C hl hP hD hS)
theorem fm_sipush {d : Nat} {y : fm_I} {Q : Option Value → fm_M → Prop} {pc : Nat} {L : List (Option Value)} {r : List Value} {M : fm_M} {n : Int} (hd : decode y.2.1 pc = .ok (.sipush n, 3)) (k : fm_mw d y Q (pc + 3) L (.int (Int16.ofInt n).toInt32 :: r) M) : fm_mw d y Q pc L r M :=
  fun p l e s m args below meth c D ad ca A H locs ls C hl hP hD hS => lv_sipush C.1 C.2.1 hd rfl (k p l e s m args below meth c D ad ca A H locs ls C hl hP hD hS)
theorem fm_lconst {d : Nat} {y : fm_I} {Q : Option Value → fm_M → Prop} {pc : Nat} {L : List (Option Value)} {r : List Value} {M : fm_M} {n : Fin 2} (hd : decode y.2.1 pc = .ok (.lconst n, 1)) (k : fm_mw d y Q (pc + 1) L (.long (Int64.ofNat (n : Nat)) :: r) M) : fm_mw d y Q pc L r M :=
  fun p l e s m args below meth c D ad ca A H locs ls C hl hP hD hS => lv_lconst C.1 C.2.1 hd rfl (k p l e s m args below meth c D ad ca A H locs ls C hl hP hD hS)
theorem fm_iconstv {d : Nat} {y : fm_I} {Q : Option Value → fm_M → Prop} {pc : Nat} {L : List (Option Value)} {r : List Value} {M : fm_M} {n : Int} (v : Int32) (hv : Int32.ofInt n = v) (hd : decode y.2.1 pc = .ok (.iconst n, 1)) (k : fm_mw d y Q (pc + 1) L (.int v :: r) M) : fm_mw d y Q pc L r M :=
  fun p l e s m args below meth c D ad ca A H locs ls C hl hP hD hS => lv_iconst C.1 C.2.1 hd hv (k p l e s m args below meth c D ad ca A H locs ls C hl hP hD hS)
theorem fm_bipushv {d : Nat} {y : fm_I} {Q : Option Value → fm_M → Prop} {pc : Nat} {L : List (Option Value)} {r : List Value} {M : fm_M} {n : Int} (v : Int32) (hv : (Int8.ofInt n).toInt32 = v) (hd : decode y.2.1 pc = .ok (.bipush n, 2)) (k : fm_mw d y Q (pc + 2) L (.int v :: r) M) : fm_mw d y Q pc L r M :=
  fun p l e s m args below meth c D ad ca A H locs ls C hl hP hD hS => lv_bipush C.1 C.2.1 hd hv (k p l e s m args below meth c D ad ca A H locs ls C hl hP hD hS)
theorem fm_sipushv {d : Nat} {y : fm_I} {Q : Option Value → fm_M → Prop} {pc : Nat} {L : List (Option Value)} {r : List Value} {M : fm_M} {n : Int} (v : Int32) (hv : (Int16.ofInt n).toInt32 = v) (hd : decode y.2.1 pc = .ok (.sipush n, 3)) (k : fm_mw d y Q (pc + 3) L (.int v :: r) M) : fm_mw d y Q pc L r M :=
  fun p l e s m args below meth c D ad ca A H locs ls C hl hP hD hS => lv_sipush C.1 C.2.1 hd hv (k p l e s m args below meth c D ad ca A H locs ls C hl hP hD hS)
theorem fm_lconstv {d : Nat} {y : fm_I} {Q : Option Value → fm_M → Prop} {pc : Nat} {L : List (Option Value)} {r : List Value} {M : fm_M} {n : Fin 2} (v : Int64) (hv : Int64.ofNat (n : Nat) = v) (hd : decode y.2.1 pc = .ok (.lconst n, 1)) (k : fm_mw d y Q (pc + 1) L (.long v :: r) M) : fm_mw d y Q pc L r M :=
  fun p l e s m args below meth c D ad ca A H locs ls C hl hP hD hS => lv_lconst C.1 C.2.1 hd hv (k p l e s m args below meth c D ad ca A H locs ls C hl hP hD hS)
theorem fm_iload_n {d : Nat} {y : fm_I} {Q : Option Value → fm_M → Prop} {pc : Nat} {L : List (Option Value)} {r : List Value} {M : fm_M} {n : Fin 4} {x : Int32} (hx : L[(n : Nat)]? = some (some (.int x))) (hd : decode y.2.1 pc = .ok (.iload_n n, 1)) (k : fm_mw d y Q (pc + 1) L (.int x :: r) M) : fm_mw d y Q pc L r M :=
  fun p l e s m args below meth c D ad ca A H locs ls C hl hP hD hS => lv_iload_n C.1 C.2.1 hd rfl (hl.2.2 _ _ hx) (k p l e s m args below meth c D ad ca A H locs ls C hl hP hD hS)
theorem fm_iload {d : Nat} {y : fm_I} {Q : Option Value → fm_M → Prop} {pc : Nat} {L : List (Option Value)} {r : List Value} {M : fm_M} {n : Nat} {x : Int32} (hx : L[n]? = some (some (.int x))) (hd : decode y.2.1 pc = .ok (.iload n, 2)) (k : fm_mw d y Q (pc + 2) L (.int x :: r) M) : fm_mw d y Q pc L r M :=
  fun p l e s m args below meth c D ad ca A H locs ls C hl hP hD hS => lv_iload C.1 C.2.1 hd (hl.2.2 _ _ hx) (k p l e s m args below meth c D ad ca A H locs ls C hl hP hD hS)
theorem fm_lload_n {d : Nat} {y : fm_I} {Q : Option Value → fm_M → Prop} {pc : Nat} {L : List (Option Value)} {r : List Value} {M : fm_M} {n : Fin 4} {x : Int64} (hx : L[(n : Nat)]? = some (some (.long x))) (hd : decode y.2.1 pc = .ok (.lload_n n, 1)) (k : fm_mw d y Q (pc + 1) L (.long x :: r) M) : fm_mw d y Q pc L r M :=
  fun p l e s m args below meth c D ad ca A H locs ls C hl hP hD hS => lv_lload_n C.1 C.2.1 hd rfl (hl.2.2 _ _ hx) (k p l e s m args below meth c D ad ca A H locs ls C hl hP hD hS)
theorem fm_lload {d : Nat} {y : fm_I} {Q : Option Value → fm_M → Prop} {pc : Nat} {L : List (Option Value)} {r : List Value} {M : fm_M} {n : Nat} {x : Int64} (hx : L[n]? = some (some (.long x))) (hd : decode y.2.1 pc = .ok (.lload n, 2)) (k : fm_mw d y Q (pc + 2) L (.long x :: r) M) : fm_mw d y Q pc L r M :=
  fun p l e s m args below meth c D ad ca A H locs ls C hl hP hD hS => lv_lload C.1 C.2.1 hd (hl.2.2 _ _ hx) (k p l e s m args below meth c D ad ca A H locs ls C hl hP hD hS)
theorem fm_aload_n {d : Nat} {y : fm_I} {Q : Option Value → fm_M → Prop} {pc : Nat} {L : List (Option Value)} {r : List Value} {M : fm_M} {n : Fin 4} {x : Nat} (hx : L[(n : Nat)]? = some (some (.ref x))) (hd : decode y.2.1 pc = .ok (.aload_n n, 1)) (k : fm_mw d y Q (pc + 1) L (.ref x :: r) M) : fm_mw d y Q pc L r M :=
  fun p l e s m args below meth c D ad ca A H locs ls C hl hP hD hS => lv_aload_n C.1 C.2.1 hd rfl (hl.2.2 _ _ hx) (k p l e s m args below meth c D ad ca A H locs ls C hl hP hD hS)
theorem fm_aload {d : Nat} {y : fm_I} {Q : Option Value → fm_M → Prop} {pc : Nat} {L : List (Option Value)} {r : List Value} {M : fm_M} {n : Nat} {x : Nat} (hx : L[n]? = some (some (.ref x))) (hd : decode y.2.1 pc = .ok (.aload n, 2)) (k : fm_mw d y Q (pc + 2) L (.ref x :: r) M) : fm_mw d y Q pc L r M :=
  fun p l e s m args below meth c D ad ca A H locs ls C hl hP hD hS => lv_aload C.1 C.2.1 hd (hl.2.2 _ _ hx) (k p l e s m args below meth c D ad ca A H locs ls C hl hP hD hS)
theorem fm_istore_n {d : Nat} {y : fm_I} {Q : Option Value → fm_M → Prop} {pc : Nat} {L : List (Option Value)} {r : List Value} {M : fm_M} {n : Fin 4} {x : Int32} (L' : List (Option Value)) (hL : fm_set (.int x) (n : Nat) L = L') (hn : (n : Nat) < y.2.2.1) (hd : decode y.2.1 pc = .ok (.istore_n n, 1)) (k : fm_mw d y Q (pc + 1) L' r M) : fm_mw d y Q pc L (.int x :: r) M :=
  fun p l e s m args below meth c D ad ca A H locs ls C hl hP hD hS => lv_istore_n C.1 C.2.1 hd rfl (fm_lv_has hl) hn rfl (fun ls hl2 => k p l e s m args below meth c D ad ca A H locs ls C (hL ▸ fm_lv_set hl2) hP hD hS)
theorem fm_istore {d : Nat} {y : fm_I} {Q : Option Value → fm_M → Prop} {pc : Nat} {L : List (Option Value)} {r : List Value} {M : fm_M} {n : Nat} {x : Int32} (L' : List (Option Value)) (hL : fm_set (.int x) n L = L') (hn : n < y.2.2.1) (hd : decode y.2.1 pc = .ok (.istore n, 2)) (k : fm_mw d y Q (pc + 2) L' r M) : fm_mw d y Q pc L (.int x :: r) M :=
  fun p l e s m args below meth c D ad ca A H locs ls C hl hP hD hS => lv_istore C.1 C.2.1 hd (fm_lv_has hl) hn rfl (fun ls hl2 => k p l e s m args below meth c D ad ca A H locs ls C (hL ▸ fm_lv_set hl2) hP hD hS)
theorem fm_astore_n {d : Nat} {y : fm_I} {Q : Option Value → fm_M → Prop} {pc : Nat} {L : List (Option Value)} {r : List Value} {M : fm_M} {n : Fin 4} {x : Nat} (L' : List (Option Value)) (hL : fm_set (.ref x) (n : Nat) L = L') (hn : (n : Nat) < y.2.2.1) (hd : decode y.2.1 pc = .ok (.astore_n n, 1)) (k : fm_mw d y Q (pc + 1) L' r M) : fm_mw d y Q pc L (.ref x :: r) M :=
  fun p l e s m args below meth c D ad ca A H locs ls C hl hP hD hS => lv_astore_n C.1 C.2.1 hd rfl (fm_lv_has hl) hn rfl (fun ls hl2 => k p l e s m args below meth c D ad ca A H locs ls C (hL ▸ fm_lv_set hl2) hP hD hS)
theorem fm_astore {d : Nat} {y : fm_I} {Q : Option Value → fm_M → Prop} {pc : Nat} {L : List (Option Value)} {r : List Value} {M : fm_M} {n : Nat} {x : Nat} (L' : List (Option Value)) (hL : fm_set (.ref x) n L = L') (hn : n < y.2.2.1) (hd : decode y.2.1 pc = .ok (.astore n, 2)) (k : fm_mw d y Q (pc + 2) L' r M) : fm_mw d y Q pc L (.ref x :: r) M :=
  fun p l e s m args below meth c D ad ca A H locs ls C hl hP hD hS => lv_astore C.1 C.2.1 hd (fm_lv_has hl) hn rfl (fun ls hl2 => k p l e s m args below meth c D ad ca A H locs ls C (hL ▸ fm_lv_set hl2) hP hD hS)
theorem fm_lstore_n {d : Nat} {y : fm_I} {Q : Option Value → fm_M → Prop} {pc : Nat} {L : List (Option Value)} {r : List Value} {M : fm_M} {n : Fin 4} {x : Int64} (L' : List (Option Value)) (hL : fm_set2 (.long x) (n : Nat) L = L') (hn : (n : Nat) + 1 < y.2.2.1) (hd : decode y.2.1 pc = .ok (.lstore_n n, 1)) (k : fm_mw d y Q (pc + 1) L' r M) : fm_mw d y Q pc L (.long x :: r) M :=
  fun p l e s m args below meth c D ad ca A H locs ls C hl hP hD hS => lv_lstore_n C.1 C.2.1 hd rfl (fm_lv_has hl) hn rfl (fun ls hl2 => k p l e s m args below meth c D ad ca A H locs ls C (hL ▸ fm_lv_set2 hl2) hP hD hS)
theorem fm_lstore {d : Nat} {y : fm_I} {Q : Option Value → fm_M → Prop} {pc : Nat} {L : List (Option Value)} {r : List Value} {M : fm_M} {n : Nat} {x : Int64} (L' : List (Option Value)) (hL : fm_set2 (.long x) n L = L') (hn : n + 1 < y.2.2.1) (hd : decode y.2.1 pc = .ok (.lstore n, 2)) (k : fm_mw d y Q (pc + 2) L' r M) : fm_mw d y Q pc L (.long x :: r) M :=
  fun p l e s m args below meth c D ad ca A H locs ls C hl hP hD hS => lv_lstore C.1 C.2.1 hd (fm_lv_has hl) hn rfl (fun ls hl2 => k p l e s m args below meth c D ad ca A H locs ls C (hL ▸ fm_lv_set2 hl2) hP hD hS)
theorem fm_al_at {ad : Nat → Nat} {L : List (Option Value)} {i : Nat} {v : Value} (h : L[i]? = some (some v)) : ∃ k : Nat, (fm_al ad 0 L)[k]? = some (i, fm_re ad v) := by
  have := fm_al_of (ad := ad) L 0 i v h
  rw [Nat.zero_add] at this
  exact List.getElem?_of_mem this
theorem fm_iinc {d : Nat} {y : fm_I} {Q : Option Value → fm_M → Prop} {pc : Nat} {L : List (Option Value)} {r : List Value} {M : fm_M} {n : Nat} {w : Int} {x : Int32} (hx : L[n]? = some (some (.int x))) (L' : List (Option Value)) (hL : fm_set (.int (x + Int32.ofInt w)) n L = L') (hn : n < y.2.2.1) (hd : decode y.2.1 pc = .ok (.iinc n w, 3)) (k : fm_mw d y Q (pc + 3) L' r M) : fm_mw d y Q pc L r M := by
  intro p l e s m args below meth c D ad ca A H locs ls C hl hP hD hS
  obtain ⟨kx, hkx⟩ := fm_al_at (ad := ad) hx
  exact lv_iinc C.1 C.2.1 hd (fm_lv_has hl) hkx rfl hn rfl (fun ls hl2 => k p l e s m args below meth c D ad ca A H locs ls C (hL ▸ fm_lv_set (v := .int (x + Int32.ofInt w)) hl2) hP hD hS)
theorem fm_iadd {d : Nat} {y : fm_I} {Q : Option Value → fm_M → Prop} {pc : Nat} {L : List (Option Value)} {r : List Value} {M : fm_M} {x z : Int32} (hd : decode y.2.1 pc = .ok (.iadd, 1)) (k : fm_mw d y Q (pc + 1) L (.int (x + z) :: r) M) : fm_mw d y Q pc L (.int z :: .int x :: r) M :=
  fun p l e s m args below meth c D ad ca A H locs ls C hl hP hD hS => lv_iadd C.1 C.2.1 hd (k p l e s m args below meth c D ad ca A H locs ls C hl hP hD hS)
theorem fm_isub {d : Nat} {y : fm_I} {Q : Option Value → fm_M → Prop} {pc : Nat} {L : List (Option Value)} {r : List Value} {M : fm_M} {x z : Int32} (hd : decode y.2.1 pc = .ok (.isub, 1)) (k : fm_mw d y Q (pc + 1) L (.int (x - z) :: r) M) : fm_mw d y Q pc L (.int z :: .int x :: r) M :=
  fun p l e s m args below meth c D ad ca A H locs ls C hl hP hD hS => lv_isub C.1 C.2.1 hd (k p l e s m args below meth c D ad ca A H locs ls C hl hP hD hS)
theorem fm_imul {d : Nat} {y : fm_I} {Q : Option Value → fm_M → Prop} {pc : Nat} {L : List (Option Value)} {r : List Value} {M : fm_M} {x z : Int32} (hd : decode y.2.1 pc = .ok (.imul, 1)) (k : fm_mw d y Q (pc + 1) L (.int (x * z) :: r) M) : fm_mw d y Q pc L (.int z :: .int x :: r) M :=
  fun p l e s m args below meth c D ad ca A H locs ls C hl hP hD hS => lv_imul C.1 C.2.1 hd (k p l e s m args below meth c D ad ca A H locs ls C hl hP hD hS)
theorem fm_iand {d : Nat} {y : fm_I} {Q : Option Value → fm_M → Prop} {pc : Nat} {L : List (Option Value)} {r : List Value} {M : fm_M} {x z : Int32} (hd : decode y.2.1 pc = .ok (.iand, 1)) (k : fm_mw d y Q (pc + 1) L (.int (x &&& z) :: r) M) : fm_mw d y Q pc L (.int z :: .int x :: r) M :=
  fun p l e s m args below meth c D ad ca A H locs ls C hl hP hD hS => lv_iand C.1 C.2.1 hd (k p l e s m args below meth c D ad ca A H locs ls C hl hP hD hS)
theorem fm_ior {d : Nat} {y : fm_I} {Q : Option Value → fm_M → Prop} {pc : Nat} {L : List (Option Value)} {r : List Value} {M : fm_M} {x z : Int32} (hd : decode y.2.1 pc = .ok (.ior, 1)) (k : fm_mw d y Q (pc + 1) L (.int (x ||| z) :: r) M) : fm_mw d y Q pc L (.int z :: .int x :: r) M :=
  fun p l e s m args below meth c D ad ca A H locs ls C hl hP hD hS => lv_ior C.1 C.2.1 hd (k p l e s m args below meth c D ad ca A H locs ls C hl hP hD hS)
theorem fm_ixor {d : Nat} {y : fm_I} {Q : Option Value → fm_M → Prop} {pc : Nat} {L : List (Option Value)} {r : List Value} {M : fm_M} {x z : Int32} (hd : decode y.2.1 pc = .ok (.ixor, 1)) (k : fm_mw d y Q (pc + 1) L (.int (x ^^^ z) :: r) M) : fm_mw d y Q pc L (.int z :: .int x :: r) M :=
  fun p l e s m args below meth c D ad ca A H locs ls C hl hP hD hS => lv_ixor C.1 C.2.1 hd (k p l e s m args below meth c D ad ca A H locs ls C hl hP hD hS)
theorem fm_ishl {d : Nat} {y : fm_I} {Q : Option Value → fm_M → Prop} {pc : Nat} {L : List (Option Value)} {r : List Value} {M : fm_M} {x z : Int32} (hd : decode y.2.1 pc = .ok (.ishl, 1)) (k : fm_mw d y Q (pc + 1) L (.int (x <<< (z &&& 31)) :: r) M) : fm_mw d y Q pc L (.int z :: .int x :: r) M :=
  fun p l e s m args below meth c D ad ca A H locs ls C hl hP hD hS => lv_ishl C.1 C.2.1 hd (k p l e s m args below meth c D ad ca A H locs ls C hl hP hD hS)
theorem fm_ishr {d : Nat} {y : fm_I} {Q : Option Value → fm_M → Prop} {pc : Nat} {L : List (Option Value)} {r : List Value} {M : fm_M} {x z : Int32} (hd : decode y.2.1 pc = .ok (.ishr, 1)) (k : fm_mw d y Q (pc + 1) L (.int (x >>> (z &&& 31)) :: r) M) : fm_mw d y Q pc L (.int z :: .int x :: r) M :=
  fun p l e s m args below meth c D ad ca A H locs ls C hl hP hD hS => lv_ishr C.1 C.2.1 hd (k p l e s m args below meth c D ad ca A H locs ls C hl hP hD hS)
theorem fm_iushr {d : Nat} {y : fm_I} {Q : Option Value → fm_M → Prop} {pc : Nat} {L : List (Option Value)} {r : List Value} {M : fm_M} {x z : Int32} (hd : decode y.2.1 pc = .ok (.iushr, 1)) (k : fm_mw d y Q (pc + 1) L (.int (x.toUInt32 >>> (z.toUInt32 &&& Int32.toUInt32 31)).toInt32 :: r) M) : fm_mw d y Q pc L (.int z :: .int x :: r) M :=
  fun p l e s m args below meth c D ad ca A H locs ls C hl hP hD hS => lv_iushr C.1 C.2.1 hd rfl (k p l e s m args below meth c D ad ca A H locs ls C hl hP hD hS)
theorem fm_idiv {d : Nat} {y : fm_I} {Q : Option Value → fm_M → Prop} {pc : Nat} {L : List (Option Value)} {r : List Value} {M : fm_M} {x z : Int32} (hz : ¬ z = 0) (hd : decode y.2.1 pc = .ok (.idiv, 1)) (k : fm_mw d y Q (pc + 1) L (.int (x / z) :: r) M) : fm_mw d y Q pc L (.int z :: .int x :: r) M :=
  fun p l e s m args below meth c D ad ca A H locs ls C hl hP hD hS => lv_idiv C.1 C.2.1 hd hz (k p l e s m args below meth c D ad ca A H locs ls C hl hP hD hS)
theorem fm_irem {d : Nat} {y : fm_I} {Q : Option Value → fm_M → Prop} {pc : Nat} {L : List (Option Value)} {r : List Value} {M : fm_M} {x z : Int32} (hz : ¬ z = 0) (hd : decode y.2.1 pc = .ok (.irem, 1)) (k : fm_mw d y Q (pc + 1) L (.int (x - x / z * z) :: r) M) : fm_mw d y Q pc L (.int z :: .int x :: r) M :=
  fun p l e s m args below meth c D ad ca A H locs ls C hl hP hD hS => lv_irem C.1 C.2.1 hd hz (k p l e s m args below meth c D ad ca A H locs ls C hl hP hD hS)
theorem fm_ineg {d : Nat} {y : fm_I} {Q : Option Value → fm_M → Prop} {pc : Nat} {L : List (Option Value)} {r : List Value} {M : fm_M} {x : Int32} (hd : decode y.2.1 pc = .ok (.ineg, 1)) (k : fm_mw d y Q (pc + 1) L (.int (-x) :: r) M) : fm_mw d y Q pc L (.int x :: r) M :=
  fun p l e s m args below meth c D ad ca A H locs ls C hl hP hD hS => lv_ineg C.1 C.2.1 hd (k p l e s m args below meth c D ad ca A H locs ls C hl hP hD hS)
theorem fm_ladd {d : Nat} {y : fm_I} {Q : Option Value → fm_M → Prop} {pc : Nat} {L : List (Option Value)} {r : List Value} {M : fm_M} {x z : Int64} (hd : decode y.2.1 pc = .ok (.ladd, 1)) (k : fm_mw d y Q (pc + 1) L (.long (x + z) :: r) M) : fm_mw d y Q pc L (.long z :: .long x :: r) M :=
  fun p l e s m args below meth c D ad ca A H locs ls C hl hP hD hS => lv_ladd C.1 C.2.1 hd (k p l e s m args below meth c D ad ca A H locs ls C hl hP hD hS)
theorem fm_lsub {d : Nat} {y : fm_I} {Q : Option Value → fm_M → Prop} {pc : Nat} {L : List (Option Value)} {r : List Value} {M : fm_M} {x z : Int64} (hd : decode y.2.1 pc = .ok (.lsub, 1)) (k : fm_mw d y Q (pc + 1) L (.long (x - z) :: r) M) : fm_mw d y Q pc L (.long z :: .long x :: r) M :=
  fun p l e s m args below meth c D ad ca A H locs ls C hl hP hD hS => lv_lsub C.1 C.2.1 hd (k p l e s m args below meth c D ad ca A H locs ls C hl hP hD hS)
theorem fm_lmul {d : Nat} {y : fm_I} {Q : Option Value → fm_M → Prop} {pc : Nat} {L : List (Option Value)} {r : List Value} {M : fm_M} {x z : Int64} (hd : decode y.2.1 pc = .ok (.lmul, 1)) (k : fm_mw d y Q (pc + 1) L (.long (x * z) :: r) M) : fm_mw d y Q pc L (.long z :: .long x :: r) M :=
  fun p l e s m args below meth c D ad ca A H locs ls C hl hP hD hS => lv_lmul C.1 C.2.1 hd (k p l e s m args below meth c D ad ca A H locs ls C hl hP hD hS)
theorem fm_ldiv {d : Nat} {y : fm_I} {Q : Option Value → fm_M → Prop} {pc : Nat} {L : List (Option Value)} {r : List Value} {M : fm_M} {x z : Int64} (hz : ¬ z = 0) (hd : decode y.2.1 pc = .ok (.ldiv, 1)) (k : fm_mw d y Q (pc + 1) L (.long (x / z) :: r) M) : fm_mw d y Q pc L (.long z :: .long x :: r) M :=
  fun p l e s m args below meth c D ad ca A H locs ls C hl hP hD hS => lv_ldiv C.1 C.2.1 hd hz (k p l e s m args below meth c D ad ca A H locs ls C hl hP hD hS)
theorem fm_i2l {d : Nat} {y : fm_I} {Q : Option Value → fm_M → Prop} {pc : Nat} {L : List (Option Value)} {r : List Value} {M : fm_M} {x : Int32} (hd : decode y.2.1 pc = .ok (.i2l, 1)) (k : fm_mw d y Q (pc + 1) L (.long x.toInt64 :: r) M) : fm_mw d y Q pc L (.int x :: r) M :=
  fun p l e s m args below meth c D ad ca A H locs ls C hl hP hD hS => lv_i2l C.1 C.2.1 hd rfl (k p l e s m args below meth c D ad ca A H locs ls C hl hP hD hS)
theorem fm_l2i {d : Nat} {y : fm_I} {Q : Option Value → fm_M → Prop} {pc : Nat} {L : List (Option Value)} {r : List Value} {M : fm_M} {x : Int64} (hd : decode y.2.1 pc = .ok (.l2i, 1)) (k : fm_mw d y Q (pc + 1) L (.int x.toInt32 :: r) M) : fm_mw d y Q pc L (.long x :: r) M :=
  fun p l e s m args below meth c D ad ca A H locs ls C hl hP hD hS => lv_l2i C.1 C.2.1 hd rfl (k p l e s m args below meth c D ad ca A H locs ls C hl hP hD hS)
theorem fm_i2b {d : Nat} {y : fm_I} {Q : Option Value → fm_M → Prop} {pc : Nat} {L : List (Option Value)} {r : List Value} {M : fm_M} {x : Int32} (hd : decode y.2.1 pc = .ok (.i2b, 1)) (k : fm_mw d y Q (pc + 1) L (.int x.toInt8.toInt32 :: r) M) : fm_mw d y Q pc L (.int x :: r) M :=
  fun p l e s m args below meth c D ad ca A H locs ls C hl hP hD hS => lv_i2b C.1 C.2.1 hd rfl (k p l e s m args below meth c D ad ca A H locs ls C hl hP hD hS)
theorem fm_lcmp {d : Nat} {y : fm_I} {Q : Option Value → fm_M → Prop} {pc : Nat} {L : List (Option Value)} {r : List Value} {M : fm_M} {x z : Int64} (hd : decode y.2.1 pc = .ok (.lcmp, 1)) (k : fm_mw d y Q (pc + 1) L (.int (lg_cmp x z) :: r) M) : fm_mw d y Q pc L (.long z :: .long x :: r) M :=
  fun p l e s m args below meth c D ad ca A H locs ls C hl hP hD hS => W.lcmp C.1 C.2.1 hd (k p l e s m args below meth c D ad ca A H locs ls C hl hP hD hS)
theorem fm_dup {d : Nat} {y : fm_I} {Q : Option Value → fm_M → Prop} {pc : Nat} {L : List (Option Value)} {r : List Value} {M : fm_M} {v : Value} (hv : v.category = 1) (hd : decode y.2.1 pc = .ok (.dup, 1)) (k : fm_mw d y Q (pc + 1) L (v :: v :: r) M) : fm_mw d y Q pc L (v :: r) M :=
  fun p l e s m args below meth c D ad ca A H locs ls C hl hP hD hS => lv_dup C.1 C.2.1 hd (by rw [fm_cat]; exact hv) (k p l e s m args below meth c D ad ca A H locs ls C hl hP hD hS)
theorem fm_dup2 {d : Nat} {y : fm_I} {Q : Option Value → fm_M → Prop} {pc : Nat} {L : List (Option Value)} {r : List Value} {M : fm_M} {v w : Value} (hv : v.category = 1) (hw : w.category = 1) (hd : decode y.2.1 pc = .ok (.dup2, 1)) (k : fm_mw d y Q (pc + 1) L (v :: w :: v :: w :: r) M) : fm_mw d y Q pc L (v :: w :: r) M :=
  fun p l e s m args below meth c D ad ca A H locs ls C hl hP hD hS => lv_dup2_11 C.1 C.2.1 hd (by rw [fm_cat]; exact hv) (by rw [fm_cat]; exact hw) (k p l e s m args below meth c D ad ca A H locs ls C hl hP hD hS)
theorem fm_pop {d : Nat} {y : fm_I} {Q : Option Value → fm_M → Prop} {pc : Nat} {L : List (Option Value)} {r : List Value} {M : fm_M} {v : Value} (hv : v.category = 1) (hd : decode y.2.1 pc = .ok (.pop, 1)) (k : fm_mw d y Q (pc + 1) L r M) : fm_mw d y Q pc L (v :: r) M :=
  fun p l e s m args below meth c D ad ca A H locs ls C hl hP hD hS => lv_pop C.1 C.2.1 hd (by rw [fm_cat]; exact hv) (k p l e s m args below meth c D ad ca A H locs ls C hl hP hD hS)
theorem fm_if_eq {d : Nat} {y : fm_I} {Q : Option Value → fm_M → Prop} {pc : Nat} {L : List (Option Value)} {r : List Value} {M : fm_M} {x : Int32} {off : Int} (tgt : Nat) (ht : (pc : Int) + off = (tgt : Int)) (hd : decode y.2.1 pc = .ok (.ifCond .eq off, 3)) (kt : x = 0 → fm_mw d y Q tgt L r M) (kf : ¬ (x = 0) → fm_mw d y Q (pc + 3) L r M) : fm_mw d y Q pc L (.int x :: r) M :=
  fun p l e s m args below meth c D ad ca A H locs ls C hl hP hD hS => lv_if_eq C.1 C.2.1 hd ht (fun q => kt q p l e s m args below meth c D ad ca A H locs ls C hl hP hD hS) (fun q => kf q p l e s m args below meth c D ad ca A H locs ls C hl hP hD hS)
theorem fm_icmp_eq {d : Nat} {y : fm_I} {Q : Option Value → fm_M → Prop} {pc : Nat} {L : List (Option Value)} {r : List Value} {M : fm_M} {x z : Int32} {off : Int} (tgt : Nat) (ht : (pc : Int) + off = (tgt : Int)) (hd : decode y.2.1 pc = .ok (.if_icmp .eq off, 3)) (kt : x = z → fm_mw d y Q tgt L r M) (kf : ¬ (x = z) → fm_mw d y Q (pc + 3) L r M) : fm_mw d y Q pc L (.int z :: .int x :: r) M :=
  fun p l e s m args below meth c D ad ca A H locs ls C hl hP hD hS => lv_icmp_eq C.1 C.2.1 hd ht (fun q => kt q p l e s m args below meth c D ad ca A H locs ls C hl hP hD hS) (fun q => kf q p l e s m args below meth c D ad ca A H locs ls C hl hP hD hS)
theorem fm_if_ne {d : Nat} {y : fm_I} {Q : Option Value → fm_M → Prop} {pc : Nat} {L : List (Option Value)} {r : List Value} {M : fm_M} {x : Int32} {off : Int} (tgt : Nat) (ht : (pc : Int) + off = (tgt : Int)) (hd : decode y.2.1 pc = .ok (.ifCond .ne off, 3)) (kt : ¬ x = 0 → fm_mw d y Q tgt L r M) (kf : x = 0 → fm_mw d y Q (pc + 3) L r M) : fm_mw d y Q pc L (.int x :: r) M :=
  fun p l e s m args below meth c D ad ca A H locs ls C hl hP hD hS => lv_if_ne C.1 C.2.1 hd ht (fun q => kt q p l e s m args below meth c D ad ca A H locs ls C hl hP hD hS) (fun q => kf q p l e s m args below meth c D ad ca A H locs ls C hl hP hD hS)
theorem fm_icmp_ne {d : Nat} {y : fm_I} {Q : Option Value → fm_M → Prop} {pc : Nat} {L : List (Option Value)} {r : List Value} {M : fm_M} {x z : Int32} {off : Int} (tgt : Nat) (ht : (pc : Int) + off = (tgt : Int)) (hd : decode y.2.1 pc = .ok (.if_icmp .ne off, 3)) (kt : ¬ x = z → fm_mw d y Q tgt L r M) (kf : x = z → fm_mw d y Q (pc + 3) L r M) : fm_mw d y Q pc L (.int z :: .int x :: r) M :=
  fun p l e s m args below meth c D ad ca A H locs ls C hl hP hD hS => lv_icmp_ne C.1 C.2.1 hd ht (fun q => kt q p l e s m args below meth c D ad ca A H locs ls C hl hP hD hS) (fun q => kf q p l e s m args below meth c D ad ca A H locs ls C hl hP hD hS)
theorem fm_if_lt {d : Nat} {y : fm_I} {Q : Option Value → fm_M → Prop} {pc : Nat} {L : List (Option Value)} {r : List Value} {M : fm_M} {x : Int32} {off : Int} (tgt : Nat) (ht : (pc : Int) + off = (tgt : Int)) (hd : decode y.2.1 pc = .ok (.ifCond .lt off, 3)) (kt : x < 0 → fm_mw d y Q tgt L r M) (kf : ¬ (x < 0) → fm_mw d y Q (pc + 3) L r M) : fm_mw d y Q pc L (.int x :: r) M :=
  fun p l e s m args below meth c D ad ca A H locs ls C hl hP hD hS => lv_if_lt C.1 C.2.1 hd ht (fun q => kt q p l e s m args below meth c D ad ca A H locs ls C hl hP hD hS) (fun q => kf q p l e s m args below meth c D ad ca A H locs ls C hl hP hD hS)
theorem fm_icmp_lt {d : Nat} {y : fm_I} {Q : Option Value → fm_M → Prop} {pc : Nat} {L : List (Option Value)} {r : List Value} {M : fm_M} {x z : Int32} {off : Int} (tgt : Nat) (ht : (pc : Int) + off = (tgt : Int)) (hd : decode y.2.1 pc = .ok (.if_icmp .lt off, 3)) (kt : x < z → fm_mw d y Q tgt L r M) (kf : ¬ (x < z) → fm_mw d y Q (pc + 3) L r M) : fm_mw d y Q pc L (.int z :: .int x :: r) M :=
  fun p l e s m args below meth c D ad ca A H locs ls C hl hP hD hS => lv_icmp_lt C.1 C.2.1 hd ht (fun q => kt q p l e s m args below meth c D ad ca A H locs ls C hl hP hD hS) (fun q => kf q p l e s m args below meth c D ad ca A H locs ls C hl hP hD hS)
theorem fm_if_ge {d : Nat} {y : fm_I} {Q : Option Value → fm_M → Prop} {pc : Nat} {L : List (Option Value)} {r : List Value} {M : fm_M} {x : Int32} {off : Int} (tgt : Nat) (ht : (pc : Int) + off = (tgt : Int)) (hd : decode y.2.1 pc = .ok (.ifCond .ge off, 3)) (kt : 0 ≤ x → fm_mw d y Q tgt L r M) (kf : ¬ (0 ≤ x) → fm_mw d y Q (pc + 3) L r M) : fm_mw d y Q pc L (.int x :: r) M :=
  fun p l e s m args below meth c D ad ca A H locs ls C hl hP hD hS => lv_if_ge C.1 C.2.1 hd ht (fun q => kt q p l e s m args below meth c D ad ca A H locs ls C hl hP hD hS) (fun q => kf q p l e s m args below meth c D ad ca A H locs ls C hl hP hD hS)
theorem fm_icmp_ge {d : Nat} {y : fm_I} {Q : Option Value → fm_M → Prop} {pc : Nat} {L : List (Option Value)} {r : List Value} {M : fm_M} {x z : Int32} {off : Int} (tgt : Nat) (ht : (pc : Int) + off = (tgt : Int)) (hd : decode y.2.1 pc = .ok (.if_icmp .ge off, 3)) (kt : z ≤ x → fm_mw d y Q tgt L r M) (kf : ¬ (z ≤ x) → fm_mw d y Q (pc + 3) L r M) : fm_mw d y Q pc L (.int z :: .int x :: r) M :=
  fun p l e s m args below meth c D ad ca A H locs ls C hl hP hD hS => lv_icmp_ge C.1 C.2.1 hd ht (fun q => kt q p l e s m args below meth c D ad ca A H locs ls C hl hP hD hS) (fun q => kf q p l e s m args below meth c D ad ca A H locs ls C hl hP hD hS)
theorem fm_if_gt {d : Nat} {y : fm_I} {Q : Option Value → fm_M → Prop} {pc : Nat} {L : List (Option Value)} {r : List Value} {M : fm_M} {x : Int32} {off : Int} (tgt : Nat) (ht : (pc : Int) + off = (tgt : Int)) (hd : decode y.2.1 pc = .ok (.ifCond .gt off, 3)) (kt : 0 < x → fm_mw d y Q tgt L r M) (kf : ¬ (0 < x) → fm_mw d y Q (pc + 3) L r M) : fm_mw d y Q pc L (.int x :: r) M :=
  fun p l e s m args below meth c D ad ca A H locs ls C hl hP hD hS => lv_if_gt C.1 C.2.1 hd ht (fun q => kt q p l e s m args below meth c D ad ca A H locs ls C hl hP hD hS) (fun q => kf q p l e s m args below meth c D ad ca A H locs ls C hl hP hD hS)
theorem fm_icmp_gt {d : Nat} {y : fm_I} {Q : Option Value → fm_M → Prop} {pc : Nat} {L : List (Option Value)} {r : List Value} {M : fm_M} {x z : Int32} {off : Int} (tgt : Nat) (ht : (pc : Int) + off = (tgt : Int)) (hd : decode y.2.1 pc = .ok (.if_icmp .gt off, 3)) (kt : z < x → fm_mw d y Q tgt L r M) (kf : ¬ (z < x) → fm_mw d y Q (pc + 3) L r M) : fm_mw d y Q pc L (.int z :: .int x :: r) M :=
  fun p l e s m args below meth c D ad ca A H locs ls C hl hP hD hS => lv_icmp_gt C.1 C.2.1 hd ht (fun q => kt q p l e s m args below meth c D ad ca A H locs ls C hl hP hD hS) (fun q => kf q p l e s m args below meth c D ad ca A H locs ls C hl hP hD hS)
theorem fm_if_le {d : Nat} {y : fm_I} {Q : Option Value → fm_M → Prop} {pc : Nat} {L : List (Option Value)} {r : List Value} {M : fm_M} {x : Int32} {off : Int} (tgt : Nat) (ht : (pc : Int) + off = (tgt : Int)) (hd : decode y.2.1 pc = .ok (.ifCond .le off, 3)) (kt : x ≤ 0 → fm_mw d y Q tgt L r M) (kf : ¬ (x ≤ 0) → fm_mw d y Q (pc + 3) L r M) : fm_mw d y Q pc L (.int x :: r) M :=
  fun p l e s m args below meth c D ad ca A H locs ls C hl hP hD hS => lv_if_le C.1 C.2.1 hd ht (fun q => kt q p l e s m args below meth c D ad ca A H locs ls C hl hP hD hS) (fun q => kf q p l e s m args below meth c D ad ca A H locs ls C hl hP hD hS)
theorem fm_icmp_le {d : Nat} {y : fm_I} {Q : Option Value → fm_M → Prop} {pc : Nat} {L : List (Option Value)} {r : List Value} {M : fm_M} {x z : Int32} {off : Int} (tgt : Nat) (ht : (pc : Int) + off = (tgt : Int)) (hd : decode y.2.1 pc = .ok (.if_icmp .le off, 3)) (kt : x ≤ z → fm_mw d y Q tgt L r M) (kf : ¬ (x ≤ z) → fm_mw d y Q (pc + 3) L r M) : fm_mw d y Q pc L (.int z :: .int x :: r) M :=
  fun p l e s m args below meth c D ad ca A H locs ls C hl hP hD hS => lv_icmp_le C.1 C.2.1 hd ht (fun q => kt q p l e s m args below meth c D ad ca A H locs ls C hl hP hD hS) (fun q => kf q p l e s m args below meth c D ad ca A H locs ls C hl hP hD hS)
theorem fm_goto {d : Nat} {y : fm_I} {Q : Option Value → fm_M → Prop} {pc : Nat} {L : List (Option Value)} {r : List Value} {M : fm_M} {off : Int} (tgt : Nat) (ht : (pc : Int) + off = (tgt : Int)) (hd : decode y.2.1 pc = .ok (.goto off, 3)) (k : fm_mw d y Q tgt L r M) : fm_mw d y Q pc L r M :=
  fun p l e s m args below meth c D ad ca A H locs ls C hl hP hD hS => lv_goto C.1 C.2.1 hd ht (k p l e s m args below meth c D ad ca A H locs ls C hl hP hD hS)
