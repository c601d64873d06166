def RX0 : String := "ForkCouncil$Bribe"
def TX0 : u_T := fun k => match k with
  | 0 => ("ForkCouncil$Bribe", "hums", "[I", true)
  | 1 => ("ForkCouncil$Bribe", "verdicts", "[I", true)
  | 2 => ("ForkCouncil$Bribe", "filings", "[I", true)
  | 3 => ("ForkCouncil$Bribe", "forks", "I", false)
  | 4 => ("ForkCouncil$Bribe", "others", "I", false)
  | _ => ("ForkCouncil$Bribe", "pence", "I", false)
def tyX0 : Nat → FieldType := fun k => match k with
  | 0 => .array .int
  | 1 => .array .int
  | 2 => .array .int
  | 3 => .int
  | 4 => .int
  | _ => .int
theorem nmX0 : ∀ a, a < 6 → ∀ b, b < 6 → a ≠ b → (TX0 a).2.1 ≠ (TX0 b).2.1 := by decide +kernel
theorem tyX0_ok : ∀ k, k < 6 → parseFieldDescriptor (TX0 k).2.2.1 = some (tyX0 k) := by decide +kernel
def RX1 : String := "ForkCouncil$Deeds"
def TX1 : u_T := fun k => match k with
  | 0 => ("ForkCouncil$Deeds", "kind", "[I", true)
  | 1 => ("ForkCouncil$Deeds", "which", "[I", true)
  | 2 => ("ForkCouncil$Deeds", "amount", "[I", true)
  | _ => ("ForkCouncil$Deeds", "size", "I", false)
def tyX1 : Nat → FieldType := fun k => match k with
  | 0 => .array .int
  | 1 => .array .int
  | 2 => .array .int
  | _ => .int
theorem nmX1 : ∀ a, a < 4 → ∀ b, b < 4 → a ≠ b → (TX1 a).2.1 ≠ (TX1 b).2.1 := by decide +kernel
theorem tyX1_ok : ∀ k, k < 4 → parseFieldDescriptor (TX1 k).2.2.1 = some (tyX1 k) := by decide +kernel
def RX2 : String := "ForkCouncil$Duel"
def TX2 : u_T := fun k => match k with
  | 0 => ("ForkCouncil$Duel", "carried", "[Z", true)
  | 1 => ("ForkCouncil$Duel", "codes", "[I", true)
  | _ => ("ForkCouncil$Duel", "size", "I", false)
def tyX2 : Nat → FieldType := fun k => match k with
  | 0 => .array .boolean
  | 1 => .array .int
  | _ => .int
theorem nmX2 : ∀ a, a < 3 → ∀ b, b < 3 → a ≠ b → (TX2 a).2.1 ≠ (TX2 b).2.1 := by decide +kernel
theorem tyX2_ok : ∀ k, k < 3 → parseFieldDescriptor (TX2 k).2.2.1 = some (tyX2 k) := by decide +kernel
def RX3 : String := "ForkCouncil$Laws"
def TX3 : u_T := fun k => match k with
  | 0 => ("ForkCouncil$Laws", "start", "[I", true)
  | 1 => ("ForkCouncil$Laws", "end", "[I", true)
  | 2 => ("ForkCouncil$Laws", "tokens", "[I", true)
  | 3 => ("ForkCouncil$Laws", "numbers", "[I", true)
  | 4 => ("ForkCouncil$Laws", "length", "I", false)
  | 5 => ("ForkCouncil$Laws", "knots", "I", false)
  | 6 => ("ForkCouncil$Laws", "names", "[I", true)
  | _ => ("ForkCouncil$Laws", "values", "[J", true)
def tyX3 : Nat → FieldType := fun k => match k with
  | 0 => .array .int
  | 1 => .array .int
  | 2 => .array .int
  | 3 => .array .int
  | 4 => .int
  | 5 => .int
  | 6 => .array .int
  | _ => .array .long
theorem nmX3 : ∀ a, a < 8 → ∀ b, b < 8 → a ≠ b → (TX3 a).2.1 ≠ (TX3 b).2.1 := by decide +kernel
theorem tyX3_ok : ∀ k, k < 8 → parseFieldDescriptor (TX3 k).2.2.1 = some (tyX3 k) := by decide +kernel
def RX4 : String := "ForkCouncil$Minutes"
def TX4 : u_T := fun k => match k with
  | 0 => ("ForkCouncil$Minutes", "says", "[I", true)
  | 1 => ("ForkCouncil$Minutes", "about", "[I", true)
  | 2 => ("ForkCouncil$Minutes", "size", "I", false)
  | 3 => ("ForkCouncil$Minutes", "knownBy", "I", false)
  | _ => ("ForkCouncil$Minutes", "struckOut", "I", false)
def tyX4 : Nat → FieldType := fun k => match k with
  | 0 => .array .int
  | 1 => .array .int
  | 2 => .int
  | 3 => .int
  | _ => .int
theorem nmX4 : ∀ a, a < 5 → ∀ b, b < 5 → a ≠ b → (TX4 a).2.1 ≠ (TX4 b).2.1 := by decide +kernel
theorem tyX4_ok : ∀ k, k < 5 → parseFieldDescriptor (TX4 k).2.2.1 = some (tyX4 k) := by decide +kernel
def RX5 : String := "ForkCouncil$Order"
def TX5 : u_T := fun k => match k with
  | 0 => ("ForkCouncil$Order", "motions", "[I", true)
  | 1 => ("ForkCouncil$Order", "days", "[I", true)
  | 2 => ("ForkCouncil$Order", "size", "I", false)
  | _ => ("ForkCouncil$Order", "carried", "I", false)
def tyX5 : Nat → FieldType := fun k => match k with
  | 0 => .array .int
  | 1 => .array .int
  | 2 => .int
  | _ => .int
theorem nmX5 : ∀ a, a < 4 → ∀ b, b < 4 → a ≠ b → (TX5 a).2.1 ≠ (TX5 b).2.1 := by decide +kernel
theorem tyX5_ok : ∀ k, k < 4 → parseFieldDescriptor (TX5 k).2.2.1 = some (tyX5 k) := by decide +kernel
def RX6 : String := "ForkCouncil$Reader"
def TX6 : u_T := fun k => match k with
  | 0 => ("ForkCouncil$Reader", "tape", "[B", true)
  | 1 => ("ForkCouncil$Reader", "words", "[I", true)
  | 2 => ("ForkCouncil$Reader", "taped", "I", false)
  | 3 => ("ForkCouncil$Reader", "faultKind", "I", false)
  | 4 => ("ForkCouncil$Reader", "faultPlace", "I", false)
  | 5 => ("ForkCouncil$Reader", "draft", "LForkCouncil$Told;", false)
  | 6 => ("ForkCouncil$Reader", "end", "I", false)
  | 7 => ("ForkCouncil$Reader", "at", "I", false)
  | 8 => ("ForkCouncil$Reader", "token", "I", false)
  | 9 => ("ForkCouncil$Reader", "place", "I", false)
  | 10 => ("ForkCouncil$Reader", "value", "I", false)
  | _ => ("ForkCouncil$Reader", "toldOnce", "I", false)
def tyX6 : Nat → FieldType := fun k => match k with
  | 0 => .array .byte
  | 1 => .array .int
  | 2 => .int
  | 3 => .int
  | 4 => .int
  | 5 => .object "ForkCouncil$Told"
  | 6 => .int
  | 7 => .int
  | 8 => .int
  | 9 => .int
  | 10 => .int
  | _ => .int
theorem nmX6 : ∀ a, a < 12 → ∀ b, b < 12 → a ≠ b → (TX6 a).2.1 ≠ (TX6 b).2.1 := by decide +kernel
theorem tyX6_ok : ∀ k, k < 12 → parseFieldDescriptor (TX6 k).2.2.1 = some (tyX6 k) := by decide +kernel
def RX7 : String := "ForkCouncil$State"
def TX7 : u_T := fun k => match k with
  | 0 => ("ForkCouncil$State", "day", "I", false)
  | 1 => ("ForkCouncil$State", "damp", "I", false)
  | 2 => ("ForkCouncil$State", "purse", "I", false)
  | 3 => ("ForkCouncil$State", "paid", "I", false)
  | 4 => ("ForkCouncil$State", "touched", "I", false)
  | 5 => ("ForkCouncil$State", "cracked", "I", false)
  | 6 => ("ForkCouncil$State", "absent", "I", false)
  | 7 => ("ForkCouncil$State", "rusts", "Z", false)
  | 8 => ("ForkCouncil$State", "pitch", "[I", true)
  | 9 => ("ForkCouncil$State", "width", "[I", true)
  | 10 => ("ForkCouncil$State", "strikeDay", "[I", true)
  | 11 => ("ForkCouncil$State", "verdict", "[I", true)
  | 12 => ("ForkCouncil$State", "heard", "[I", true)
  | _ => ("ForkCouncil$State", "hums", "[I", true)
def tyX7 : Nat → FieldType := fun k => match k with
  | 0 => .int
  | 1 => .int
  | 2 => .int
  | 3 => .int
  | 4 => .int
  | 5 => .int
  | 6 => .int
  | 7 => .boolean
  | 8 => .array .int
  | 9 => .array .int
  | 10 => .array .int
  | 11 => .array .int
  | 12 => .array .int
  | _ => .array .int
theorem nmX7 : ∀ a, a < 14 → ∀ b, b < 14 → a ≠ b → (TX7 a).2.1 ≠ (TX7 b).2.1 := by decide +kernel
theorem tyX7_ok : ∀ k, k < 14 → parseFieldDescriptor (TX7 k).2.2.1 = some (tyX7 k) := by decide +kernel
def RX8 : String := "ForkCouncil$Told"
def TX8 : u_T := fun k => match k with
  | 0 => ("ForkCouncil$Told", "forks", "I", false)
  | 1 => ("ForkCouncil$Told", "forkNames", "[I", true)
  | 2 => ("ForkCouncil$Told", "pitch", "[I", true)
  | 3 => ("ForkCouncil$Told", "width", "[I", true)
  | 4 => ("ForkCouncil$Told", "loud", "[I", true)
  | 5 => ("ForkCouncil$Told", "party", "[I", true)
  | 6 => ("ForkCouncil$Told", "cracked", "I", false)
  | 7 => ("ForkCouncil$Told", "motions", "I", false)
  | 8 => ("ForkCouncil$Told", "motionNames", "[I", true)
  | 9 => ("ForkCouncil$Told", "note", "[I", true)
  | 10 => ("ForkCouncil$Told", "day", "[I", true)
  | 11 => ("ForkCouncil$Told", "wets", "I", false)
  | 12 => ("ForkCouncil$Told", "wet", "[I", true)
  | 13 => ("ForkCouncil$Told", "table", "I", false)
  | 14 => ("ForkCouncil$Told", "purse", "I", false)
  | 15 => ("ForkCouncil$Told", "price", "I", false)
  | 16 => ("ForkCouncil$Told", "rusty", "I", false)
  | _ => ("ForkCouncil$Told", "laws", "LForkCouncil$Laws;", true)
def tyX8 : Nat → FieldType := fun k => match k with
  | 0 => .int
  | 1 => .array .int
  | 2 => .array .int
  | 3 => .array .int
  | 4 => .array .int
  | 5 => .array .int
  | 6 => .int
  | 7 => .int
  | 8 => .array .int
  | 9 => .array .int
  | 10 => .array .int
  | 11 => .int
  | 12 => .array .int
  | 13 => .int
  | 14 => .int
  | 15 => .int
  | 16 => .int
  | _ => .object "ForkCouncil$Laws"
theorem nmX8 : ∀ a, a < 18 → ∀ b, b < 18 → a ≠ b → (TX8 a).2.1 ≠ (TX8 b).2.1 := by decide +kernel
theorem tyX8_ok : ∀ k, k < 18 → parseFieldDescriptor (TX8 k).2.2.1 = some (tyX8 k) := by decide +kernel
def RX9 : String := "ForkCouncil"
def TX9 : u_T := fun k => match k with
  | 0 => ("ForkCouncil", "reader", "LForkCouncil$Reader;", true)
  | 1 => ("ForkCouncil", "told", "LForkCouncil$Told;", false)
  | 2 => ("ForkCouncil", "now", "LForkCouncil$State;", true)
  | 3 => ("ForkCouncil", "trial", "LForkCouncil$State;", true)
  | 4 => ("ForkCouncil", "image", "LForkCouncil$State;", true)
  | 5 => ("ForkCouncil", "imageKept", "Z", false)
  | 6 => ("ForkCouncil", "deeds", "LForkCouncil$Deeds;", true)
  | 7 => ("ForkCouncil", "minutes", "LForkCouncil$Minutes;", true)
  | 8 => ("ForkCouncil", "bribery", "LForkCouncil$Bribe;", true)
  | 9 => ("ForkCouncil", "duel", "LForkCouncil$Duel;", true)
  | _ => ("ForkCouncil", "ordering", "LForkCouncil$Order;", true)
def tyX9 : Nat → FieldType := fun k => match k with
  | 0 => .object "ForkCouncil$Reader"
  | 1 => .object "ForkCouncil$Told"
  | 2 => .object "ForkCouncil$State"
  | 3 => .object "ForkCouncil$State"
  | 4 => .object "ForkCouncil$State"
  | 5 => .boolean
  | 6 => .object "ForkCouncil$Deeds"
  | 7 => .object "ForkCouncil$Minutes"
  | 8 => .object "ForkCouncil$Bribe"
  | 9 => .object "ForkCouncil$Duel"
  | _ => .object "ForkCouncil$Order"
theorem nmX9 : ∀ a, a < 11 → ∀ b, b < 11 → a ≠ b → (TX9 a).2.1 ≠ (TX9 b).2.1 := by decide +kernel
theorem tyX9_ok : ∀ k, k < 11 → parseFieldDescriptor (TX9 k).2.2.1 = some (tyX9 k) := by decide +kernel
def RX10 : String := "ForkCouncilModel"
def TX10 : u_T := fun k => match k with
  | 0 => ("ForkCouncilModel", "thrown", "I", false)
  | 1 => ("ForkCouncilModel", "tape", "[I", true)
  | 2 => ("ForkCouncilModel", "taped", "I", false)
  | 3 => ("ForkCouncilModel", "number", "[I", true)
  | 4 => ("ForkCouncilModel", "forkName", "[I", true)
  | 5 => ("ForkCouncilModel", "pitchAs", "[I", true)
  | 6 => ("ForkCouncilModel", "widthAs", "[I", true)
  | 7 => ("ForkCouncilModel", "loudOf", "[I", true)
  | 8 => ("ForkCouncilModel", "partyOf", "[I", true)
  | 9 => ("ForkCouncilModel", "motionName", "[I", true)
  | 10 => ("ForkCouncilModel", "noteOf", "[I", true)
  | 11 => ("ForkCouncilModel", "dayAs", "[I", true)
  | 12 => ("ForkCouncilModel", "wetOf", "[I", true)
  | 13 => ("ForkCouncilModel", "sumFrom", "[I", true)
  | 14 => ("ForkCouncilModel", "sumTo", "[I", true)
  | 15 => ("ForkCouncilModel", "knotSort", "[I", true)
  | 16 => ("ForkCouncilModel", "knotValue", "[I", true)
  | 17 => ("ForkCouncilModel", "told", "I", false)
  | 18 => ("ForkCouncilModel", "lines", "I", false)
  | 19 => ("ForkCouncilModel", "size", "I", false)
  | 20 => ("ForkCouncilModel", "at", "I", false)
  | 21 => ("ForkCouncilModel", "place", "I", false)
  | 22 => ("ForkCouncilModel", "sort", "I", false)
  | 23 => ("ForkCouncilModel", "value", "I", false)
  | 24 => ("ForkCouncilModel", "fault", "I", false)
  | 25 => ("ForkCouncilModel", "faultPlace", "I", false)
  | 26 => ("ForkCouncilModel", "lastFault", "I", false)
  | 27 => ("ForkCouncilModel", "lastPlace", "I", false)
  | 28 => ("ForkCouncilModel", "opened", "I", false)
  | 29 => ("ForkCouncilModel", "counted", "I", false)
  | 30 => ("ForkCouncilModel", "names", "[J", true)
  | 31 => ("ForkCouncilModel", "worked", "[J", true)
  | 32 => ("ForkCouncilModel", "workedMany", "I", false)
  | 33 => ("ForkCouncilModel", "day", "[I", true)
  | 34 => ("ForkCouncilModel", "purse", "[I", true)
  | 35 => ("ForkCouncilModel", "paid", "[I", true)
  | 36 => ("ForkCouncilModel", "touched", "[I", true)
  | 37 => ("ForkCouncilModel", "pitchOf", "[I", true)
  | 38 => ("ForkCouncilModel", "dayOf", "[I", true)
  | 39 => ("ForkCouncilModel", "outcome", "[I", true)
  | 40 => ("ForkCouncilModel", "heard", "[I", true)
  | 41 => ("ForkCouncilModel", "hasImage", "Z", false)
  | 42 => ("ForkCouncilModel", "undoMany", "I", false)
  | 43 => ("ForkCouncilModel", "tryWhat", "I", false)
  | 44 => ("ForkCouncilModel", "tryFork", "I", false)
  | 45 => ("ForkCouncilModel", "wetDrawn", "I", false)
  | 46 => ("ForkCouncilModel", "widerIs", "I", false)
  | 47 => ("ForkCouncilModel", "widthIs", "I", false)
  | 48 => ("ForkCouncilModel", "filed", "[I", true)
  | 49 => ("ForkCouncilModel", "hasOne", "[I", true)
  | 50 => ("ForkCouncilModel", "hasTwo", "[I", true)
  | 51 => ("ForkCouncilModel", "ordered", "[I", true)
  | 52 => ("ForkCouncilModel", "orderedMany", "I", false)
  | 53 => ("ForkCouncilModel", "orderMost", "I", false)
  | 54 => ("ForkCouncilModel", "orderCode", "I", false)
  | 55 => ("ForkCouncilModel", "minutes", "I", false)
  | 56 => ("ForkCouncilModel", "knownBy", "I", false)
  | 57 => ("ForkCouncilModel", "minuteMotion", "[I", true)
  | 58 => ("ForkCouncilModel", "minuteIs", "[Z", true)
  | 59 => ("ForkCouncilModel", "outs", "[I", true)
  | _ => ("ForkCouncilModel", "isOut", "[Z", true)
def tyX10 : Nat → FieldType := fun k => match k with
  | 0 => .int
  | 1 => .array .int
  | 2 => .int
  | 3 => .array .int
  | 4 => .array .int
  | 5 => .array .int
  | 6 => .array .int
  | 7 => .array .int
  | 8 => .array .int
  | 9 => .array .int
  | 10 => .array .int
  | 11 => .array .int
  | 12 => .array .int
  | 13 => .array .int
  | 14 => .array .int
  | 15 => .array .int
  | 16 => .array .int
  | 17 => .int
  | 18 => .int
  | 19 => .int
  | 20 => .int
  | 21 => .int
  | 22 => .int
  | 23 => .int
  | 24 => .int
  | 25 => .int
  | 26 => .int
  | 27 => .int
  | 28 => .int
  | 29 => .int
  | 30 => .array .long
  | 31 => .array .long
  | 32 => .int
  | 33 => .array .int
  | 34 => .array .int
  | 35 => .array .int
  | 36 => .array .int
  | 37 => .array .int
  | 38 => .array .int
  | 39 => .array .int
  | 40 => .array .int
  | 41 => .boolean
  | 42 => .int
  | 43 => .int
  | 44 => .int
  | 45 => .int
  | 46 => .int
  | 47 => .int
  | 48 => .array .int
  | 49 => .array .int
  | 50 => .array .int
  | 51 => .array .int
  | 52 => .int
  | 53 => .int
  | 54 => .int
  | 55 => .int
  | 56 => .int
  | 57 => .array .int
  | 58 => .array .boolean
  | 59 => .array .int
  | _ => .array .boolean
theorem nmX10 : ∀ a, a < 61 → ∀ b, b < 61 → a ≠ b → (TX10 a).2.1 ≠ (TX10 b).2.1 := by decide +kernel
theorem tyX10_ok : ∀ k, k < 61 → parseFieldDescriptor (TX10 k).2.2.1 = some (tyX10 k) := by decide +kernel
abbrev vwCl : List vw_C := [(RX0, TX0, 6), (RX1, TX1, 4), (RX2, TX2, 3), (RX3, TX3, 8), (RX4, TX4, 5), (RX5, TX5, 4), (RX6, TX6, 12), (RX7, TX7, 14), (RX8, TX8, 18), (RX9, TX9, 11), (RX10, TX10, 61)]
/-- the words that hold at every later state, too -/
def fm_gw : List Cond := lw_tbl.filter goodWord
theorem fm_in {w : Cond} (i : Nat) (h : lw_tbl[i]? = some w) (g : goodWord w = true) : w ∈ fm_gw := List.mem_filter.mpr ⟨List.mem_of_getElem? h, g⟩
theorem fm_ins {ws : List Cond} (ps : List Nat) (h : ws = ps.filterMap (fun i => lw_tbl[i]?)) (g : ws.all goodWord = true) : ∀ w ∈ ws, w ∈ fm_gw := by
  intro w hw
  have g1 := List.all_eq_true.mp g w hw
  rw [h] at hw
  obtain ⟨i, -, hi⟩ := List.mem_filterMap.mp hw
  exact fm_in i hi g1
theorem fm_t0 {w : Cond} (i : Nat) (h : (k2_sels lw_privs)[i]? = some w) (g : goodWord w = true) : w ∈ fm_gw := List.mem_filter.mpr ⟨List.mem_append_left _ (List.mem_of_getElem? h), g⟩
theorem fm_m1 {w : Cond} (i : Nat) (h : tables_1_1[i]? = some w) : w ∈ lw_tbl := List.mem_append_right _ (List.mem_append_left _ (List.mem_of_getElem? h))
theorem fm_t1 {w : Cond} (i : Nat) (h : tables_1_1[i]? = some w) (g : goodWord w = true) : w ∈ fm_gw := List.mem_filter.mpr ⟨fm_m1 i h, g⟩
theorem fm_m2 {w : Cond} (i : Nat) (h : tables_1_2[i]? = some w) : w ∈ lw_tbl := List.mem_append_right _ (List.mem_append_right _ (List.mem_append_left _ (List.mem_of_getElem? h)))
theorem fm_t2 {w : Cond} (i : Nat) (h : tables_1_2[i]? = some w) (g : goodWord w = true) : w ∈ fm_gw := List.mem_filter.mpr ⟨fm_m2 i h, g⟩
theorem fm_m3 {w : Cond} (i : Nat) (h : tables_1_3[i]? = some w) : w ∈ lw_tbl := List.mem_append_right _ (List.mem_append_right _ (List.mem_append_right _ (List.mem_append_left _ (List.mem_of_getElem? h))))
theorem fm_t3 {w : Cond} (i : Nat) (h : tables_1_3[i]? = some w) (g : goodWord w = true) : w ∈ fm_gw := List.mem_filter.mpr ⟨fm_m3 i h, g⟩
theorem fm_m4 {w : Cond} (i : Nat) (h : tables_1_4[i]? = some w) : w ∈ lw_tbl := List.mem_append_right _ (List.mem_append_right _ (List.mem_append_right _ (List.mem_append_right _ (List.mem_append_left _ (List.mem_of_getElem? h)))))
theorem fm_t4 {w : Cond} (i : Nat) (h : tables_1_4[i]? = some w) (g : goodWord w = true) : w ∈ fm_gw := List.mem_filter.mpr ⟨fm_m4 i h, g⟩
theorem fm_m5 {w : Cond} (i : Nat) (h : tables_1_5[i]? = some w) : w ∈ lw_tbl := List.mem_append_right _ (List.mem_append_right _ (List.mem_append_right _ (List.mem_append_right _ (List.mem_append_right _ (List.mem_append_left _ (List.mem_of_getElem? h))))))
theorem fm_t5 {w : Cond} (i : Nat) (h : tables_1_5[i]? = some w) (g : goodWord w = true) : w ∈ fm_gw := List.mem_filter.mpr ⟨fm_m5 i h, g⟩
theorem fm_m6 {w : Cond} (i : Nat) (h : tables_1_6[i]? = some w) : w ∈ lw_tbl := List.mem_append_right _ (List.mem_append_right _ (List.mem_append_right _ (List.mem_append_right _ (List.mem_append_right _ (List.mem_append_right _ (List.mem_append_left _ (List.mem_of_getElem? h)))))))
theorem fm_t6 {w : Cond} (i : Nat) (h : tables_1_6[i]? = some w) (g : goodWord w = true) : w ∈ fm_gw := List.mem_filter.mpr ⟨fm_m6 i h, g⟩
theorem fm_m7 {w : Cond} (i : Nat) (h : tables_1_7[i]? = some w) : w ∈ lw_tbl := List.mem_append_right _ (List.mem_append_right _ (List.mem_append_right _ (List.mem_append_right _ (List.mem_append_right _ (List.mem_append_right _ (List.mem_append_right _ (List.mem_append_left _ (List.mem_of_getElem? h))))))))
theorem fm_t7 {w : Cond} (i : Nat) (h : tables_1_7[i]? = some w) (g : goodWord w = true) : w ∈ fm_gw := List.mem_filter.mpr ⟨fm_m7 i h, g⟩
theorem fm_m8 {w : Cond} (i : Nat) (h : tables_1_8[i]? = some w) : w ∈ lw_tbl := List.mem_append_right _ (List.mem_append_right _ (List.mem_append_right _ (List.mem_append_right _ (List.mem_append_right _ (List.mem_append_right _ (List.mem_append_right _ (List.mem_append_right _ (List.mem_of_getElem? h))))))))
theorem fm_t8 {w : Cond} (i : Nat) (h : tables_1_8[i]? = some w) (g : goodWord w = true) : w ∈ fm_gw := List.mem_filter.mpr ⟨fm_m8 i h, g⟩
/-- the words of links between nest mates: they hold at later states by a law of their own -/
def fm_isN (w : Cond) : Bool := match w with
  | .fieldLinkNest .. => true
  | .methodLinkNest .. => true
  | _ => false
def fm_nw : List Cond := lw_tbl.filter fm_isN
theorem fm_nw_tab {w : Cond} (h : w ∈ fm_nw) : w.onTables = true := by
  have h2 := (List.mem_filter.mp h).2
  cases w <;> first | rfl | (simp [fm_isN] at h2)
theorem fm_nw_warm {w : Cond} {s U : State} (h : w ∈ fm_nw) (hW : s.WarmedH U.vm) (hZ : va_Nw w s) : va_Nw w U := by
  have h2 := (List.mem_filter.mp h).2
  cases w <;> first | exact va_Nw.warmF hW hZ | exact va_Nw.warmM hW hZ | (simp [fm_isN] at h2)
theorem fm_n1 {w : Cond} (i : Nat) (h : tables_1_1[i]? = some w) (g : fm_isN w = true) : w ∈ fm_nw := List.mem_filter.mpr ⟨fm_m1 i h, g⟩
theorem fm_n2 {w : Cond} (i : Nat) (h : tables_1_2[i]? = some w) (g : fm_isN w = true) : w ∈ fm_nw := List.mem_filter.mpr ⟨fm_m2 i h, g⟩
theorem fm_n3 {w : Cond} (i : Nat) (h : tables_1_3[i]? = some w) (g : fm_isN w = true) : w ∈ fm_nw := List.mem_filter.mpr ⟨fm_m3 i h, g⟩
theorem fm_n4 {w : Cond} (i : Nat) (h : tables_1_4[i]? = some w) (g : fm_isN w = true) : w ∈ fm_nw := List.mem_filter.mpr ⟨fm_m4 i h, g⟩
theorem fm_n5 {w : Cond} (i : Nat) (h : tables_1_5[i]? = some w) (g : fm_isN w = true) : w ∈ fm_nw := List.mem_filter.mpr ⟨fm_m5 i h, g⟩
theorem fm_n6 {w : Cond} (i : Nat) (h : tables_1_6[i]? = some w) (g : fm_isN w = true) : w ∈ fm_nw := List.mem_filter.mpr ⟨fm_m6 i h, g⟩
theorem fm_n7 {w : Cond} (i : Nat) (h : tables_1_7[i]? = some w) (g : fm_isN w = true) : w ∈ fm_nw := List.mem_filter.mpr ⟨fm_m7 i h, g⟩
theorem fm_n8 {w : Cond} (i : Nat) (h : tables_1_8[i]? = some w) (g : fm_isN w = true) : w ∈ fm_nw := List.mem_filter.mpr ⟨fm_m8 i h, g⟩
theorem fm_in0 : ∀ w ∈ u_ws RX0 TX0 6, w ∈ fm_gw := fm_ins [507, 509, 511, 513, 515, 517] (by decide +kernel) (by decide +kernel)
theorem fm_in1 : ∀ w ∈ u_ws RX1 TX1 4, w ∈ fm_gw := fm_ins [461, 463, 465, 467] (by decide +kernel) (by decide +kernel)
theorem fm_in2 : ∀ w ∈ u_ws RX2 TX2 3, w ∈ fm_gw := fm_ins [531, 533, 535] (by decide +kernel) (by decide +kernel)
theorem fm_in3 : ∀ w ∈ u_ws RX3 TX3 8, w ∈ fm_gw := fm_ins [162, 164, 166, 168, 170, 172, 174, 176] (by decide +kernel) (by decide +kernel)
theorem fm_in4 : ∀ w ∈ u_ws RX4 TX4 5, w ∈ fm_gw := fm_ins [483, 485, 487, 489, 491] (by decide +kernel) (by decide +kernel)
theorem fm_in5 : ∀ w ∈ u_ws RX5 TX5 4, w ∈ fm_gw := fm_ins [551, 553, 555, 557] (by decide +kernel) (by decide +kernel)
theorem fm_in6 : ∀ w ∈ u_ws RX6 TX6 12, w ∈ fm_gw := fm_ins [351, 353, 355, 357, 359, 361, 363, 365, 367, 369, 371, 373] (by decide +kernel) (by decide +kernel)
theorem fm_in7 : ∀ w ∈ u_ws RX7 TX7 14, w ∈ fm_gw := fm_ins [418, 420, 422, 424, 426, 428, 430, 432, 434, 436, 438, 440, 442, 444] (by decide +kernel) (by decide +kernel)
theorem fm_in8 : ∀ w ∈ u_ws RX8 TX8 18, w ∈ fm_gw := fm_ins [247, 249, 251, 253, 255, 257, 259, 261, 263, 265, 267, 269, 271, 273, 275, 277, 279, 281] (by decide +kernel) (by decide +kernel)
theorem fm_in9 : ∀ w ∈ u_ws RX9 TX9 11, w ∈ fm_gw := fm_ins [571, 573, 575, 577, 579, 581, 583, 585, 587, 589, 591] (by decide +kernel) (by decide +kernel)
theorem fm_in10 : ∀ w ∈ u_ws RX10 TX10 61, w ∈ fm_gw := fm_ins [1351, 1353, 1355, 1357, 1359, 1361, 1363, 1365, 1367, 1369, 1371, 1373, 1375, 1377, 1379, 1381, 1383, 1385, 1387, 1389, 1391, 1393, 1395, 1397, 1399, 1401, 1403, 1405, 1407, 1409, 1411, 1413, 1415, 1417, 1419, 1421, 1423, 1425, 1427, 1429, 1431, 1433, 1435, 1437, 1439, 1441, 1443, 1445, 1447, 1449, 1451, 1453, 1455, 1457, 1459, 1461, 1463, 1465, 1467, 1469, 1471] (by decide +kernel) (by decide +kernel)
/-- a place of the world: an array of ints, bytes or truths and its length; of longs; an object, its fields being ints, references that change, references that do not -/
abbrev fm_S : Type := (FieldType × Nat) ⊕ Nat ⊕ (Nat × List (Option (Option Nat)))
def SHP : List fm_S := [.inr (.inr (9, [some (some 1), some none, some (some 38), some (some 45), some (some 52), none, some (some 59), some (some 63), some (some 66), some (some 70), some (some 73)])), .inr (.inr (6, [some (some 2), some (some 3), none, none, none, some none, none, none, none, none, none, none])), .inl (.byte, 700), .inl (.int, 22), .inr (.inr (8, [none, some (some 5), some (some 6), some (some 7), some (some 8), some (some 9), none, none, some (some 10), some (some 11), some (some 12), none, some (some 13), none, none, none, none, some (some 14)])), .inl (.int, 8), .inl (.int, 8), .inl (.int, 8), .inl (.int, 8), .inl (.int, 8), .inl (.int, 10), .inl (.int, 10), .inl (.int, 10), .inl (.int, 8), .inr (.inr (3, [some (some 15), some (some 16), some (some 17), some (some 18), none, none, some (some 19), some (some 20)])), .inl (.int, 3), .inl (.int, 3), .inl (.int, 64), .inl (.int, 64), .inl (.int, 7), .inr (.inl 64), .inr (.inr (8, [none, some (some 22), some (some 23), some (some 24), some (some 25), some (some 26), none, none, some (some 27), some (some 28), some (some 29), none, some (some 30), none, none, none, none, some (some 31)])), .inl (.int, 8), .inl (.int, 8), .inl (.int, 8), .inl (.int, 8), .inl (.int, 8), .inl (.int, 10), .inl (.int, 10), .inl (.int, 10), .inl (.int, 8), .inr (.inr (3, [some (some 32), some (some 33), some (some 34), some (some 35), none, none, some (some 36), some (some 37)])), .inl (.int, 3), .inl (.int, 3), .inl (.int, 64), .inl (.int, 64), .inl (.int, 7), .inr (.inl 64), .inr (.inr (7, [none, none, none, none, none, none, none, none, some (some 39), some (some 40), some (some 41), some (some 42), some (some 43), some (some 44)])), .inl (.int, 8), .inl (.int, 8), .inl (.int, 10), .inl (.int, 10), .inl (.int, 10), .inl (.int, 8), .inr (.inr (7, [none, none, none, none, none, none, none, none, some (some 46), some (some 47), some (some 48), some (some 49), some (some 50), some (some 51)])), .inl (.int, 8), .inl (.int, 8), .inl (.int, 10), .inl (.int, 10), .inl (.int, 10), .inl (.int, 8), .inr (.inr (7, [none, none, none, none, none, none, none, none, some (some 53), some (some 54), some (some 55), some (some 56), some (some 57), some (some 58)])), .inl (.int, 8), .inl (.int, 8), .inl (.int, 10), .inl (.int, 10), .inl (.int, 10), .inl (.int, 8), .inr (.inr (1, [some (some 60), some (some 61), some (some 62), none])), .inl (.int, 20), .inl (.int, 20), .inl (.int, 20), .inr (.inr (4, [some (some 64), some (some 65), none, none, none])), .inl (.int, 24), .inl (.int, 24), .inr (.inr (0, [some (some 67), some (some 68), some (some 69), none, none, none])), .inl (.int, 36), .inl (.int, 793), .inl (.int, 4), .inr (.inr (2, [some (some 71), some (some 72), none])), .inl (.boolean, 25), .inl (.int, 25), .inr (.inr (5, [some (some 74), some (some 75), none, none])), .inl (.int, 4), .inl (.int, 4), .inr (.inr (10, [none, some (some 77), none, some (some 78), some (some 79), some (some 80), some (some 81), some (some 82), some (some 83), some (some 84), some (some 85), some (some 86), some (some 87), some (some 88), some (some 89), some (some 90), some (some 91), none, none, none, none, none, none, none, none, none, none, none, none, none, some (some 92), some (some 93), none, some (some 94), some (some 95), some (some 96), some (some 97), some (some 98), some (some 99), some (some 100), some (some 101), none, none, none, none, none, none, none, some (some 102), some (some 103), some (some 104), some (some 105), none, none, none, none, none, some (some 106), some (some 107), some (some 108), some (some 109)])), .inl (.int, 700), .inl (.int, 20), .inl (.int, 16), .inl (.int, 16), .inl (.int, 16), .inl (.int, 16), .inl (.int, 16), .inl (.int, 20), .inl (.int, 20), .inl (.int, 20), .inl (.int, 16), .inl (.int, 6), .inl (.int, 6), .inl (.int, 128), .inl (.int, 128), .inr (.inl 7), .inr (.inl 64), .inl (.int, 23), .inl (.int, 23), .inl (.int, 23), .inl (.int, 23), .inl (.int, 184), .inl (.int, 230), .inl (.int, 230), .inl (.int, 230), .inl (.int, 36), .inl (.int, 25), .inl (.int, 25), .inl (.int, 4), .inl (.int, 24), .inl (.boolean, 24), .inl (.int, 24), .inl (.boolean, 24)]
theorem sh_0 : SHP[0]? = some (.inr (.inr (9, [some (some 1), some none, some (some 38), some (some 45), some (some 52), none, some (some 59), some (some 63), some (some 66), some (some 70), some (some 73)]))) := rfl
theorem sh_1 : SHP[1]? = some (.inr (.inr (6, [some (some 2), some (some 3), none, none, none, some none, none, none, none, none, none, none]))) := rfl
theorem sh_2 : SHP[2]? = some (.inl (.byte, 700)) := rfl
theorem sh_3 : SHP[3]? = some (.inl (.int, 22)) := rfl
theorem sh_4 : SHP[4]? = some (.inr (.inr (8, [none, some (some 5), some (some 6), some (some 7), some (some 8), some (some 9), none, none, some (some 10), some (some 11), some (some 12), none, some (some 13), none, none, none, none, some (some 14)]))) := rfl
theorem sh_5 : SHP[5]? = some (.inl (.int, 8)) := rfl
theorem sh_6 : SHP[6]? = some (.inl (.int, 8)) := rfl
theorem sh_7 : SHP[7]? = some (.inl (.int, 8)) := rfl
theorem sh_8 : SHP[8]? = some (.inl (.int, 8)) := rfl
theorem sh_9 : SHP[9]? = some (.inl (.int, 8)) := rfl
theorem sh_10 : SHP[10]? = some (.inl (.int, 10)) := rfl
theorem sh_11 : SHP[11]? = some (.inl (.int, 10)) := rfl
theorem sh_12 : SHP[12]? = some (.inl (.int, 10)) := rfl
theorem sh_13 : SHP[13]? = some (.inl (.int, 8)) := rfl
theorem sh_14 : SHP[14]? = some (.inr (.inr (3, [some (some 15), some (some 16), some (some 17), some (some 18), none, none, some (some 19), some (some 20)]))) := rfl
theorem sh_15 : SHP[15]? = some (.inl (.int, 3)) := rfl
theorem sh_16 : SHP[16]? = some (.inl (.int, 3)) := rfl
theorem sh_17 : SHP[17]? = some (.inl (.int, 64)) := rfl
theorem sh_18 : SHP[18]? = some (.inl (.int, 64)) := rfl
theorem sh_19 : SHP[19]? = some (.inl (.int, 7)) := rfl
theorem sh_20 : SHP[20]? = some (.inr (.inl 64)) := rfl
theorem sh_21 : SHP[21]? = some (.inr (.inr (8, [none, some (some 22), some (some 23), some (some 24), some (some 25), some (some 26), none, none, some (some 27), some (some 28), some (some 29), none, some (some 30), none, none, none, none, some (some 31)]))) := rfl
theorem sh_22 : SHP[22]? = some (.inl (.int, 8)) := rfl
theorem sh_23 : SHP[23]? = some (.inl (.int, 8)) := rfl
theorem sh_24 : SHP[24]? = some (.inl (.int, 8)) := rfl
theorem sh_25 : SHP[25]? = some (.inl (.int, 8)) := rfl
theorem sh_26 : SHP[26]? = some (.inl (.int, 8)) := rfl
theorem sh_27 : SHP[27]? = some (.inl (.int, 10)) := rfl
theorem sh_28 : SHP[28]? = some (.inl (.int, 10)) := rfl
theorem sh_29 : SHP[29]? = some (.inl (.int, 10)) := rfl
theorem sh_30 : SHP[30]? = some (.inl (.int, 8)) := rfl
theorem sh_31 : SHP[31]? = some (.inr (.inr (3, [some (some 32), some (some 33), some (some 34), some (some 35), none, none, some (some 36), some (some 37)]))) := rfl
theorem sh_32 : SHP[32]? = some (.inl (.int, 3)) := rfl
theorem sh_33 : SHP[33]? = some (.inl (.int, 3)) := rfl
theorem sh_34 : SHP[34]? = some (.inl (.int, 64)) := rfl
theorem sh_35 : SHP[35]? = some (.inl (.int, 64)) := rfl
theorem sh_36 : SHP[36]? = some (.inl (.int, 7)) := rfl
theorem sh_37 : SHP[37]? = some (.inr (.inl 64)) := rfl
theorem sh_38 : SHP[38]? = some (.inr (.inr (7, [none, none, none, none, none, none, none, none, some (some 39), some (some 40), some (some 41), some (some 42), some (some 43), some (some 44)]))) := rfl
theorem sh_39 : SHP[39]? = some (.inl (.int, 8)) := rfl
theorem sh_40 : SHP[40]? = some (.inl (.int, 8)) := rfl
theorem sh_41 : SHP[41]? = some (.inl (.int, 10)) := rfl
theorem sh_42 : SHP[42]? = some (.inl (.int, 10)) := rfl
theorem sh_43 : SHP[43]? = some (.inl (.int, 10)) := rfl
theorem sh_44 : SHP[44]? = some (.inl (.int, 8)) := rfl
theorem sh_45 : SHP[45]? = some (.inr (.inr (7, [none, none, none, none, none, none, none, none, some (some 46), some (some 47), some (some 48), some (some 49), some (some 50), some (some 51)]))) := rfl
theorem sh_46 : SHP[46]? = some (.inl (.int, 8)) := rfl
theorem sh_47 : SHP[47]? = some (.inl (.int, 8)) := rfl
theorem sh_48 : SHP[48]? = some (.inl (.int, 10)) := rfl
theorem sh_49 : SHP[49]? = some (.inl (.int, 10)) := rfl
theorem sh_50 : SHP[50]? = some (.inl (.int, 10)) := rfl
theorem sh_51 : SHP[51]? = some (.inl (.int, 8)) := rfl
theorem sh_52 : SHP[52]? = some (.inr (.inr (7, [none, none, none, none, none, none, none, none, some (some 53), some (some 54), some (some 55), some (some 56), some (some 57), some (some 58)]))) := rfl
theorem sh_53 : SHP[53]? = some (.inl (.int, 8)) := rfl
theorem sh_54 : SHP[54]? = some (.inl (.int, 8)) := rfl
theorem sh_55 : SHP[55]? = some (.inl (.int, 10)) := rfl
theorem sh_56 : SHP[56]? = some (.inl (.int, 10)) := rfl
theorem sh_57 : SHP[57]? = some (.inl (.int, 10)) := rfl
theorem sh_58 : SHP[58]? = some (.inl (.int, 8)) := rfl
theorem sh_59 : SHP[59]? = some (.inr (.inr (1, [some (some 60), some (some 61), some (some 62), none]))) := rfl
theorem sh_60 : SHP[60]? = some (.inl (.int, 20)) := rfl
theorem sh_61 : SHP[61]? = some (.inl (.int, 20)) := rfl
theorem sh_62 : SHP[62]? = some (.inl (.int, 20)) := rfl
theorem sh_63 : SHP[63]? = some (.inr (.inr (4, [some (some 64), some (some 65), none, none, none]))) := rfl
theorem sh_64 : SHP[64]? = some (.inl (.int, 24)) := rfl
theorem sh_65 : SHP[65]? = some (.inl (.int, 24)) := rfl
theorem sh_66 : SHP[66]? = some (.inr (.inr (0, [some (some 67), some (some 68), some (some 69), none, none, none]))) := rfl
theorem sh_67 : SHP[67]? = some (.inl (.int, 36)) := rfl
theorem sh_68 : SHP[68]? = some (.inl (.int, 793)) := rfl
theorem sh_69 : SHP[69]? = some (.inl (.int, 4)) := rfl
theorem sh_70 : SHP[70]? = some (.inr (.inr (2, [some (some 71), some (some 72), none]))) := rfl
theorem sh_71 : SHP[71]? = some (.inl (.boolean, 25)) := rfl
theorem sh_72 : SHP[72]? = some (.inl (.int, 25)) := rfl
theorem sh_73 : SHP[73]? = some (.inr (.inr (5, [some (some 74), some (some 75), none, none]))) := rfl
theorem sh_74 : SHP[74]? = some (.inl (.int, 4)) := rfl
theorem sh_75 : SHP[75]? = some (.inl (.int, 4)) := rfl
theorem sh_76 : SHP[76]? = some (.inr (.inr (10, [none, some (some 77), none, some (some 78), some (some 79), some (some 80), some (some 81), some (some 82), some (some 83), some (some 84), some (some 85), some (some 86), some (some 87), some (some 88), some (some 89), some (some 90), some (some 91), none, none, none, none, none, none, none, none, none, none, none, none, none, some (some 92), some (some 93), none, some (some 94), some (some 95), some (some 96), some (some 97), some (some 98), some (some 99), some (some 100), some (some 101), none, none, none, none, none, none, none, some (some 102), some (some 103), some (some 104), some (some 105), none, none, none, none, none, some (some 106), some (some 107), some (some 108), some (some 109)]))) := rfl
theorem sh_77 : SHP[77]? = some (.inl (.int, 700)) := rfl
theorem sh_78 : SHP[78]? = some (.inl (.int, 20)) := rfl
theorem sh_79 : SHP[79]? = some (.inl (.int, 16)) := rfl
theorem sh_80 : SHP[80]? = some (.inl (.int, 16)) := rfl
theorem sh_81 : SHP[81]? = some (.inl (.int, 16)) := rfl
theorem sh_82 : SHP[82]? = some (.inl (.int, 16)) := rfl
theorem sh_83 : SHP[83]? = some (.inl (.int, 16)) := rfl
theorem sh_84 : SHP[84]? = some (.inl (.int, 20)) := rfl
theorem sh_85 : SHP[85]? = some (.inl (.int, 20)) := rfl
theorem sh_86 : SHP[86]? = some (.inl (.int, 20)) := rfl
theorem sh_87 : SHP[87]? = some (.inl (.int, 16)) := rfl
theorem sh_88 : SHP[88]? = some (.inl (.int, 6)) := rfl
theorem sh_89 : SHP[89]? = some (.inl (.int, 6)) := rfl
theorem sh_90 : SHP[90]? = some (.inl (.int, 128)) := rfl
theorem sh_91 : SHP[91]? = some (.inl (.int, 128)) := rfl
theorem sh_92 : SHP[92]? = some (.inr (.inl 7)) := rfl
theorem sh_93 : SHP[93]? = some (.inr (.inl 64)) := rfl
theorem sh_94 : SHP[94]? = some (.inl (.int, 23)) := rfl
theorem sh_95 : SHP[95]? = some (.inl (.int, 23)) := rfl
theorem sh_96 : SHP[96]? = some (.inl (.int, 23)) := rfl
theorem sh_97 : SHP[97]? = some (.inl (.int, 23)) := rfl
theorem sh_98 : SHP[98]? = some (.inl (.int, 184)) := rfl
theorem sh_99 : SHP[99]? = some (.inl (.int, 230)) := rfl
theorem sh_100 : SHP[100]? = some (.inl (.int, 230)) := rfl
theorem sh_101 : SHP[101]? = some (.inl (.int, 230)) := rfl
theorem sh_102 : SHP[102]? = some (.inl (.int, 36)) := rfl
theorem sh_103 : SHP[103]? = some (.inl (.int, 25)) := rfl
theorem sh_104 : SHP[104]? = some (.inl (.int, 25)) := rfl
theorem sh_105 : SHP[105]? = some (.inl (.int, 4)) := rfl
theorem sh_106 : SHP[106]? = some (.inl (.int, 24)) := rfl
theorem sh_107 : SHP[107]? = some (.inl (.boolean, 24)) := rfl
theorem sh_108 : SHP[108]? = some (.inl (.int, 24)) := rfl
theorem sh_109 : SHP[109]? = some (.inl (.boolean, 24)) := rfl
