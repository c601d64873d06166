/-! A CALL OF THE LAW: the class, then the reference, by the walk -/
theorem call_feed (a1 a2 a3 a4 a5 : Int32) {M : fm_M} (h : Inv M M) : fm_ct 1000 mX9_feed [.ref 0, .int a1, .int a2, .int a3, .int a4, .int a5] M (fun r M1 => ∃ v, r = some (.int v) ∧ fm_ct 1000 mX10_feed [.ref 76, .int a1, .int a2, .int a3, .int a4, .int a5] M1 (fun r2 M2 => r2 = some (.int v) ∧ Inv M2 M2)) := by
  obtain ⟨v, M1, M2, e1, e2, e3⟩ := on_feed a1 a2 a3 a4 a5 h
  exact sp_X9_feed (d := 999) e1 ⟨v, rfl, sp_X10_feed (d := 1000) e2 ⟨rfl, e3⟩⟩
theorem call_text (a : Int32) {M : fm_M} (h : Inv M M) : fm_ct 1000 mX9_text [.ref 0, .int a] M (fun r M1 => ∃ v, r = some (.int v) ∧ fm_ct 1000 mX10_text [.ref 76, .int a] M1 (fun r2 M2 => r2 = some (.int v) ∧ Inv M2 M2)) := by
  obtain ⟨v, M1, M2, e1, e2, e3⟩ := on_text a h
  exact sp_X9_text (d := 910) e1 ⟨v, rfl, sp_X10_text (d := 7) e2 ⟨rfl, e3⟩⟩
theorem call_fault (a1 : Int32) {M : fm_M} (h : Inv M M) : fm_ct 1000 mX9_fault [.ref 0, .int a1] M (fun r M1 => ∃ v, r = some (.int v) ∧ fm_ct 1000 mX10_fault [.ref 76, .int a1] M1 (fun r2 M2 => r2 = some (.int v) ∧ Inv M2 M2)) := by
  obtain ⟨v, M1, M2, e1, e2, e3⟩ := on_fault a1 h
  exact sp_X9_fault (d := 1000) e1 ⟨v, rfl, sp_X10_fault (d := 1000) e2 ⟨rfl, e3⟩⟩
theorem call_named (a1 a2 : Int32) {M : fm_M} (h : Inv M M) : fm_ct 1000 mX9_named [.ref 0, .int a1, .int a2] M (fun r M1 => ∃ v, r = some (.int v) ∧ fm_ct 1000 mX10_named [.ref 76, .int a1, .int a2] M1 (fun r2 M2 => r2 = some (.int v) ∧ Inv M2 M2)) := by
  obtain ⟨v, M1, M2, e1, e2, e3⟩ := on_named a1 a2 h
  exact sp_X9_named (d := 998) e1 ⟨v, rfl, sp_X10_named (d := 999) e2 ⟨rfl, e3⟩⟩
theorem call_fork (a1 a2 : Int32) {M : fm_M} (h : Inv M M) : fm_ct 1000 mX9_fork [.ref 0, .int a1, .int a2] M (fun r M1 => ∃ v, r = some (.int v) ∧ fm_ct 1000 mX10_fork [.ref 76, .int a1, .int a2] M1 (fun r2 M2 => r2 = some (.int v) ∧ Inv M2 M2)) := by
  obtain ⟨v, M1, M2, e1, e2, e3⟩ := on_fork a1 a2 h
  exact sp_X9_fork (d := 999) e1 ⟨v, rfl, sp_X10_fork (d := 999) e2 ⟨rfl, e3⟩⟩
theorem call_wet (a1 : Int32) {M : fm_M} (h : Inv M M) : fm_ct 1000 mX9_wet [.ref 0, .int a1] M (fun r M1 => ∃ v, r = some (.int v) ∧ fm_ct 1000 mX10_wet [.ref 76, .int a1] M1 (fun r2 M2 => r2 = some (.int v) ∧ Inv M2 M2)) := by
  obtain ⟨v, M1, M2, e1, e2, e3⟩ := on_wet a1 h
  exact sp_X9_wet (d := 999) e1 ⟨v, rfl, sp_X10_wet (d := 999) e2 ⟨rfl, e3⟩⟩
theorem call_beats (a1 a2 : Int32) {M : fm_M} (h : Inv M M) : fm_ct 1000 mX9_beats [.ref 0, .int a1, .int a2] M (fun r M1 => ∃ v, r = some (.int v) ∧ fm_ct 1000 mX10_beats [.ref 76, .int a1, .int a2] M1 (fun r2 M2 => r2 = some (.int v) ∧ Inv M2 M2)) := by
  obtain ⟨v, M1, M2, e1, e2, e3⟩ := on_beats a1 a2 h
  exact sp_X9_beats (d := 997) e1 ⟨v, rfl, sp_X10_beats (d := 996) e2 ⟨rfl, e3⟩⟩
theorem call_hums (a1 a2 : Int32) {M : fm_M} (h : Inv M M) : fm_ct 1000 mX9_hums [.ref 0, .int a1, .int a2] M (fun r M1 => ∃ v, r = some (.int v) ∧ fm_ct 1000 mX10_hums [.ref 76, .int a1, .int a2] M1 (fun r2 M2 => r2 = some (.int v) ∧ Inv M2 M2)) := by
  obtain ⟨v, M1, M2, e1, e2, e3⟩ := on_hums a1 a2 h
  exact sp_X9_hums (d := 996) e1 ⟨v, rfl, sp_X10_hums (d := 993) e2 ⟨rfl, e3⟩⟩
theorem call_struck (a1 a2 : Int32) {M : fm_M} (h : Inv M M) : fm_ct 1000 mX9_struck [.ref 0, .int a1, .int a2] M (fun r M1 => ∃ v, r = some (.int v) ∧ fm_ct 1000 mX10_struck [.ref 76, .int a1, .int a2] M1 (fun r2 M2 => r2 = some (.int v) ∧ Inv M2 M2)) := by
  obtain ⟨v, M1, M2, e1, e2, e3⟩ := on_struck a1 a2 h
  exact sp_X9_struck (d := 994) e1 ⟨v, rfl, sp_X10_struck (d := 992) e2 ⟨rfl, e3⟩⟩
theorem call_law (a1 a2 a3 : Int32) {M : fm_M} (h : Inv M M) : fm_ct 1000 mX9_law [.ref 0, .int a1, .int a2, .int a3] M (fun r M1 => ∃ v, r = some (.long v) ∧ fm_ct 1000 mX10_law [.ref 76, .int a1, .int a2, .int a3] M1 (fun r2 M2 => r2 = some (.long v) ∧ Inv M2 M2)) := by
  obtain ⟨v, M1, M2, e1, e2, e3⟩ := on_law a1 a2 a3 h
  exact sp_X9_law (d := 995) e1 ⟨v, rfl, sp_X10_law (d := 992) e2 ⟨rfl, e3⟩⟩
theorem call_touch (a1 a2 : Int32) {M : fm_M} (h : Inv M M) : fm_ct 1000 mX9_touch [.ref 0, .int a1, .int a2] M (fun r M1 => ∃ v, r = some (.int v) ∧ fm_ct 1000 mX10_touch [.ref 76, .int a1, .int a2] M1 (fun r2 M2 => r2 = some (.int v) ∧ Inv M2 M2)) := by
  obtain ⟨v, M1, M2, e1, e2, e3⟩ := on_touch a1 a2 h
  exact sp_X9_touch (d := 997) e1 ⟨v, rfl, sp_X10_touch (d := 998) e2 ⟨rfl, e3⟩⟩
theorem call_file (a1 a2 : Int32) {M : fm_M} (h : Inv M M) : fm_ct 1000 mX9_file [.ref 0, .int a1, .int a2] M (fun r M1 => ∃ v, r = some (.int v) ∧ fm_ct 1000 mX10_file [.ref 76, .int a1, .int a2] M1 (fun r2 M2 => r2 = some (.int v) ∧ Inv M2 M2)) := by
  obtain ⟨v, M1, M2, e1, e2, e3⟩ := on_file a1 a2 h
  exact sp_X9_file (d := 997) e1 ⟨v, rfl, sp_X10_file (d := 998) e2 ⟨rfl, e3⟩⟩
theorem call_put (a1 a2 : Int32) {M : fm_M} (h : Inv M M) : fm_ct 1000 mX9_put [.ref 0, .int a1, .int a2] M (fun r M1 => ∃ v, r = some (.int v) ∧ fm_ct 1000 mX10_put [.ref 76, .int a1, .int a2] M1 (fun r2 M2 => r2 = some (.int v) ∧ Inv M2 M2)) := by
  obtain ⟨v, M1, M2, e1, e2, e3⟩ := on_put a1 a2 h
  exact sp_X9_put (d := 997) e1 ⟨v, rfl, sp_X10_put (d := 998) e2 ⟨rfl, e3⟩⟩
theorem call_earn (a1 : Int32) {M : fm_M} (h : Inv M M) : fm_ct 1000 mX9_earn [.ref 0, .int a1] M (fun r M1 => ∃ v, r = some (.int v) ∧ fm_ct 1000 mX10_earn [.ref 76, .int a1] M1 (fun r2 M2 => r2 = some (.int v) ∧ Inv M2 M2)) := by
  obtain ⟨v, M1, M2, e1, e2, e3⟩ := on_earn a1 h
  exact sp_X9_earn (d := 997) e1 ⟨v, rfl, sp_X10_earn (d := 998) e2 ⟨rfl, e3⟩⟩
theorem call_go (a1 : Int32) {M : fm_M} (h : Inv M M) : fm_ct 1000 mX9_go [.ref 0, .int a1] M (fun r M1 => ∃ v, r = some (.int v) ∧ fm_ct 1000 mX10_go [.ref 76, .int a1] M1 (fun r2 M2 => r2 = some (.int v) ∧ Inv M2 M2)) := by
  obtain ⟨v, M1, M2, e1, e2, e3⟩ := on_go a1 h
  exact sp_X9_go (d := 993) e1 ⟨v, rfl, sp_X10_go (d := 990) e2 ⟨rfl, e3⟩⟩
theorem call_ahead (a1 a2 a3 : Int32) {M : fm_M} (h : Inv M M) : fm_ct 1000 mX9_ahead [.ref 0, .int a1, .int a2, .int a3] M (fun r M1 => ∃ v, r = some (.int v) ∧ fm_ct 1000 mX10_ahead [.ref 76, .int a1, .int a2, .int a3] M1 (fun r2 M2 => r2 = some (.int v) ∧ Inv M2 M2)) := by
  obtain ⟨v, M1, M2, e1, e2, e3⟩ := on_ahead a1 a2 a3 h
  exact sp_X9_ahead (d := 993) e1 ⟨v, rfl, sp_X10_ahead (d := 989) e2 ⟨rfl, e3⟩⟩
theorem call_best (a1 : Int32) {M : fm_M} (h : Inv M M) : fm_ct 1000 mX9_best [.ref 0, .int a1] M (fun r M1 => ∃ v, r = some (.int v) ∧ fm_ct 1000 mX10_best [.ref 76, .int a1] M1 (fun r2 M2 => r2 = some (.int v) ∧ Inv M2 M2)) := by
  obtain ⟨v, M1, M2, e1, e2, e3⟩ := on_best a1 h
  exact sp_X9_best (d := 995) e1 ⟨v, rfl, sp_X10_best (d := 992) e2 ⟨rfl, e3⟩⟩
theorem call_open {M : fm_M} (h : Inv M M) : fm_ct 1000 mX9_open [.ref 0] M (fun r M1 => ∃ v, r = some (.int v) ∧ fm_ct 1000 mX10_open [.ref 76] M1 (fun r2 M2 => r2 = some (.int v) ∧ Inv M2 M2)) := by
  obtain ⟨v, M1, M2, e1, e2, e3⟩ := on_open h
  exact sp_X9_open (d := 994) e1 ⟨v, rfl, sp_X10_open (d := 992) e2 ⟨rfl, e3⟩⟩
theorem call_bribe (a1 a2 : Int32) {M : fm_M} (h : Inv M M) : fm_ct 1000 mX9_bribe [.ref 0, .int a1, .int a2] M (fun r M1 => ∃ v, r = some (.int v) ∧ fm_ct 1000 mX10_bribe [.ref 76, .int a1, .int a2] M1 (fun r2 M2 => r2 = some (.int v) ∧ Inv M2 M2)) := by
  obtain ⟨v, M1, M2, e1, e2, e3⟩ := on_bribe a1 a2 h
  exact sp_X9_bribe (d := 994) e1 ⟨v, rfl, sp_X10_bribe (d := 993) e2 ⟨rfl, e3⟩⟩
theorem call_swing (a1 a2 : Int32) {M : fm_M} (h : Inv M M) : fm_ct 1000 mX9_swing [.ref 0, .int a1, .int a2] M (fun r M1 => ∃ v, r = some (.int v) ∧ fm_ct 1000 mX10_swing [.ref 76, .int a1, .int a2] M1 (fun r2 M2 => r2 = some (.int v) ∧ Inv M2 M2)) := by
  obtain ⟨v, M1, M2, e1, e2, e3⟩ := on_swing a1 a2 h
  exact sp_X9_swing (d := 995) e1 ⟨v, rfl, sp_X10_swing (d := 993) e2 ⟨rfl, e3⟩⟩
theorem call_censure (a1 : Int32) {M : fm_M} (h : Inv M M) : fm_ct 1000 mX9_censure [.ref 0, .int a1] M (fun r M1 => ∃ v, r = some (.int v) ∧ fm_ct 1000 mX10_censure [.ref 76, .int a1] M1 (fun r2 M2 => r2 = some (.int v) ∧ Inv M2 M2)) := by
  obtain ⟨v, M1, M2, e1, e2, e3⟩ := on_censure a1 h
  exact sp_X9_censure (d := 995) e1 ⟨v, rfl, sp_X10_censure (d := 993) e2 ⟨rfl, e3⟩⟩
theorem call_party (a1 a2 : Int32) {M : fm_M} (h : Inv M M) : fm_ct 1000 mX9_party [.ref 0, .int a1, .int a2] M (fun r M1 => ∃ v, r = some (.int v) ∧ fm_ct 1000 mX10_party [.ref 76, .int a1, .int a2] M1 (fun r2 M2 => r2 = some (.int v) ∧ Inv M2 M2)) := by
  obtain ⟨v, M1, M2, e1, e2, e3⟩ := on_party a1 a2 h
  exact sp_X9_party (d := 996) e1 ⟨v, rfl, sp_X10_party (d := 993) e2 ⟨rfl, e3⟩⟩
theorem call_rests (a1 a2 a3 : Int32) {M : fm_M} (h : Inv M M) : fm_ct 1000 mX9_rests [.ref 0, .int a1, .int a2, .int a3] M (fun r M1 => ∃ v, r = some (.int v) ∧ fm_ct 1000 mX10_rests [.ref 76, .int a1, .int a2, .int a3] M1 (fun r2 M2 => r2 = some (.int v) ∧ Inv M2 M2)) := by
  obtain ⟨v, M1, M2, e1, e2, e3⟩ := on_rests a1 a2 a3 h
  exact sp_X9_rests (d := 993) e1 ⟨v, rfl, sp_X10_rests (d := 991) e2 ⟨rfl, e3⟩⟩
theorem call_rest (a1 a2 a3 a4 : Int32) {M : fm_M} (h : Inv M M) : fm_ct 1000 mX9_rest [.ref 0, .int a1, .int a2, .int a3, .int a4] M (fun r M1 => ∃ v, r = some (.int v) ∧ fm_ct 1000 mX10_rest [.ref 76, .int a1, .int a2, .int a3, .int a4] M1 (fun r2 M2 => r2 = some (.int v) ∧ Inv M2 M2)) := by
  obtain ⟨v, M1, M2, e1, e2, e3⟩ := on_rest a1 a2 a3 a4 h
  exact sp_X9_rest (d := 993) e1 ⟨v, rfl, sp_X10_rest (d := 991) e2 ⟨rfl, e3⟩⟩
theorem call_likely (a1 a2 : Int32) {M : fm_M} (h : Inv M M) : fm_ct 1000 mX9_likely [.ref 0, .int a1, .int a2] M (fun r M1 => ∃ v, r = some (.int v) ∧ fm_ct 1000 mX10_likely [.ref 76, .int a1, .int a2] M1 (fun r2 M2 => r2 = some (.int v) ∧ Inv M2 M2)) := by
  obtain ⟨v, M1, M2, e1, e2, e3⟩ := on_likely a1 a2 h
  exact sp_X9_likely (d := 994) e1 ⟨v, rfl, sp_X10_likely (d := 992) e2 ⟨rfl, e3⟩⟩
theorem call_order (a1 a2 : Int32) {M : fm_M} (h : Inv M M) : fm_ct 1000 mX9_order [.ref 0, .int a1, .int a2] M (fun r M1 => ∃ v, r = some (.int v) ∧ fm_ct 1000 mX10_order [.ref 76, .int a1, .int a2] M1 (fun r2 M2 => r2 = some (.int v) ∧ Inv M2 M2)) := by
  obtain ⟨v, M1, M2, e1, e2, e3⟩ := on_order a1 a2 h
  exact sp_X9_order (d := 993) e1 ⟨v, rfl, sp_X10_order (d := 988) e2 ⟨rfl, e3⟩⟩
theorem call_room (a1 a2 : Int32) {M : fm_M} (h : Inv M M) : fm_ct 1000 mX9_room [.ref 0, .int a1, .int a2] M (fun r M1 => ∃ v, r = some (.int v) ∧ fm_ct 1000 mX10_room [.ref 76, .int a1, .int a2] M1 (fun r2 M2 => r2 = some (.int v) ∧ Inv M2 M2)) := by
  obtain ⟨v, M1, M2, e1, e2, e3⟩ := on_room a1 a2 h
  exact sp_X9_room (d := 997) e1 ⟨v, rfl, sp_X10_room (d := 996) e2 ⟨rfl, e3⟩⟩
theorem call_minute (a1 a2 : Int32) (hb : a2 = 0 ∨ a2 = 1) {M : fm_M} (h : Inv M M) : fm_ct 1000 mX9_minute [.ref 0, .int a1, .int a2] M (fun r M1 => ∃ v, r = some (.int v) ∧ fm_ct 1000 mX10_minute [.ref 76, .int a1, .int a2] M1 (fun r2 M2 => r2 = some (.int v) ∧ Inv M2 M2)) := by
  obtain ⟨v, M1, M2, e1, e2, e3⟩ := on_minute a1 a2 hb h
  exact sp_X9_minute (d := 999) e1 ⟨v, rfl, sp_X10_minute (d := 999) e2 ⟨rfl, e3⟩⟩
theorem call_out (a1 : Int32) {M : fm_M} (h : Inv M M) : fm_ct 1000 mX9_out [.ref 0, .int a1] M (fun r M1 => ∃ v, r = some (.int v) ∧ fm_ct 1000 mX10_out [.ref 76, .int a1] M1 (fun r2 M2 => r2 = some (.int v) ∧ Inv M2 M2)) := by
  obtain ⟨v, M1, M2, e1, e2, e3⟩ := on_out a1 h
  exact sp_X9_out (d := 999) e1 ⟨v, rfl, sp_X10_out (d := 1000) e2 ⟨rfl, e3⟩⟩
theorem call_known (a1 : Int32) {M : fm_M} (h : Inv M M) : fm_ct 1000 mX9_known [.ref 0, .int a1] M (fun r M1 => ∃ v, r = some (.int v) ∧ fm_ct 1000 mX10_known [.ref 76, .int a1] M1 (fun r2 M2 => r2 = some (.int v) ∧ Inv M2 M2)) := by
  obtain ⟨v, M1, M2, e1, e2, e3⟩ := on_known a1 h
  exact sp_X9_known (d := 1000) e1 ⟨v, rfl, sp_X10_known (d := 1000) e2 ⟨rfl, e3⟩⟩
theorem call_widths (a1 : Int32) {M : fm_M} (h : Inv M M) : fm_ct 1000 mX9_widths [.ref 0, .int a1] M (fun r M1 => ∃ v, r = some (.int v) ∧ fm_ct 1000 mX10_widths [.ref 76, .int a1] M1 (fun r2 M2 => r2 = some (.int v) ∧ Inv M2 M2)) := by
  obtain ⟨v, M1, M2, e1, e2, e3⟩ := on_widths a1 h
  exact sp_X9_widths (d := 993) e1 ⟨v, rfl, sp_X10_widths (d := 988) e2 ⟨rfl, e3⟩⟩
theorem call_chance (a1 a2 a3 : Int32) {M : fm_M} (h : Inv M M) : fm_ct 1000 mX9_chance [.ref 0, .int a1, .int a2, .int a3] M (fun r M1 => ∃ v, r = some (.int v) ∧ fm_ct 1000 mX10_chance [.ref 76, .int a1, .int a2, .int a3] M1 (fun r2 M2 => r2 = some (.int v) ∧ Inv M2 M2)) := by
  obtain ⟨v, M1, M2, e1, e2, e3⟩ := on_chance a1 a2 a3 h
  exact sp_X9_chance (d := 993) e1 ⟨v, rfl, sp_X10_chance (d := 990) e2 ⟨rfl, e3⟩⟩
theorem call_tried (a1 a2 a3 : Int32) {M : fm_M} (h : Inv M M) : fm_ct 1000 mX9_tried [.ref 0, .int a1, .int a2, .int a3] M (fun r M1 => ∃ v, r = some (.int v) ∧ fm_ct 1000 mX10_tried [.ref 76, .int a1, .int a2, .int a3] M1 (fun r2 M2 => r2 = some (.int v) ∧ Inv M2 M2)) := by
  obtain ⟨v, M1, M2, e1, e2, e3⟩ := on_tried a1 a2 a3 h
  exact sp_X9_tried (d := 993) e1 ⟨v, rfl, sp_X10_tried (d := 989) e2 ⟨rfl, e3⟩⟩
theorem call_undo {M : fm_M} (h : Inv M M) : fm_ct 1000 mX9_undo [.ref 0] M (fun r M1 => ∃ v, r = some (.int v) ∧ fm_ct 1000 mX10_undo [.ref 76] M1 (fun r2 M2 => r2 = some (.int v) ∧ Inv M2 M2)) := by
  obtain ⟨v, M1, M2, e1, e2, e3⟩ := on_undo h
  exact sp_X9_undo (d := 999) e1 ⟨v, rfl, sp_X10_undo (d := 999) e2 ⟨rfl, e3⟩⟩
theorem call_keep {M : fm_M} (h : Inv M M) : fm_ct 1000 mX9_keep [.ref 0] M (fun r M1 => ∃ v, r = some (.int v) ∧ fm_ct 1000 mX10_keep [.ref 76] M1 (fun r2 M2 => r2 = some (.int v) ∧ Inv M2 M2)) := by
  obtain ⟨v, M1, M2, e1, e2, e3⟩ := on_keep h
  exact sp_X9_keep (d := 998) e1 ⟨v, rfl, sp_X10_keep (d := 999) e2 ⟨rfl, e3⟩⟩
theorem call_back {M : fm_M} (h : Inv M M) : fm_ct 1000 mX9_back [.ref 0] M (fun r M1 => ∃ v, r = some (.int v) ∧ fm_ct 1000 mX10_back [.ref 76] M1 (fun r2 M2 => r2 = some (.int v) ∧ Inv M2 M2)) := by
  obtain ⟨v, M1, M2, e1, e2, e3⟩ := on_back h
  exact sp_X9_back (d := 998) e1 ⟨v, rfl, sp_X10_back (d := 999) e2 ⟨rfl, e3⟩⟩
theorem call_count (a1 : Int32) {M : fm_M} (h : Inv M M) : fm_ct 1000 mX9_count [.ref 0, .int a1] M (fun r M1 => ∃ v, r = some (.int v) ∧ fm_ct 1000 mX10_count [.ref 76, .int a1] M1 (fun r2 M2 => r2 = some (.int v) ∧ Inv M2 M2)) := by
  obtain ⟨v, M1, M2, e1, e2, e3⟩ := on_count a1 h
  exact sp_X9_count (d := 999) e1 ⟨v, rfl, sp_X10_count (d := 998) e2 ⟨rfl, e3⟩⟩
