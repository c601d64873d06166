/-! the reference begun; its motion, and what it says was thrown -/
theorem call_begins {M : fm_M} (h : st0 M) : fm_ct 1000 mX10_begins [.ref 76] M (fun _ M2 => Inv M2 M2) := by
  obtain ⟨M2, e1, e2⟩ := on_start h
  exact sp_X10_begins (d := 999) (Q := fun _ M2 => Inv M2 M2) e1 e2
theorem call_motionM {M : fm_M} (a1 a2 : Int32) {w s : Int32} (e : F_X10_motion a1 a2 M = some (w, fm_up M 76 0 s)) : fm_ct 1000 mX10_motion [.ref 76, .int a1, .int a2] M (fun r M2 => r = some (.int w) ∧ M2 = fm_up M 76 0 s) := sp_X10_motion (d := 999) e ⟨rfl, rfl⟩
theorem call_thrown {M : fm_M} : fm_ct 1000 mX10_thrown [.ref 76] M (fun r M2 => r = some (.int (M.1 76 0)) ∧ M2 = M) := sp_X10_thrown (d := 1000) (x := (M.1 76 0, M)) rfl ⟨rfl, rfl⟩
