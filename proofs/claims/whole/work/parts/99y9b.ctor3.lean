/-! the made world is that of the flat memory; what it holds -/
theorem iM_ws (ca : FieldType → ClassId) (g : Nat → Int32) (b0 bm sa : Nat → Nat) : wsX9 ca g b0 ++ wsX10 ca bm = fm_ws (iad b0 bm sa) ca (iM g) := by
  have e : fm_ws (iad b0 bm sa) ca (iM g) = gx (gxF ca g b0 bm sa) 0 SHP := by rw [gx_eq]; rfl
  have a0 : gx (gxF ca g b0 bm sa) 0 (sg0 ++ (sg1 ++ (sg2 ++ (sg3 ++ (sg4 ++ (sg5 ++ (sg6 ++ (sg7 ++ (sg8 ++ (sg9 ++ (sg10 ++ sg11))))))))))) = gx (gxF ca g b0 bm sa) 0 sg0 ++ gx (gxF ca g b0 bm sa) 1 (sg1 ++ (sg2 ++ (sg3 ++ (sg4 ++ (sg5 ++ (sg6 ++ (sg7 ++ (sg8 ++ (sg9 ++ (sg10 ++ sg11)))))))))) := gx_app _ sg0 _ 0
  have a1 : gx (gxF ca g b0 bm sa) 1 (sg1 ++ (sg2 ++ (sg3 ++ (sg4 ++ (sg5 ++ (sg6 ++ (sg7 ++ (sg8 ++ (sg9 ++ (sg10 ++ sg11)))))))))) = gx (gxF ca g b0 bm sa) 1 sg1 ++ gx (gxF ca g b0 bm sa) 21 (sg2 ++ (sg3 ++ (sg4 ++ (sg5 ++ (sg6 ++ (sg7 ++ (sg8 ++ (sg9 ++ (sg10 ++ sg11))))))))) := gx_app _ sg1 _ 1
  have a2 : gx (gxF ca g b0 bm sa) 21 (sg2 ++ (sg3 ++ (sg4 ++ (sg5 ++ (sg6 ++ (sg7 ++ (sg8 ++ (sg9 ++ (sg10 ++ sg11))))))))) = gx (gxF ca g b0 bm sa) 21 sg2 ++ gx (gxF ca g b0 bm sa) 38 (sg3 ++ (sg4 ++ (sg5 ++ (sg6 ++ (sg7 ++ (sg8 ++ (sg9 ++ (sg10 ++ sg11)))))))) := gx_app _ sg2 _ 21
  have a3 : gx (gxF ca g b0 bm sa) 38 (sg3 ++ (sg4 ++ (sg5 ++ (sg6 ++ (sg7 ++ (sg8 ++ (sg9 ++ (sg10 ++ sg11)))))))) = gx (gxF ca g b0 bm sa) 38 sg3 ++ gx (gxF ca g b0 bm sa) 45 (sg4 ++ (sg5 ++ (sg6 ++ (sg7 ++ (sg8 ++ (sg9 ++ (sg10 ++ sg11))))))) := gx_app _ sg3 _ 38
  have a4 : gx (gxF ca g b0 bm sa) 45 (sg4 ++ (sg5 ++ (sg6 ++ (sg7 ++ (sg8 ++ (sg9 ++ (sg10 ++ sg11))))))) = gx (gxF ca g b0 bm sa) 45 sg4 ++ gx (gxF ca g b0 bm sa) 52 (sg5 ++ (sg6 ++ (sg7 ++ (sg8 ++ (sg9 ++ (sg10 ++ sg11)))))) := gx_app _ sg4 _ 45
  have a5 : gx (gxF ca g b0 bm sa) 52 (sg5 ++ (sg6 ++ (sg7 ++ (sg8 ++ (sg9 ++ (sg10 ++ sg11)))))) = gx (gxF ca g b0 bm sa) 52 sg5 ++ gx (gxF ca g b0 bm sa) 59 (sg6 ++ (sg7 ++ (sg8 ++ (sg9 ++ (sg10 ++ sg11))))) := gx_app _ sg5 _ 52
  have a6 : gx (gxF ca g b0 bm sa) 59 (sg6 ++ (sg7 ++ (sg8 ++ (sg9 ++ (sg10 ++ sg11))))) = gx (gxF ca g b0 bm sa) 59 sg6 ++ gx (gxF ca g b0 bm sa) 63 (sg7 ++ (sg8 ++ (sg9 ++ (sg10 ++ sg11)))) := gx_app _ sg6 _ 59
  have a7 : gx (gxF ca g b0 bm sa) 63 (sg7 ++ (sg8 ++ (sg9 ++ (sg10 ++ sg11)))) = gx (gxF ca g b0 bm sa) 63 sg7 ++ gx (gxF ca g b0 bm sa) 66 (sg8 ++ (sg9 ++ (sg10 ++ sg11))) := gx_app _ sg7 _ 63
  have a8 : gx (gxF ca g b0 bm sa) 66 (sg8 ++ (sg9 ++ (sg10 ++ sg11))) = gx (gxF ca g b0 bm sa) 66 sg8 ++ gx (gxF ca g b0 bm sa) 70 (sg9 ++ (sg10 ++ sg11)) := gx_app _ sg8 _ 66
  have a9 : gx (gxF ca g b0 bm sa) 70 (sg9 ++ (sg10 ++ sg11)) = gx (gxF ca g b0 bm sa) 70 sg9 ++ gx (gxF ca g b0 bm sa) 73 (sg10 ++ sg11) := gx_app _ sg9 _ 70
  have a10 : gx (gxF ca g b0 bm sa) 73 (sg10 ++ sg11) = gx (gxF ca g b0 bm sa) 73 sg10 ++ gx (gxF ca g b0 bm sa) 76 sg11 := gx_app _ sg10 _ 73
  rw [e, sg_all, a0, a1, a2, a3, a4, a5, a6, a7, a8, a9, a10, pc_0, pc_1, pc_2, pc_3, pc_4, pc_5, pc_6, pc_7, pc_8, pc_9, pc_10, pc_12]
  simp only [wsX9, List.append_assoc, List.cons_append, List.nil_append]
theorem iM_st0 {g : Nat → Int32} (hg : ∀ i, i < 22 → g i = lt_w i) : st0 (iM g) := by
  refine ⟨⟨rfl, rfl, rfl, fun i hi => ?_⟩, ⟨rfl, rfl, rfl⟩, ⟨rfl, rfl, rfl, rfl, rfl, rfl, rfl, rfl, rfl⟩, fun r _ => ⟨rfl, rfl⟩, ⟨rfl, rfl, rfl, rfl, rfl, rfl, rfl, rfl⟩, ⟨rfl, rfl, rfl⟩, ⟨rfl, rfl, rfl, rfl, rfl, rfl, rfl, rfl, rfl, rfl, rfl⟩, ⟨rfl, rfl, rfl, rfl, rfl, rfl, rfl, rfl, rfl⟩, fun r _ => ⟨rfl, rfl⟩⟩
  show g i = _
  rw [hg i hi]
  exact lt_ok i hi
