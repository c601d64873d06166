theorem sq_X10_goOn  {M : fm_M} {x : Unit × fm_M} {Q : Option Value → fm_M → Prop} {D : Nat} (h : F_X10_goOn  M = some x) (hq : Q none x.2) (hD : 6 ≤ D) : fm_ct D mX10_goOn [.ref 76] M Q := by
  obtain ⟨d, rfl⟩ : ∃ d, D = d + 6 := ⟨D - 6, by omega⟩
  exact sp_X10_goOn h hq
theorem sq_X10_isSign {a1 : Int32} {M : fm_M} {x : Int32 × fm_M} {Q : Option Value → fm_M → Prop} {D : Nat} (h : F_X10_isSign a1 M = some x) (hq : Q (some (.int x.1)) x.2) (hD : 0 ≤ D) : fm_ct D mX10_isSign [.ref 76, .int a1] M Q := by
  obtain ⟨d, rfl⟩ : ∃ d, D = d + 0 := ⟨D - 0, by omega⟩
  exact sp_X10_isSign h hq
theorem sq_X10_isWord {a1 : Int32} {M : fm_M} {x : Int32 × fm_M} {Q : Option Value → fm_M → Prop} {D : Nat} (h : F_X10_isWord a1 M = some x) (hq : Q (some (.int x.1)) x.2) (hD : 0 ≤ D) : fm_ct D mX10_isWord [.ref 76, .int a1] M Q := by
  obtain ⟨d, rfl⟩ : ∃ d, D = d + 0 := ⟨D - 0, by omega⟩
  exact sp_X10_isWord h hq
theorem sq_X10_knot  {M : fm_M} {x : Unit × fm_M} {Q : Option Value → fm_M → Prop} {D : Nat} (h : F_X10_knot  M = some x) (hq : Q none x.2) (hD : 1 ≤ D) : fm_ct D mX10_knot [.ref 76] M Q := by
  obtain ⟨d, rfl⟩ : ∃ d, D = d + 1 := ⟨D - 1, by omega⟩
  exact sp_X10_knot h hq
theorem sq_X10_puts {a1 : Int32} {a2 : Int32} {M : fm_M} {x : Unit × fm_M} {Q : Option Value → fm_M → Prop} {D : Nat} (h : F_X10_puts a1 a2 M = some x) (hq : Q none x.2) (hD : 1 ≤ D) : fm_ct D mX10_puts [.ref 76, .int a1, .int a2] M Q := by
  obtain ⟨d, rfl⟩ : ∃ d, D = d + 1 := ⟨D - 1, by omega⟩
  exact sp_X10_puts h hq
theorem sq_X10_token  {M : fm_M} {x : Unit × fm_M} {Q : Option Value → fm_M → Prop} {D : Nat} (h : F_X10_token  M = some x) (hq : Q none x.2) (hD : 5 ≤ D) : fm_ct D mX10_token [.ref 76] M Q := by
  obtain ⟨d, rfl⟩ : ∃ d, D = d + 5 := ⟨D - 5, by omega⟩
  exact sp_X10_token h hq
theorem sq_X10_wrong {a1 : Int32} {M : fm_M} {x : Unit × fm_M} {Q : Option Value → fm_M → Prop} {D : Nat} (h : F_X10_wrong a1 M = some x) (hq : Q none x.2) (hD : 0 ≤ D) : fm_ct D mX10_wrong [.ref 76, .int a1] M Q := by
  obtain ⟨d, rfl⟩ : ∃ d, D = d + 0 := ⟨D - 0, by omega⟩
  exact sp_X10_wrong h hq
/-! X10_primary -/
def J_X10_primary_176 (rE : fm_M → Option (Unit × fm_M)) (l1 : Int32) (s1 : Int32) (M : fm_M) : Option (Unit × fm_M) :=
    if l1 = 0 then (
      fm_bd (F_X10_puts s1 ((M.1 76 23) - 15) M) (fun v5 M6 =>
      fm_bd (F_X10_goOn M6) (fun v7 M8 =>
      some ((), M8)))
    ) else (
      fm_bd (F_X10_puts s1 (M.1 76 23) M) (fun v9 M10 =>
      fm_bd (F_X10_goOn M10) (fun v11 M12 =>
      some ((), M12)))
    )
def J_X10_primary_162 (rE : fm_M → Option (Unit × fm_M)) (l1 : Int32) (M : fm_M) : Option (Unit × fm_M) :=
    fm_bd (F_X10_knot M) (fun v3 M4 =>
    if l1 = 0 then (
      J_X10_primary_176 rE l1 1 M4
    ) else (
      J_X10_primary_176 rE l1 0 M4
    ))
def J_X10_primary_157 (rE : fm_M → Option (Unit × fm_M)) (l1 : Int32) (M : fm_M) : Option (Unit × fm_M) :=
    fm_bd (F_X10_wrong 1 M) (fun v13 M14 =>
    J_X10_primary_162 rE l1 M14)
def J_X10_primary_137 (rE : fm_M → Option (Unit × fm_M)) (l1 : Int32) (M : fm_M) : Option (Unit × fm_M) :=
    if l1 = 0 then (
      if (M.1 76 22) = 0 then (
        if 15 ≤ (M.1 76 23) then (
          J_X10_primary_162 rE l1 M
        ) else (
          J_X10_primary_157 rE l1 M
        )
      ) else (
        J_X10_primary_157 rE l1 M
      )
    ) else (
      J_X10_primary_162 rE l1 M
    )
def J_X10_primary_114 (rE : fm_M → Option (Unit × fm_M)) (s0 : Int32) (M : fm_M) : Option (Unit × fm_M) :=
    if s0 = 0 then (
      J_X10_primary_137 rE s0 M
    ) else (
      if (M.1 76 23) ≤ 9999 then (
        J_X10_primary_137 rE s0 M
      ) else (
        fm_bd (F_X10_wrong 2 M) (fun v15 M16 =>
        J_X10_primary_162 rE s0 M16)
      )
    )
def J_X10_primary_78 (rE : fm_M → Option (Unit × fm_M))  (M : fm_M) : Option (Unit × fm_M) :=
    if (M.1 76 24) = 0 then (
      fm_lt (fm_up M 76 28 ((M.1 76 28) - 1)) (fun M22 =>
      fm_bd (F_X10_token M22) (fun v23 M24 =>
      some ((), M24)))
    ) else (
      some ((), M)
    )
def J_X10_primary_31 (rE : fm_M → Option (Unit × fm_M))  (M : fm_M) : Option (Unit × fm_M) :=
    if (M.1 76 24) = 0 then (
      fm_lt (fm_up M 76 28 ((M.1 76 28) + 1)) (fun M17 =>
      fm_bd (F_X10_token M17) (fun v18 M19 =>
      fm_bd (rE M19) (fun v20 M21 =>
      if (M21.1 76 24) = 0 then (
        fm_bd (F_X10_isSign 41 M21) (fun v25 M26 =>
        if v25 = 0 then (
          fm_bd (F_X10_wrong 1 M26) (fun v27 M28 =>
          J_X10_primary_78 rE M28)
        ) else (
          J_X10_primary_78 rE M26
        ))
      ) else (
        J_X10_primary_78 rE M21
      ))))
    ) else (
      some ((), M)
    )
def H_X10_primary (rE : fm_M → Option (Unit × fm_M))  (M : fm_M) : Option (Unit × fm_M) :=
    if (M.1 76 24) = 0 then (
      fm_bd (F_X10_isSign 40 M) (fun v1 M2 =>
      if v1 = 0 then (
        if (M2.1 76 22) = 2 then (
          J_X10_primary_114 rE 1 M2
        ) else (
          J_X10_primary_114 rE 0 M2
        )
      ) else (
        if (M2.1 76 28) = 8 then (
          fm_bd (F_X10_wrong 2 M2) (fun v29 M30 =>
          J_X10_primary_31 rE M30)
        ) else (
          J_X10_primary_31 rE M2
        )
      ))
    ) else (
      some ((), M)
    )
theorem jn_X10_primary_176 {d : Nat} {Q : Option Value → fm_M → Prop} {rE : fm_M → Option (Unit × fm_M)} {ke : Nat} (hE : ∀ {M : fm_M} {x : Unit × fm_M} {Q : Option Value → fm_M → Prop} {D : Nat}, rE M = some x → Q none x.2 → ke ≤ D → fm_ct D mX10_expression [.ref 76] M Q) (hd : ke + 0 ≤ d) (hK : 6 + 0 ≤ d)  (l1 : Int32) (s1 : Int32) {x : Unit × fm_M}  (hq : Q none x.2) (M : fm_M) (h : J_X10_primary_176 rE l1 s1 M = some x) : fm_mw (d + 1) mX10_primary Q 176 [some (.ref 76), some (.int l1)] [(.int s1), (.ref 76)] M := by
  rw [J_X10_primary_176] at h
  refine fl_iload1 (pc := 176) dX10_primary_176 ?_
  refine fm_if_eq (pc := 177) 187 (by decide) dX10_primary_177 (fun c177 => ?_) (fun c177 => ?_)
  · replace h := fm_itp c177 h
    refine fl_aload0 (pc := 187) dX10_primary_187 ?_
    refine fm_geti (pc := 188) lk_10_159 sh_76 rfl dX10_primary_188 ?_
    refine fm_bipushv (pc := 191) 15 (by decide) dX10_primary_191 ?_
    refine fm_isub (pc := 193) dX10_primary_193 ?_
    obtain ⟨v5, M6, ev5, h⟩ := fm_bdp h
    refine fm_callV (pc := 194) mX10_puts [_, _] _ rfl cvX10_puts ml_10_255 sh_76 rfl rfl (Nat.le_of_ble_eq_true rfl) (Nat.le_of_ble_eq_true rfl) dX10_primary_194 ?_
    refine sq_X10_puts ev5 ?_ (by omega)
    refine fm_ret0 ?_
    refine fl_aload0 (pc := 197) dX10_primary_197 ?_
    obtain ⟨v7, M8, ev7, h⟩ := fm_bdp h
    refine fm_callV (pc := 198) mX10_goOn [] _ rfl cvX10_goOn ml_10_237 sh_76 rfl rfl (Nat.le_of_ble_eq_true rfl) (Nat.le_of_ble_eq_true rfl) dX10_primary_198 ?_
    refine sq_X10_goOn ev7 ?_ (by omega)
    refine fm_ret0 ?_
    refine fm_vret (pc := 201) rfl ?_ dX10_primary_201
    cases h
    exact hq
  · replace h := fm_itn c177 h
    refine fl_aload0 (pc := 180) dX10_primary_180 ?_
    refine fm_geti (pc := 181) lk_10_159 sh_76 rfl dX10_primary_181 ?_
    refine fm_goto (pc := 184) 194 (by decide) dX10_primary_184 ?_
    obtain ⟨v9, M10, ev9, h⟩ := fm_bdp h
    refine fm_callV (pc := 194) mX10_puts [_, _] _ rfl cvX10_puts ml_10_255 sh_76 rfl rfl (Nat.le_of_ble_eq_true rfl) (Nat.le_of_ble_eq_true rfl) dX10_primary_194 ?_
    refine sq_X10_puts ev9 ?_ (by omega)
    refine fm_ret0 ?_
    refine fl_aload0 (pc := 197) dX10_primary_197 ?_
    obtain ⟨v11, M12, ev11, h⟩ := fm_bdp h
    refine fm_callV (pc := 198) mX10_goOn [] _ rfl cvX10_goOn ml_10_237 sh_76 rfl rfl (Nat.le_of_ble_eq_true rfl) (Nat.le_of_ble_eq_true rfl) dX10_primary_198 ?_
    refine sq_X10_goOn ev11 ?_ (by omega)
    refine fm_ret0 ?_
    refine fm_vret (pc := 201) rfl ?_ dX10_primary_201
    cases h
    exact hq
theorem jn_X10_primary_162 {d : Nat} {Q : Option Value → fm_M → Prop} {rE : fm_M → Option (Unit × fm_M)} {ke : Nat} (hE : ∀ {M : fm_M} {x : Unit × fm_M} {Q : Option Value → fm_M → Prop} {D : Nat}, rE M = some x → Q none x.2 → ke ≤ D → fm_ct D mX10_expression [.ref 76] M Q) (hd : ke + 0 ≤ d) (hK : 6 + 0 ≤ d)  (l1 : Int32) {x : Unit × fm_M}  (hq : Q none x.2) (M : fm_M) (h : J_X10_primary_162 rE l1 M = some x) : fm_mw (d + 1) mX10_primary Q 162 [some (.ref 76), some (.int l1)] [] M := by
  rw [J_X10_primary_162] at h
  refine fl_aload0 (pc := 162) dX10_primary_162 ?_
  obtain ⟨v3, M4, ev3, h⟩ := fm_bdp h
  refine fm_callV (pc := 163) mX10_knot [] _ rfl cvX10_knot ml_10_252 sh_76 rfl rfl (Nat.le_of_ble_eq_true rfl) (Nat.le_of_ble_eq_true rfl) dX10_primary_163 ?_
  refine sq_X10_knot ev3 ?_ (by omega)
  refine fm_ret0 ?_
  refine fl_aload0 (pc := 166) dX10_primary_166 ?_
  refine fl_iload1 (pc := 167) dX10_primary_167 ?_
  refine fm_if_eq (pc := 168) 175 (by decide) dX10_primary_168 (fun c168 => ?_) (fun c168 => ?_)
  · replace h := fm_itp c168 h
    refine fm_iconstv (pc := 175) 1 (by decide) dX10_primary_175 ?_
    exact jn_X10_primary_176 hE hd hK _ _  hq _ h
  · replace h := fm_itn c168 h
    refine fm_iconstv (pc := 171) 0 (by decide) dX10_primary_171 ?_
    refine fm_goto (pc := 172) 176 (by decide) dX10_primary_172 ?_
    exact jn_X10_primary_176 hE hd hK _ _  hq _ h
theorem jn_X10_primary_157 {d : Nat} {Q : Option Value → fm_M → Prop} {rE : fm_M → Option (Unit × fm_M)} {ke : Nat} (hE : ∀ {M : fm_M} {x : Unit × fm_M} {Q : Option Value → fm_M → Prop} {D : Nat}, rE M = some x → Q none x.2 → ke ≤ D → fm_ct D mX10_expression [.ref 76] M Q) (hd : ke + 0 ≤ d) (hK : 6 + 0 ≤ d)  (l1 : Int32) {x : Unit × fm_M}  (hq : Q none x.2) (M : fm_M) (h : J_X10_primary_157 rE l1 M = some x) : fm_mw (d + 1) mX10_primary Q 157 [some (.ref 76), some (.int l1)] [] M := by
  rw [J_X10_primary_157] at h
  refine fl_aload0 (pc := 157) dX10_primary_157 ?_
  refine fm_iconstv (pc := 158) 1 (by decide) dX10_primary_158 ?_
  obtain ⟨v13, M14, ev13, h⟩ := fm_bdp h
  refine fm_callV (pc := 159) mX10_wrong [_] _ rfl cvX10_wrong ml_10_193 sh_76 rfl rfl (Nat.le_of_ble_eq_true rfl) (Nat.le_of_ble_eq_true rfl) dX10_primary_159 ?_
  refine sq_X10_wrong ev13 ?_ (by omega)
  refine fm_ret0 ?_
  exact jn_X10_primary_162 hE hd hK _  hq _ h
theorem jn_X10_primary_137 {d : Nat} {Q : Option Value → fm_M → Prop} {rE : fm_M → Option (Unit × fm_M)} {ke : Nat} (hE : ∀ {M : fm_M} {x : Unit × fm_M} {Q : Option Value → fm_M → Prop} {D : Nat}, rE M = some x → Q none x.2 → ke ≤ D → fm_ct D mX10_expression [.ref 76] M Q) (hd : ke + 0 ≤ d) (hK : 6 + 0 ≤ d)  (l1 : Int32) {x : Unit × fm_M}  (hq : Q none x.2) (M : fm_M) (h : J_X10_primary_137 rE l1 M = some x) : fm_mw (d + 1) mX10_primary Q 137 [some (.ref 76), some (.int l1)] [] M := by
  rw [J_X10_primary_137] at h
  refine fl_iload1 (pc := 137) dX10_primary_137 ?_
  refine fm_if_ne (pc := 138) 162 (by decide) dX10_primary_138 (fun c138 => ?_) (fun c138 => ?_)
  · replace h := fm_itn c138 h
    exact jn_X10_primary_162 hE hd hK _  hq _ h
  · replace h := fm_itp c138 h
    refine fl_aload0 (pc := 141) dX10_primary_141 ?_
    refine fm_geti (pc := 142) lk_10_149 sh_76 rfl dX10_primary_142 ?_
    refine fm_if_ne (pc := 145) 157 (by decide) dX10_primary_145 (fun c145 => ?_) (fun c145 => ?_)
    · replace h := fm_itn c145 h
      exact jn_X10_primary_157 hE hd hK _  hq _ h
    · replace h := fm_itp c145 h
      refine fl_aload0 (pc := 148) dX10_primary_148 ?_
      refine fm_geti (pc := 149) lk_10_159 sh_76 rfl dX10_primary_149 ?_
      refine fm_bipushv (pc := 152) 15 (by decide) dX10_primary_152 ?_
      refine fm_icmp_ge (pc := 154) 162 (by decide) dX10_primary_154 (fun c154 => ?_) (fun c154 => ?_)
      · replace h := fm_itp c154 h
        exact jn_X10_primary_162 hE hd hK _  hq _ h
      · replace h := fm_itn c154 h
        exact jn_X10_primary_157 hE hd hK _  hq _ h
theorem jn_X10_primary_114 {d : Nat} {Q : Option Value → fm_M → Prop} {rE : fm_M → Option (Unit × fm_M)} {ke : Nat} (hE : ∀ {M : fm_M} {x : Unit × fm_M} {Q : Option Value → fm_M → Prop} {D : Nat}, rE M = some x → Q none x.2 → ke ≤ D → fm_ct D mX10_expression [.ref 76] M Q) (hd : ke + 0 ≤ d) (hK : 6 + 0 ≤ d)  (s0 : Int32) {x : Unit × fm_M}  (hq : Q none x.2) (M : fm_M) (h : J_X10_primary_114 rE s0 M = some x) : fm_mw (d + 1) mX10_primary Q 114 [some (.ref 76), none] [(.int s0)] M := by
  rw [J_X10_primary_114] at h
  refine fl_istore1 (pc := 114) rfl (by decide) dX10_primary_114 ?_
  refine fl_iload1 (pc := 115) dX10_primary_115 ?_
  refine fm_if_eq (pc := 116) 137 (by decide) dX10_primary_116 (fun c116 => ?_) (fun c116 => ?_)
  · replace h := fm_itp c116 h
    exact jn_X10_primary_137 hE hd hK _  hq _ h
  · replace h := fm_itn c116 h
    refine fl_aload0 (pc := 119) dX10_primary_119 ?_
    refine fm_geti (pc := 120) lk_10_159 sh_76 rfl dX10_primary_120 ?_
    refine fm_sipushv (pc := 123) 9999 (by decide) dX10_primary_123 ?_
    refine fm_icmp_le (pc := 126) 137 (by decide) dX10_primary_126 (fun c126 => ?_) (fun c126 => ?_)
    · replace h := fm_itp c126 h
      exact jn_X10_primary_137 hE hd hK _  hq _ h
    · replace h := fm_itn c126 h
      refine fl_aload0 (pc := 129) dX10_primary_129 ?_
      refine fm_iconstv (pc := 130) 2 (by decide) dX10_primary_130 ?_
      obtain ⟨v15, M16, ev15, h⟩ := fm_bdp h
      refine fm_callV (pc := 131) mX10_wrong [_] _ rfl cvX10_wrong ml_10_193 sh_76 rfl rfl (Nat.le_of_ble_eq_true rfl) (Nat.le_of_ble_eq_true rfl) dX10_primary_131 ?_
      refine sq_X10_wrong ev15 ?_ (by omega)
      refine fm_ret0 ?_
      refine fm_goto (pc := 134) 162 (by decide) dX10_primary_134 ?_
      exact jn_X10_primary_162 hE hd hK _  hq _ h
theorem jn_X10_primary_78 {d : Nat} {Q : Option Value → fm_M → Prop} {rE : fm_M → Option (Unit × fm_M)} {ke : Nat} (hE : ∀ {M : fm_M} {x : Unit × fm_M} {Q : Option Value → fm_M → Prop} {D : Nat}, rE M = some x → Q none x.2 → ke ≤ D → fm_ct D mX10_expression [.ref 76] M Q) (hd : ke + 0 ≤ d) (hK : 6 + 0 ≤ d)   {x : Unit × fm_M}  (hq : Q none x.2) (M : fm_M) (h : J_X10_primary_78 rE M = some x) : fm_mw (d + 1) mX10_primary Q 78 [some (.ref 76), none] [] M := by
  rw [J_X10_primary_78] at h
  refine fl_aload0 (pc := 78) dX10_primary_78 ?_
  refine fm_geti (pc := 79) lk_10_184 sh_76 rfl dX10_primary_79 ?_
  refine fm_if_eq (pc := 82) 86 (by decide) dX10_primary_82 (fun c82 => ?_) (fun c82 => ?_)
  · replace h := fm_itp c82 h
    refine fl_aload0 (pc := 86) dX10_primary_86 ?_
    refine fm_dup (pc := 87) rfl dX10_primary_87 ?_
    refine fm_geti (pc := 88) lk_10_270 sh_76 rfl dX10_primary_88 ?_
    refine fm_iconstv (pc := 91) 1 (by decide) dX10_primary_91 ?_
    refine fm_isub (pc := 92) dX10_primary_92 ?_
    refine fm_puti (pc := 93) lp_10_270 sh_76 rfl dX10_primary_93 ?_
    obtain ⟨M22, eM22, h⟩ := fm_ltp h
    refine fm_cgm eM22 ?_
    refine fl_aload0 (pc := 96) dX10_primary_96 ?_
    obtain ⟨v23, M24, ev23, h⟩ := fm_bdp h
    refine fm_callV (pc := 97) mX10_token [] _ rfl cvX10_token ml_10_190 sh_76 rfl rfl (Nat.le_of_ble_eq_true rfl) (Nat.le_of_ble_eq_true rfl) dX10_primary_97 ?_
    refine sq_X10_token ev23 ?_ (by omega)
    refine fm_ret0 ?_
    refine fm_vret (pc := 100) rfl ?_ dX10_primary_100
    cases h
    exact hq
  · replace h := fm_itn c82 h
    refine fm_vret (pc := 85) rfl ?_ dX10_primary_85
    cases h
    exact hq
theorem jn_X10_primary_31 {d : Nat} {Q : Option Value → fm_M → Prop} {rE : fm_M → Option (Unit × fm_M)} {ke : Nat} (hE : ∀ {M : fm_M} {x : Unit × fm_M} {Q : Option Value → fm_M → Prop} {D : Nat}, rE M = some x → Q none x.2 → ke ≤ D → fm_ct D mX10_expression [.ref 76] M Q) (hd : ke + 0 ≤ d) (hK : 6 + 0 ≤ d)   {x : Unit × fm_M}  (hq : Q none x.2) (M : fm_M) (h : J_X10_primary_31 rE M = some x) : fm_mw (d + 1) mX10_primary Q 31 [some (.ref 76), none] [] M := by
  rw [J_X10_primary_31] at h
  refine fl_aload0 (pc := 31) dX10_primary_31 ?_
  refine fm_geti (pc := 32) lk_10_184 sh_76 rfl dX10_primary_32 ?_
  refine fm_if_eq (pc := 35) 39 (by decide) dX10_primary_35 (fun c35 => ?_) (fun c35 => ?_)
  · replace h := fm_itp c35 h
    refine fl_aload0 (pc := 39) dX10_primary_39 ?_
    refine fm_dup (pc := 40) rfl dX10_primary_40 ?_
    refine fm_geti (pc := 41) lk_10_270 sh_76 rfl dX10_primary_41 ?_
    refine fm_iconstv (pc := 44) 1 (by decide) dX10_primary_44 ?_
    refine fm_iadd (pc := 45) dX10_primary_45 ?_
    refine fm_puti (pc := 46) lp_10_270 sh_76 rfl dX10_primary_46 ?_
    obtain ⟨M17, eM17, h⟩ := fm_ltp h
    refine fm_cgm eM17 ?_
    refine fl_aload0 (pc := 49) dX10_primary_49 ?_
    obtain ⟨v18, M19, ev18, h⟩ := fm_bdp h
    refine fm_callV (pc := 50) mX10_token [] _ rfl cvX10_token ml_10_190 sh_76 rfl rfl (Nat.le_of_ble_eq_true rfl) (Nat.le_of_ble_eq_true rfl) dX10_primary_50 ?_
    refine sq_X10_token ev18 ?_ (by omega)
    refine fm_ret0 ?_
    refine fl_aload0 (pc := 53) dX10_primary_53 ?_
    obtain ⟨v20, M21, ev20, h⟩ := fm_bdp h
    refine fm_callV (pc := 54) mX10_expression [] _ rfl cvX10_expression ml_10_240 sh_76 rfl rfl (Nat.le_of_ble_eq_true rfl) (Nat.le_of_ble_eq_true rfl) dX10_primary_54 ?_
    refine hE ev20 ?_ (by omega)
    refine fm_ret0 ?_
    refine fl_aload0 (pc := 57) dX10_primary_57 ?_
    refine fm_geti (pc := 58) lk_10_184 sh_76 rfl dX10_primary_58 ?_
    refine fm_if_ne (pc := 61) 78 (by decide) dX10_primary_61 (fun c61 => ?_) (fun c61 => ?_)
    · replace h := fm_itn c61 h
      exact jn_X10_primary_78 hE hd hK   hq _ h
    · replace h := fm_itp c61 h
      refine fl_aload0 (pc := 64) dX10_primary_64 ?_
      refine fm_bipushv (pc := 65) 41 (by decide) dX10_primary_65 ?_
      obtain ⟨v25, M26, ev25, h⟩ := fm_bdp h
      refine fm_callV (pc := 67) mX10_isSign [_] _ rfl cvX10_isSign ml_10_231 sh_76 rfl rfl (Nat.le_of_ble_eq_true rfl) (Nat.le_of_ble_eq_true rfl) dX10_primary_67 ?_
      refine sq_X10_isSign ev25 ?_ (by omega)
      refine fm_ret1 ?_
      refine fm_if_ne (pc := 70) 78 (by decide) dX10_primary_70 (fun c70 => ?_) (fun c70 => ?_)
      · replace h := fm_itn c70 h
        exact jn_X10_primary_78 hE hd hK   hq _ h
      · replace h := fm_itp c70 h
        refine fl_aload0 (pc := 73) dX10_primary_73 ?_
        refine fm_iconstv (pc := 74) 1 (by decide) dX10_primary_74 ?_
        obtain ⟨v27, M28, ev27, h⟩ := fm_bdp h
        refine fm_callV (pc := 75) mX10_wrong [_] _ rfl cvX10_wrong ml_10_193 sh_76 rfl rfl (Nat.le_of_ble_eq_true rfl) (Nat.le_of_ble_eq_true rfl) dX10_primary_75 ?_
        refine sq_X10_wrong ev27 ?_ (by omega)
        refine fm_ret0 ?_
        exact jn_X10_primary_78 hE hd hK   hq _ h
  · replace h := fm_itn c35 h
    refine fm_vret (pc := 38) rfl ?_ dX10_primary_38
    cases h
    exact hq
theorem sp_X10_primary {rE : fm_M → Option (Unit × fm_M)} {ke : Nat} (hE : ∀ {M : fm_M} {x : Unit × fm_M} {Q : Option Value → fm_M → Prop} {D : Nat}, rE M = some x → Q none x.2 → ke ≤ D → fm_ct D mX10_expression [.ref 76] M Q)  {M : fm_M} {x : Unit × fm_M} {Q : Option Value → fm_M → Prop} {D : Nat} (h : H_X10_primary rE  M = some x) (hq : Q none x.2) (hD : ke + 1 ≤ D) (hK : 6 + 1 ≤ D) : fm_ct D mX10_primary [.ref 76] M Q := by
  rw [H_X10_primary] at h
  obtain ⟨d, rfl⟩ : ∃ d, D = d + 1 := ⟨D - 1, by omega⟩
  replace hD : ke + 0 ≤ d := by omega
  have hd := hD
  replace hK : 6 + 0 ≤ d := by omega
  show fm_mw (d + 1) mX10_primary Q 0 [some (.ref 76), none] [] M
  refine fl_aload0 (pc := 0) dX10_primary_0 ?_
  refine fm_geti (pc := 1) lk_10_184 sh_76 rfl dX10_primary_1 ?_
  refine fm_if_eq (pc := 4) 8 (by decide) dX10_primary_4 (fun c4 => ?_) (fun c4 => ?_)
  · replace h := fm_itp c4 h
    refine fl_aload0 (pc := 8) dX10_primary_8 ?_
    refine fm_bipushv (pc := 9) 40 (by decide) dX10_primary_9 ?_
    obtain ⟨v1, M2, ev1, h⟩ := fm_bdp h
    refine fm_callV (pc := 11) mX10_isSign [_] _ rfl cvX10_isSign ml_10_231 sh_76 rfl rfl (Nat.le_of_ble_eq_true rfl) (Nat.le_of_ble_eq_true rfl) dX10_primary_11 ?_
    refine sq_X10_isSign ev1 ?_ (by omega)
    refine fm_ret1 ?_
    refine fm_if_eq (pc := 14) 101 (by decide) dX10_primary_14 (fun c14 => ?_) (fun c14 => ?_)
    · replace h := fm_itp c14 h
      refine fl_aload0 (pc := 101) dX10_primary_101 ?_
      refine fm_geti (pc := 102) lk_10_149 sh_76 rfl dX10_primary_102 ?_
      refine fm_iconstv (pc := 105) 2 (by decide) dX10_primary_105 ?_
      refine fm_icmp_ne (pc := 106) 113 (by decide) dX10_primary_106 (fun c106 => ?_) (fun c106 => ?_)
      · replace h := fm_itn c106 h
        refine fm_iconstv (pc := 113) 0 (by decide) dX10_primary_113 ?_
        exact jn_X10_primary_114 hE hd hK _  hq _ h
      · replace h := fm_itp c106 h
        refine fm_iconstv (pc := 109) 1 (by decide) dX10_primary_109 ?_
        refine fm_goto (pc := 110) 114 (by decide) dX10_primary_110 ?_
        exact jn_X10_primary_114 hE hd hK _  hq _ h
    · replace h := fm_itn c14 h
      refine fl_aload0 (pc := 17) dX10_primary_17 ?_
      refine fm_geti (pc := 18) lk_10_270 sh_76 rfl dX10_primary_18 ?_
      refine fm_bipushv (pc := 21) 8 (by decide) dX10_primary_21 ?_
      refine fm_icmp_ne (pc := 23) 31 (by decide) dX10_primary_23 (fun c23 => ?_) (fun c23 => ?_)
      · replace h := fm_itn c23 h
        exact jn_X10_primary_31 hE hd hK   hq _ h
      · replace h := fm_itp c23 h
        refine fl_aload0 (pc := 26) dX10_primary_26 ?_
        refine fm_iconstv (pc := 27) 2 (by decide) dX10_primary_27 ?_
        obtain ⟨v29, M30, ev29, h⟩ := fm_bdp h
        refine fm_callV (pc := 28) mX10_wrong [_] _ rfl cvX10_wrong ml_10_193 sh_76 rfl rfl (Nat.le_of_ble_eq_true rfl) (Nat.le_of_ble_eq_true rfl) dX10_primary_28 ?_
        refine sq_X10_wrong ev29 ?_ (by omega)
        refine fm_ret0 ?_
        exact jn_X10_primary_31 hE hd hK   hq _ h
  · replace h := fm_itn c4 h
    refine fm_vret (pc := 7) rfl ?_ dX10_primary_7
    cases h
    exact hq
/-! X10_product -/
def J_X10_product_22 (rE : fm_M → Option (Unit × fm_M)) (rec : fm_M → Option ((Unit) × fm_M))  (M : fm_M) : Option ((Unit) × fm_M) :=
    fm_lt ((M.1 76 23)) (fun x5 =>
    fm_bd (F_X10_knot M) (fun v6 M7 =>
    fm_bd (F_X10_goOn M7) (fun v8 M9 =>
    fm_bd (H_X10_primary rE M9) (fun v10 M11 =>
    fm_bd (F_X10_puts 2 x5 M11) (fun v12 M13 =>
    rec M13)))))
def G_X10_product_4 (rE : fm_M → Option (Unit × fm_M)) : Nat → fm_M → Option ((Unit) × fm_M)
  | 0, _ => none
  | n + 1, M =>
    fm_bd (F_X10_isSign 42 M) (fun v3 M4 =>
    if v3 = 0 then (
      fm_bd (F_X10_isSign 47 M4) (fun v14 M15 =>
      if v14 = 0 then (
        some ((), M15)
      ) else (
        J_X10_product_22 rE (G_X10_product_4 rE n) M15
      ))
    ) else (
      J_X10_product_22 rE (G_X10_product_4 rE n) M4
    ))
def H_X10_product (rE : fm_M → Option (Unit × fm_M))  (M : fm_M) : Option (Unit × fm_M) :=
    fm_bd (H_X10_primary rE M) (fun v1 M2 =>
    fm_bd (G_X10_product_4 rE fm_fuel M2) (fun w16 M17 =>
      some ((), M17)))
theorem jn_X10_product_22 {d : Nat} {Q : Option Value → fm_M → Prop} {rE : fm_M → Option (Unit × fm_M)} {ke : Nat} (hE : ∀ {M : fm_M} {x : Unit × fm_M} {Q : Option Value → fm_M → Prop} {D : Nat}, rE M = some x → Q none x.2 → ke ≤ D → fm_ct D mX10_expression [.ref 76] M Q) (hd : ke + 1 ≤ d) (hK : 6 + 1 ≤ d) (rec : fm_M → Option ((Unit) × fm_M))   {x : (Unit) × fm_M}  (ih : ∀  (M : fm_M), rec  M = some x → fm_mw (d + 1) mX10_product Q 4 [some (.ref 76), none] [] M) (k1 : ∀ (v : Unit) (M2 : fm_M), x = (v, M2) → fm_mw (d + 1) mX10_product Q 48 [some (.ref 76), none] [] M2) (M : fm_M) (h : J_X10_product_22 rE rec M = some x) : fm_mw (d + 1) mX10_product Q 22 [some (.ref 76), none] [] M := by
  rw [J_X10_product_22] at h
  refine fl_aload0 (pc := 22) dX10_product_22 ?_
  refine fm_geti (pc := 23) lk_10_159 sh_76 rfl dX10_product_23 ?_
  obtain ⟨x5, ex5, h⟩ := fm_ltp h
  refine fm_cgi ex5 ?_
  refine fl_istore1 (pc := 26) rfl (by decide) dX10_product_26 ?_
  refine fl_aload0 (pc := 27) dX10_product_27 ?_
  obtain ⟨v6, M7, ev6, h⟩ := fm_bdp h
  refine fm_callV (pc := 28) mX10_knot [] _ rfl cvX10_knot ml_10_252 sh_76 rfl rfl (Nat.le_of_ble_eq_true rfl) (Nat.le_of_ble_eq_true rfl) dX10_product_28 ?_
  refine sq_X10_knot ev6 ?_ (by omega)
  refine fm_ret0 ?_
  refine fl_aload0 (pc := 31) dX10_product_31 ?_
  obtain ⟨v8, M9, ev8, h⟩ := fm_bdp h
  refine fm_callV (pc := 32) mX10_goOn [] _ rfl cvX10_goOn ml_10_237 sh_76 rfl rfl (Nat.le_of_ble_eq_true rfl) (Nat.le_of_ble_eq_true rfl) dX10_product_32 ?_
  refine sq_X10_goOn ev8 ?_ (by omega)
  refine fm_ret0 ?_
  refine fl_aload0 (pc := 35) dX10_product_35 ?_
  obtain ⟨v10, M11, ev10, h⟩ := fm_bdp h
  refine fm_callV (pc := 36) mX10_primary [] _ rfl cvX10_primary ml_10_267 sh_76 rfl rfl (Nat.le_of_ble_eq_true rfl) (Nat.le_of_ble_eq_true rfl) dX10_product_36 ?_
  refine sp_X10_primary hE ev10 ?_ (by omega) (by omega)
  refine fm_ret0 ?_
  refine fl_aload0 (pc := 39) dX10_product_39 ?_
  refine fm_iconstv (pc := 40) 2 (by decide) dX10_product_40 ?_
  refine fl_iload1 (pc := 41) dX10_product_41 ?_
  obtain ⟨v12, M13, ev12, h⟩ := fm_bdp h
  refine fm_callV (pc := 42) mX10_puts [_, _] _ rfl cvX10_puts ml_10_255 sh_76 rfl rfl (Nat.le_of_ble_eq_true rfl) (Nat.le_of_ble_eq_true rfl) dX10_product_42 ?_
  refine sq_X10_puts ev12 ?_ (by omega)
  refine fm_ret0 ?_
  refine fm_goto (pc := 45) 4 (by decide) dX10_product_45 ?_
  refine fm_fgt [some (.ref 76), none] (by simp [fm_sub]) ?_
  exact ih  _ h
theorem lp_X10_product_4 {d : Nat} {Q : Option Value → fm_M → Prop} {rE : fm_M → Option (Unit × fm_M)} {ke : Nat} (hE : ∀ {M : fm_M} {x : Unit × fm_M} {Q : Option Value → fm_M → Prop} {D : Nat}, rE M = some x → Q none x.2 → ke ≤ D → fm_ct D mX10_expression [.ref 76] M Q) (hd : ke + 1 ≤ d) (hK : 6 + 1 ≤ d)    {x : (Unit) × fm_M} (k1 : ∀ (v : Unit) (M2 : fm_M), x = (v, M2) → fm_mw (d + 1) mX10_product Q 48 [some (.ref 76), none] [] M2) : ∀ (n : Nat)  (M : fm_M), G_X10_product_4 rE n M = some x → fm_mw (d + 1) mX10_product Q 4 [some (.ref 76), none] [] M := by
  intro n
  induction n with
  | zero => intro M h; simp [G_X10_product_4] at h
  | succ n ih =>
    intro M h
    rw [G_X10_product_4] at h
    refine fl_aload0 (pc := 4) dX10_product_4 ?_
    refine fm_bipushv (pc := 5) 42 (by decide) dX10_product_5 ?_
    obtain ⟨v3, M4, ev3, h⟩ := fm_bdp h
    refine fm_callV (pc := 7) mX10_isSign [_] _ rfl cvX10_isSign ml_10_231 sh_76 rfl rfl (Nat.le_of_ble_eq_true rfl) (Nat.le_of_ble_eq_true rfl) dX10_product_7 ?_
    refine sq_X10_isSign ev3 ?_ (by omega)
    refine fm_ret1 ?_
    refine fm_if_ne (pc := 10) 22 (by decide) dX10_product_10 (fun c10 => ?_) (fun c10 => ?_)
    · replace h := fm_itn c10 h
      exact jn_X10_product_22 hE hd hK _  ih k1 _ h
    · replace h := fm_itp c10 h
      refine fl_aload0 (pc := 13) dX10_product_13 ?_
      refine fm_bipushv (pc := 14) 47 (by decide) dX10_product_14 ?_
      obtain ⟨v14, M15, ev14, h⟩ := fm_bdp h
      refine fm_callV (pc := 16) mX10_isSign [_] _ rfl cvX10_isSign ml_10_231 sh_76 rfl rfl (Nat.le_of_ble_eq_true rfl) (Nat.le_of_ble_eq_true rfl) dX10_product_16 ?_
      refine sq_X10_isSign ev14 ?_ (by omega)
      refine fm_ret1 ?_
      refine fm_if_eq (pc := 19) 48 (by decide) dX10_product_19 (fun c19 => ?_) (fun c19 => ?_)
      · replace h := fm_itp c19 h
        refine fm_fgt [some (.ref 76), none] (by simp [fm_sub]) ?_
        cases h
        exact k1 _ _ rfl
      · replace h := fm_itn c19 h
        exact jn_X10_product_22 hE hd hK _  ih k1 _ h
theorem sp_X10_product {rE : fm_M → Option (Unit × fm_M)} {ke : Nat} (hE : ∀ {M : fm_M} {x : Unit × fm_M} {Q : Option Value → fm_M → Prop} {D : Nat}, rE M = some x → Q none x.2 → ke ≤ D → fm_ct D mX10_expression [.ref 76] M Q)  {M : fm_M} {x : Unit × fm_M} {Q : Option Value → fm_M → Prop} {D : Nat} (h : H_X10_product rE  M = some x) (hq : Q none x.2) (hD : ke + 2 ≤ D) (hK : 6 + 2 ≤ D) : fm_ct D mX10_product [.ref 76] M Q := by
  rw [H_X10_product] at h
  obtain ⟨d, rfl⟩ : ∃ d, D = d + 1 := ⟨D - 1, by omega⟩
  replace hD : ke + 1 ≤ d := by omega
  have hd := hD
  replace hK : 6 + 1 ≤ d := by omega
  show fm_mw (d + 1) mX10_product Q 0 [some (.ref 76), none] [] M
  refine fl_aload0 (pc := 0) dX10_product_0 ?_
  obtain ⟨v1, M2, ev1, h⟩ := fm_bdp h
  refine fm_callV (pc := 1) mX10_primary [] _ rfl cvX10_primary ml_10_267 sh_76 rfl rfl (Nat.le_of_ble_eq_true rfl) (Nat.le_of_ble_eq_true rfl) dX10_product_1 ?_
  refine sp_X10_primary hE ev1 ?_ (by omega) (by omega)
  refine fm_ret0 ?_
  obtain ⟨w16, M17, ew16, h⟩ := fm_bdp h
  refine lp_X10_product_4 hE hd hK  ?_ _  _ ew16
  intro w169 M179 q9
  cases q9
  refine fm_vret (pc := 48) rfl ?_ dX10_product_48
  cases h
  exact hq
/-! X10_sum -/
def J_X10_sum_22 (rE : fm_M → Option (Unit × fm_M)) (rec : fm_M → Option ((Unit) × fm_M))  (M : fm_M) : Option ((Unit) × fm_M) :=
    fm_lt ((M.1 76 23)) (fun x5 =>
    fm_bd (F_X10_knot M) (fun v6 M7 =>
    fm_bd (F_X10_goOn M7) (fun v8 M9 =>
    fm_bd (H_X10_product rE M9) (fun v10 M11 =>
    fm_bd (F_X10_puts 2 x5 M11) (fun v12 M13 =>
    rec M13)))))
def G_X10_sum_4 (rE : fm_M → Option (Unit × fm_M)) : Nat → fm_M → Option ((Unit) × fm_M)
  | 0, _ => none
  | n + 1, M =>
    fm_bd (F_X10_isSign 43 M) (fun v3 M4 =>
    if v3 = 0 then (
      fm_bd (F_X10_isSign 45 M4) (fun v14 M15 =>
      if v14 = 0 then (
        some ((), M15)
      ) else (
        J_X10_sum_22 rE (G_X10_sum_4 rE n) M15
      ))
    ) else (
      J_X10_sum_22 rE (G_X10_sum_4 rE n) M4
    ))
def H_X10_sum (rE : fm_M → Option (Unit × fm_M))  (M : fm_M) : Option (Unit × fm_M) :=
    fm_bd (H_X10_product rE M) (fun v1 M2 =>
    fm_bd (G_X10_sum_4 rE fm_fuel M2) (fun w16 M17 =>
      some ((), M17)))
theorem jn_X10_sum_22 {d : Nat} {Q : Option Value → fm_M → Prop} {rE : fm_M → Option (Unit × fm_M)} {ke : Nat} (hE : ∀ {M : fm_M} {x : Unit × fm_M} {Q : Option Value → fm_M → Prop} {D : Nat}, rE M = some x → Q none x.2 → ke ≤ D → fm_ct D mX10_expression [.ref 76] M Q) (hd : ke + 2 ≤ d) (hK : 6 + 2 ≤ d) (rec : fm_M → Option ((Unit) × fm_M))   {x : (Unit) × fm_M}  (ih : ∀  (M : fm_M), rec  M = some x → fm_mw (d + 1) mX10_sum Q 4 [some (.ref 76), none] [] M) (k1 : ∀ (v : Unit) (M2 : fm_M), x = (v, M2) → fm_mw (d + 1) mX10_sum Q 48 [some (.ref 76), none] [] M2) (M : fm_M) (h : J_X10_sum_22 rE rec M = some x) : fm_mw (d + 1) mX10_sum Q 22 [some (.ref 76), none] [] M := by
  rw [J_X10_sum_22] at h
  refine fl_aload0 (pc := 22) dX10_sum_22 ?_
  refine fm_geti (pc := 23) lk_10_159 sh_76 rfl dX10_sum_23 ?_
  obtain ⟨x5, ex5, h⟩ := fm_ltp h
  refine fm_cgi ex5 ?_
  refine fl_istore1 (pc := 26) rfl (by decide) dX10_sum_26 ?_
  refine fl_aload0 (pc := 27) dX10_sum_27 ?_
  obtain ⟨v6, M7, ev6, h⟩ := fm_bdp h
  refine fm_callV (pc := 28) mX10_knot [] _ rfl cvX10_knot ml_10_252 sh_76 rfl rfl (Nat.le_of_ble_eq_true rfl) (Nat.le_of_ble_eq_true rfl) dX10_sum_28 ?_
  refine sq_X10_knot ev6 ?_ (by omega)
  refine fm_ret0 ?_
  refine fl_aload0 (pc := 31) dX10_sum_31 ?_
  obtain ⟨v8, M9, ev8, h⟩ := fm_bdp h
  refine fm_callV (pc := 32) mX10_goOn [] _ rfl cvX10_goOn ml_10_237 sh_76 rfl rfl (Nat.le_of_ble_eq_true rfl) (Nat.le_of_ble_eq_true rfl) dX10_sum_32 ?_
  refine sq_X10_goOn ev8 ?_ (by omega)
  refine fm_ret0 ?_
  refine fl_aload0 (pc := 35) dX10_sum_35 ?_
  obtain ⟨v10, M11, ev10, h⟩ := fm_bdp h
  refine fm_callV (pc := 36) mX10_product [] _ rfl cvX10_product ml_10_264 sh_76 rfl rfl (Nat.le_of_ble_eq_true rfl) (Nat.le_of_ble_eq_true rfl) dX10_sum_36 ?_
  refine sp_X10_product hE ev10 ?_ (by omega) (by omega)
  refine fm_ret0 ?_
  refine fl_aload0 (pc := 39) dX10_sum_39 ?_
  refine fm_iconstv (pc := 40) 2 (by decide) dX10_sum_40 ?_
  refine fl_iload1 (pc := 41) dX10_sum_41 ?_
  obtain ⟨v12, M13, ev12, h⟩ := fm_bdp h
  refine fm_callV (pc := 42) mX10_puts [_, _] _ rfl cvX10_puts ml_10_255 sh_76 rfl rfl (Nat.le_of_ble_eq_true rfl) (Nat.le_of_ble_eq_true rfl) dX10_sum_42 ?_
  refine sq_X10_puts ev12 ?_ (by omega)
  refine fm_ret0 ?_
  refine fm_goto (pc := 45) 4 (by decide) dX10_sum_45 ?_
  refine fm_fgt [some (.ref 76), none] (by simp [fm_sub]) ?_
  exact ih  _ h
theorem lp_X10_sum_4 {d : Nat} {Q : Option Value → fm_M → Prop} {rE : fm_M → Option (Unit × fm_M)} {ke : Nat} (hE : ∀ {M : fm_M} {x : Unit × fm_M} {Q : Option Value → fm_M → Prop} {D : Nat}, rE M = some x → Q none x.2 → ke ≤ D → fm_ct D mX10_expression [.ref 76] M Q) (hd : ke + 2 ≤ d) (hK : 6 + 2 ≤ d)    {x : (Unit) × fm_M} (k1 : ∀ (v : Unit) (M2 : fm_M), x = (v, M2) → fm_mw (d + 1) mX10_sum Q 48 [some (.ref 76), none] [] M2) : ∀ (n : Nat)  (M : fm_M), G_X10_sum_4 rE n M = some x → fm_mw (d + 1) mX10_sum Q 4 [some (.ref 76), none] [] M := by
  intro n
  induction n with
  | zero => intro M h; simp [G_X10_sum_4] at h
  | succ n ih =>
    intro M h
    rw [G_X10_sum_4] at h
    refine fl_aload0 (pc := 4) dX10_sum_4 ?_
    refine fm_bipushv (pc := 5) 43 (by decide) dX10_sum_5 ?_
    obtain ⟨v3, M4, ev3, h⟩ := fm_bdp h
    refine fm_callV (pc := 7) mX10_isSign [_] _ rfl cvX10_isSign ml_10_231 sh_76 rfl rfl (Nat.le_of_ble_eq_true rfl) (Nat.le_of_ble_eq_true rfl) dX10_sum_7 ?_
    refine sq_X10_isSign ev3 ?_ (by omega)
    refine fm_ret1 ?_
    refine fm_if_ne (pc := 10) 22 (by decide) dX10_sum_10 (fun c10 => ?_) (fun c10 => ?_)
    · replace h := fm_itn c10 h
      exact jn_X10_sum_22 hE hd hK _  ih k1 _ h
    · replace h := fm_itp c10 h
      refine fl_aload0 (pc := 13) dX10_sum_13 ?_
      refine fm_bipushv (pc := 14) 45 (by decide) dX10_sum_14 ?_
      obtain ⟨v14, M15, ev14, h⟩ := fm_bdp h
      refine fm_callV (pc := 16) mX10_isSign [_] _ rfl cvX10_isSign ml_10_231 sh_76 rfl rfl (Nat.le_of_ble_eq_true rfl) (Nat.le_of_ble_eq_true rfl) dX10_sum_16 ?_
      refine sq_X10_isSign ev14 ?_ (by omega)
      refine fm_ret1 ?_
      refine fm_if_eq (pc := 19) 48 (by decide) dX10_sum_19 (fun c19 => ?_) (fun c19 => ?_)
      · replace h := fm_itp c19 h
        refine fm_fgt [some (.ref 76), none] (by simp [fm_sub]) ?_
        cases h
        exact k1 _ _ rfl
      · replace h := fm_itn c19 h
        exact jn_X10_sum_22 hE hd hK _  ih k1 _ h
theorem sp_X10_sum {rE : fm_M → Option (Unit × fm_M)} {ke : Nat} (hE : ∀ {M : fm_M} {x : Unit × fm_M} {Q : Option Value → fm_M → Prop} {D : Nat}, rE M = some x → Q none x.2 → ke ≤ D → fm_ct D mX10_expression [.ref 76] M Q)  {M : fm_M} {x : Unit × fm_M} {Q : Option Value → fm_M → Prop} {D : Nat} (h : H_X10_sum rE  M = some x) (hq : Q none x.2) (hD : ke + 3 ≤ D) (hK : 6 + 3 ≤ D) : fm_ct D mX10_sum [.ref 76] M Q := by
  rw [H_X10_sum] at h
  obtain ⟨d, rfl⟩ : ∃ d, D = d + 1 := ⟨D - 1, by omega⟩
  replace hD : ke + 2 ≤ d := by omega
  have hd := hD
  replace hK : 6 + 2 ≤ d := by omega
  show fm_mw (d + 1) mX10_sum Q 0 [some (.ref 76), none] [] M
  refine fl_aload0 (pc := 0) dX10_sum_0 ?_
  obtain ⟨v1, M2, ev1, h⟩ := fm_bdp h
  refine fm_callV (pc := 1) mX10_product [] _ rfl cvX10_product ml_10_264 sh_76 rfl rfl (Nat.le_of_ble_eq_true rfl) (Nat.le_of_ble_eq_true rfl) dX10_sum_1 ?_
  refine sp_X10_product hE ev1 ?_ (by omega) (by omega)
  refine fm_ret0 ?_
  obtain ⟨w16, M17, ew16, h⟩ := fm_bdp h
  refine lp_X10_sum_4 hE hd hK  ?_ _  _ ew16
  intro w169 M179 q9
  cases q9
  refine fm_vret (pc := 48) rfl ?_ dX10_sum_48
  cases h
  exact hq
/-! X10_negation -/
def J_X10_negation_87 (rN : fm_M → Option (Unit × fm_M)) (rE : fm_M → Option (Unit × fm_M))  (M : fm_M) : Option (Unit × fm_M) :=
    fm_lt ((M.1 76 23)) (fun x5 =>
    fm_bd (F_X10_knot M) (fun v6 M7 =>
    fm_bd (F_X10_goOn M7) (fun v8 M9 =>
    fm_bd (H_X10_sum rE M9) (fun v10 M11 =>
    fm_bd (F_X10_puts 2 x5 M11) (fun v12 M13 =>
    some ((), M13))))))
def H_X10_negation (rN : fm_M → Option (Unit × fm_M)) (rE : fm_M → Option (Unit × fm_M))  (M : fm_M) : Option (Unit × fm_M) :=
    fm_bd (F_X10_isWord 14 M) (fun v1 M2 =>
    if v1 = 0 then (
      fm_bd (H_X10_sum rE M2) (fun v3 M4 =>
      if (M4.1 76 24) = 0 then (
        if (M4.1 76 22) = 3 then (
          if (M4.1 76 23) = 60 then (
            J_X10_negation_87 rN rE M4
          ) else (
            if (M4.1 76 23) = 62 then (
              J_X10_negation_87 rN rE M4
            ) else (
              if (M4.1 76 23) = 61 then (
                J_X10_negation_87 rN rE M4
              ) else (
                if 256 ≤ (M4.1 76 23) then (
                  J_X10_negation_87 rN rE M4
                ) else (
                  some ((), M4)
                )
              )
            )
          )
        ) else (
          some ((), M4)
        )
      ) else (
        some ((), M4)
      ))
    ) else (
      fm_bd (F_X10_knot M2) (fun v14 M15 =>
      fm_bd (F_X10_goOn M15) (fun v16 M17 =>
      fm_bd (rN M17) (fun v18 M19 =>
      fm_bd (F_X10_puts 2 260 M19) (fun v20 M21 =>
      some ((), M21)))))
    ))
theorem jn_X10_negation_87 {d : Nat} {Q : Option Value → fm_M → Prop} {rN : fm_M → Option (Unit × fm_M)} {kn : Nat} (hN : ∀ {M : fm_M} {x : Unit × fm_M} {Q : Option Value → fm_M → Prop} {D : Nat}, rN M = some x → Q none x.2 → kn ≤ D → fm_ct D mX10_negation [.ref 76] M Q) {rE : fm_M → Option (Unit × fm_M)} {ke : Nat} (hE : ∀ {M : fm_M} {x : Unit × fm_M} {Q : Option Value → fm_M → Prop} {D : Nat}, rE M = some x → Q none x.2 → ke ≤ D → fm_ct D mX10_expression [.ref 76] M Q) (hd : ke + 3 ≤ d) (hk : kn ≤ d) (hK : 6 + 3 ≤ d)   {x : Unit × fm_M}  (hq : Q none x.2) (M : fm_M) (h : J_X10_negation_87 rN rE M = some x) : fm_mw (d + 1) mX10_negation Q 87 [some (.ref 76), none] [] M := by
  rw [J_X10_negation_87] at h
  refine fl_aload0 (pc := 87) dX10_negation_87 ?_
  refine fm_geti (pc := 88) lk_10_159 sh_76 rfl dX10_negation_88 ?_
  obtain ⟨x5, ex5, h⟩ := fm_ltp h
  refine fm_cgi ex5 ?_
  refine fl_istore1 (pc := 91) rfl (by decide) dX10_negation_91 ?_
  refine fl_aload0 (pc := 92) dX10_negation_92 ?_
  obtain ⟨v6, M7, ev6, h⟩ := fm_bdp h
  refine fm_callV (pc := 93) mX10_knot [] _ rfl cvX10_knot ml_10_252 sh_76 rfl rfl (Nat.le_of_ble_eq_true rfl) (Nat.le_of_ble_eq_true rfl) dX10_negation_93 ?_
  refine sq_X10_knot ev6 ?_ (by omega)
  refine fm_ret0 ?_
  refine fl_aload0 (pc := 96) dX10_negation_96 ?_
  obtain ⟨v8, M9, ev8, h⟩ := fm_bdp h
  refine fm_callV (pc := 97) mX10_goOn [] _ rfl cvX10_goOn ml_10_237 sh_76 rfl rfl (Nat.le_of_ble_eq_true rfl) (Nat.le_of_ble_eq_true rfl) dX10_negation_97 ?_
  refine sq_X10_goOn ev8 ?_ (by omega)
  refine fm_ret0 ?_
  refine fl_aload0 (pc := 100) dX10_negation_100 ?_
  obtain ⟨v10, M11, ev10, h⟩ := fm_bdp h
  refine fm_callV (pc := 101) mX10_sum [] _ rfl cvX10_sum ml_10_261 sh_76 rfl rfl (Nat.le_of_ble_eq_true rfl) (Nat.le_of_ble_eq_true rfl) dX10_negation_101 ?_
  refine sp_X10_sum hE ev10 ?_ (by omega) (by omega)
  refine fm_ret0 ?_
  refine fl_aload0 (pc := 104) dX10_negation_104 ?_
  refine fm_iconstv (pc := 105) 2 (by decide) dX10_negation_105 ?_
  refine fl_iload1 (pc := 106) dX10_negation_106 ?_
  obtain ⟨v12, M13, ev12, h⟩ := fm_bdp h
  refine fm_callV (pc := 107) mX10_puts [_, _] _ rfl cvX10_puts ml_10_255 sh_76 rfl rfl (Nat.le_of_ble_eq_true rfl) (Nat.le_of_ble_eq_true rfl) dX10_negation_107 ?_
  refine sq_X10_puts ev12 ?_ (by omega)
  refine fm_ret0 ?_
  refine fm_vret (pc := 110) rfl ?_ dX10_negation_110
  cases h
  exact hq
theorem sp_X10_negation {rN : fm_M → Option (Unit × fm_M)} {kn : Nat} (hN : ∀ {M : fm_M} {x : Unit × fm_M} {Q : Option Value → fm_M → Prop} {D : Nat}, rN M = some x → Q none x.2 → kn ≤ D → fm_ct D mX10_negation [.ref 76] M Q) {rE : fm_M → Option (Unit × fm_M)} {ke : Nat} (hE : ∀ {M : fm_M} {x : Unit × fm_M} {Q : Option Value → fm_M → Prop} {D : Nat}, rE M = some x → Q none x.2 → ke ≤ D → fm_ct D mX10_expression [.ref 76] M Q)  {M : fm_M} {x : Unit × fm_M} {Q : Option Value → fm_M → Prop} {D : Nat} (h : H_X10_negation rN rE  M = some x) (hq : Q none x.2) (hD : ke + 4 ≤ D) (hk : kn + 1 ≤ D) (hK : 6 + 4 ≤ D) : fm_ct D mX10_negation [.ref 76] M Q := by
  rw [H_X10_negation] at h
  obtain ⟨d, rfl⟩ : ∃ d, D = d + 1 := ⟨D - 1, by omega⟩
  replace hD : ke + 3 ≤ d := by omega
  have hd := hD
  replace hk : kn ≤ d := by omega
  replace hK : 6 + 3 ≤ d := by omega
  show fm_mw (d + 1) mX10_negation Q 0 [some (.ref 76), none] [] M
  refine fl_aload0 (pc := 0) dX10_negation_0 ?_
  refine fm_bipushv (pc := 1) 14 (by decide) dX10_negation_1 ?_
  obtain ⟨v1, M2, ev1, h⟩ := fm_bdp h
  refine fm_callV (pc := 3) mX10_isWord [_] _ rfl cvX10_isWord ml_10_249 sh_76 rfl rfl (Nat.le_of_ble_eq_true rfl) (Nat.le_of_ble_eq_true rfl) dX10_negation_3 ?_
  refine sq_X10_isWord ev1 ?_ (by omega)
  refine fm_ret1 ?_
  refine fm_if_eq (pc := 6) 30 (by decide) dX10_negation_6 (fun c6 => ?_) (fun c6 => ?_)
  · replace h := fm_itp c6 h
    refine fl_aload0 (pc := 30) dX10_negation_30 ?_
    obtain ⟨v3, M4, ev3, h⟩ := fm_bdp h
    refine fm_callV (pc := 31) mX10_sum [] _ rfl cvX10_sum ml_10_261 sh_76 rfl rfl (Nat.le_of_ble_eq_true rfl) (Nat.le_of_ble_eq_true rfl) dX10_negation_31 ?_
    refine sp_X10_sum hE ev3 ?_ (by omega) (by omega)
    refine fm_ret0 ?_
    refine fl_aload0 (pc := 34) dX10_negation_34 ?_
    refine fm_geti (pc := 35) lk_10_184 sh_76 rfl dX10_negation_35 ?_
    refine fm_if_ne (pc := 38) 86 (by decide) dX10_negation_38 (fun c38 => ?_) (fun c38 => ?_)
    · replace h := fm_itn c38 h
      refine fm_vret (pc := 86) rfl ?_ dX10_negation_86
      cases h
      exact hq
    · replace h := fm_itp c38 h
      refine fl_aload0 (pc := 41) dX10_negation_41 ?_
      refine fm_geti (pc := 42) lk_10_149 sh_76 rfl dX10_negation_42 ?_
      refine fm_iconstv (pc := 45) 3 (by decide) dX10_negation_45 ?_
      refine fm_icmp_ne (pc := 46) 86 (by decide) dX10_negation_46 (fun c46 => ?_) (fun c46 => ?_)
      · replace h := fm_itn c46 h
        refine fm_vret (pc := 86) rfl ?_ dX10_negation_86
        cases h
        exact hq
      · replace h := fm_itp c46 h
        refine fl_aload0 (pc := 49) dX10_negation_49 ?_
        refine fm_geti (pc := 50) lk_10_159 sh_76 rfl dX10_negation_50 ?_
        refine fm_bipushv (pc := 53) 60 (by decide) dX10_negation_53 ?_
        refine fm_icmp_eq (pc := 55) 87 (by decide) dX10_negation_55 (fun c55 => ?_) (fun c55 => ?_)
        · replace h := fm_itp c55 h
          exact jn_X10_negation_87 hN hE hd hk hK   hq _ h
        · replace h := fm_itn c55 h
          refine fl_aload0 (pc := 58) dX10_negation_58 ?_
          refine fm_geti (pc := 59) lk_10_159 sh_76 rfl dX10_negation_59 ?_
          refine fm_bipushv (pc := 62) 62 (by decide) dX10_negation_62 ?_
          refine fm_icmp_eq (pc := 64) 87 (by decide) dX10_negation_64 (fun c64 => ?_) (fun c64 => ?_)
          · replace h := fm_itp c64 h
            exact jn_X10_negation_87 hN hE hd hk hK   hq _ h
          · replace h := fm_itn c64 h
            refine fl_aload0 (pc := 67) dX10_negation_67 ?_
            refine fm_geti (pc := 68) lk_10_159 sh_76 rfl dX10_negation_68 ?_
            refine fm_bipushv (pc := 71) 61 (by decide) dX10_negation_71 ?_
            refine fm_icmp_eq (pc := 73) 87 (by decide) dX10_negation_73 (fun c73 => ?_) (fun c73 => ?_)
            · replace h := fm_itp c73 h
              exact jn_X10_negation_87 hN hE hd hk hK   hq _ h
            · replace h := fm_itn c73 h
              refine fl_aload0 (pc := 76) dX10_negation_76 ?_
              refine fm_geti (pc := 77) lk_10_159 sh_76 rfl dX10_negation_77 ?_
              refine fm_sipushv (pc := 80) 256 (by decide) dX10_negation_80 ?_
              refine fm_icmp_ge (pc := 83) 87 (by decide) dX10_negation_83 (fun c83 => ?_) (fun c83 => ?_)
              · replace h := fm_itp c83 h
                exact jn_X10_negation_87 hN hE hd hk hK   hq _ h
              · replace h := fm_itn c83 h
                refine fm_vret (pc := 86) rfl ?_ dX10_negation_86
                cases h
                exact hq
  · replace h := fm_itn c6 h
    refine fl_aload0 (pc := 9) dX10_negation_9 ?_
    obtain ⟨v14, M15, ev14, h⟩ := fm_bdp h
    refine fm_callV (pc := 10) mX10_knot [] _ rfl cvX10_knot ml_10_252 sh_76 rfl rfl (Nat.le_of_ble_eq_true rfl) (Nat.le_of_ble_eq_true rfl) dX10_negation_10 ?_
    refine sq_X10_knot ev14 ?_ (by omega)
    refine fm_ret0 ?_
    refine fl_aload0 (pc := 13) dX10_negation_13 ?_
    obtain ⟨v16, M17, ev16, h⟩ := fm_bdp h
    refine fm_callV (pc := 14) mX10_goOn [] _ rfl cvX10_goOn ml_10_237 sh_76 rfl rfl (Nat.le_of_ble_eq_true rfl) (Nat.le_of_ble_eq_true rfl) dX10_negation_14 ?_
    refine sq_X10_goOn ev16 ?_ (by omega)
    refine fm_ret0 ?_
    refine fl_aload0 (pc := 17) dX10_negation_17 ?_
    obtain ⟨v18, M19, ev18, h⟩ := fm_bdp h
    refine fm_callV (pc := 18) mX10_negation [] _ rfl cvX10_negation ml_10_258 sh_76 rfl rfl (Nat.le_of_ble_eq_true rfl) (Nat.le_of_ble_eq_true rfl) dX10_negation_18 ?_
    refine hN ev18 ?_ (by omega)
    refine fm_ret0 ?_
    refine fl_aload0 (pc := 21) dX10_negation_21 ?_
    refine fm_iconstv (pc := 22) 2 (by decide) dX10_negation_22 ?_
    refine fm_sipushv (pc := 23) 260 (by decide) dX10_negation_23 ?_
    obtain ⟨v20, M21, ev20, h⟩ := fm_bdp h
    refine fm_callV (pc := 26) mX10_puts [_, _] _ rfl cvX10_puts ml_10_255 sh_76 rfl rfl (Nat.le_of_ble_eq_true rfl) (Nat.le_of_ble_eq_true rfl) dX10_negation_26 ?_
    refine sq_X10_puts ev20 ?_ (by omega)
    refine fm_ret0 ?_
    refine fm_vret (pc := 29) rfl ?_ dX10_negation_29
    cases h
    exact hq
/-- 'not' in a row, by their number -/
def N_X10 (rE : fm_M → Option (Unit × fm_M)) : Nat → fm_M → Option (Unit × fm_M)
  | 0, _ => none
  | n + 1, M => H_X10_negation (N_X10 rE n) rE M
theorem sp_N_X10 {rE : fm_M → Option (Unit × fm_M)} {ke : Nat} (hE : ∀ {M : fm_M} {x : Unit × fm_M} {Q : Option Value → fm_M → Prop} {D : Nat}, rE M = some x → Q none x.2 → ke ≤ D → fm_ct D mX10_expression [.ref 76] M Q) : ∀ (n : Nat) {M : fm_M} {x : Unit × fm_M} {Q : Option Value → fm_M → Prop} {D : Nat}, N_X10 rE n M = some x → Q none x.2 → ke + 6 + 4 + n ≤ D → fm_ct D mX10_negation [.ref 76] M Q := by
  intro n
  induction n with
  | zero => intro M x Q D h; simp [N_X10] at h
  | succ n ih =>
    intro M x Q D h hq hD
    exact sp_X10_negation (kn := ke + 6 + 4 + n) (fun {M x Q D} h hq hD => ih h hq hD) hE h hq (by omega) (by omega) (by omega)
/-! X10_conjunction -/
def G_X10_conjunction_4 (rE : fm_M → Option (Unit × fm_M)) : Nat → fm_M → Option ((Unit) × fm_M)
  | 0, _ => none
  | n + 1, M =>
    fm_bd (F_X10_isWord 13 M) (fun v3 M4 =>
    if v3 = 0 then (
      some ((), M4)
    ) else (
      fm_bd (F_X10_knot M4) (fun v5 M6 =>
      fm_bd (F_X10_goOn M6) (fun v7 M8 =>
      fm_bd (N_X10 rE 70 M8) (fun v9 M10 =>
      fm_bd (F_X10_puts 2 261 M10) (fun v11 M12 =>
      G_X10_conjunction_4 rE n M12))))
    ))
def H_X10_conjunction (rE : fm_M → Option (Unit × fm_M))  (M : fm_M) : Option (Unit × fm_M) :=
    fm_bd (N_X10 rE 70 M) (fun v1 M2 =>
    fm_bd (G_X10_conjunction_4 rE fm_fuel M2) (fun w13 M14 =>
      some ((), M14)))
theorem lp_X10_conjunction_4 {d : Nat} {Q : Option Value → fm_M → Prop} {rE : fm_M → Option (Unit × fm_M)} {ke : Nat} (hE : ∀ {M : fm_M} {x : Unit × fm_M} {Q : Option Value → fm_M → Prop} {D : Nat}, rE M = some x → Q none x.2 → ke ≤ D → fm_ct D mX10_expression [.ref 76] M Q) (hd : ke + 80 ≤ d) (hK : 6 + 80 ≤ d)    {x : (Unit) × fm_M} (k1 : ∀ (v : Unit) (M2 : fm_M), x = (v, M2) → fm_mw (d + 1) mX10_conjunction Q 36 [some (.ref 76)] [] M2) : ∀ (n : Nat)  (M : fm_M), G_X10_conjunction_4 rE n M = some x → fm_mw (d + 1) mX10_conjunction Q 4 [some (.ref 76)] [] M := by
  intro n
  induction n with
  | zero => intro M h; simp [G_X10_conjunction_4] at h
  | succ n ih =>
    intro M h
    rw [G_X10_conjunction_4] at h
    refine fl_aload0 (pc := 4) dX10_conjunction_4 ?_
    refine fm_bipushv (pc := 5) 13 (by decide) dX10_conjunction_5 ?_
    obtain ⟨v3, M4, ev3, h⟩ := fm_bdp h
    refine fm_callV (pc := 7) mX10_isWord [_] _ rfl cvX10_isWord ml_10_249 sh_76 rfl rfl (Nat.le_of_ble_eq_true rfl) (Nat.le_of_ble_eq_true rfl) dX10_conjunction_7 ?_
    refine sq_X10_isWord ev3 ?_ (by omega)
    refine fm_ret1 ?_
    refine fm_if_eq (pc := 10) 36 (by decide) dX10_conjunction_10 (fun c10 => ?_) (fun c10 => ?_)
    · replace h := fm_itp c10 h
      refine fm_fgt [some (.ref 76)] (by simp [fm_sub]) ?_
      cases h
      exact k1 _ _ rfl
    · replace h := fm_itn c10 h
      refine fl_aload0 (pc := 13) dX10_conjunction_13 ?_
      obtain ⟨v5, M6, ev5, h⟩ := fm_bdp h
      refine fm_callV (pc := 14) mX10_knot [] _ rfl cvX10_knot ml_10_252 sh_76 rfl rfl (Nat.le_of_ble_eq_true rfl) (Nat.le_of_ble_eq_true rfl) dX10_conjunction_14 ?_
      refine sq_X10_knot ev5 ?_ (by omega)
      refine fm_ret0 ?_
      refine fl_aload0 (pc := 17) dX10_conjunction_17 ?_
      obtain ⟨v7, M8, ev7, h⟩ := fm_bdp h
      refine fm_callV (pc := 18) mX10_goOn [] _ rfl cvX10_goOn ml_10_237 sh_76 rfl rfl (Nat.le_of_ble_eq_true rfl) (Nat.le_of_ble_eq_true rfl) dX10_conjunction_18 ?_
      refine sq_X10_goOn ev7 ?_ (by omega)
      refine fm_ret0 ?_
      refine fl_aload0 (pc := 21) dX10_conjunction_21 ?_
      obtain ⟨v9, M10, ev9, h⟩ := fm_bdp h
      refine fm_callV (pc := 22) mX10_negation [] _ rfl cvX10_negation ml_10_258 sh_76 rfl rfl (Nat.le_of_ble_eq_true rfl) (Nat.le_of_ble_eq_true rfl) dX10_conjunction_22 ?_
      refine sp_N_X10 hE 70 ev9 ?_ (by omega)
      refine fm_ret0 ?_
      refine fl_aload0 (pc := 25) dX10_conjunction_25 ?_
      refine fm_iconstv (pc := 26) 2 (by decide) dX10_conjunction_26 ?_
      refine fm_sipushv (pc := 27) 261 (by decide) dX10_conjunction_27 ?_
      obtain ⟨v11, M12, ev11, h⟩ := fm_bdp h
      refine fm_callV (pc := 30) mX10_puts [_, _] _ rfl cvX10_puts ml_10_255 sh_76 rfl rfl (Nat.le_of_ble_eq_true rfl) (Nat.le_of_ble_eq_true rfl) dX10_conjunction_30 ?_
      refine sq_X10_puts ev11 ?_ (by omega)
      refine fm_ret0 ?_
      refine fm_goto (pc := 33) 4 (by decide) dX10_conjunction_33 ?_
      refine fm_fgt [some (.ref 76)] (by simp [fm_sub]) ?_
      exact ih  _ h
theorem sp_X10_conjunction {rE : fm_M → Option (Unit × fm_M)} {ke : Nat} (hE : ∀ {M : fm_M} {x : Unit × fm_M} {Q : Option Value → fm_M → Prop} {D : Nat}, rE M = some x → Q none x.2 → ke ≤ D → fm_ct D mX10_expression [.ref 76] M Q)  {M : fm_M} {x : Unit × fm_M} {Q : Option Value → fm_M → Prop} {D : Nat} (h : H_X10_conjunction rE  M = some x) (hq : Q none x.2) (hD : ke + 81 ≤ D) (hK : 6 + 81 ≤ D) : fm_ct D mX10_conjunction [.ref 76] M Q := by
  rw [H_X10_conjunction] at h
  obtain ⟨d, rfl⟩ : ∃ d, D = d + 1 := ⟨D - 1, by omega⟩
  replace hD : ke + 80 ≤ d := by omega
  have hd := hD
  replace hK : 6 + 80 ≤ d := by omega
  show fm_mw (d + 1) mX10_conjunction Q 0 [some (.ref 76)] [] M
  refine fl_aload0 (pc := 0) dX10_conjunction_0 ?_
  obtain ⟨v1, M2, ev1, h⟩ := fm_bdp h
  refine fm_callV (pc := 1) mX10_negation [] _ rfl cvX10_negation ml_10_258 sh_76 rfl rfl (Nat.le_of_ble_eq_true rfl) (Nat.le_of_ble_eq_true rfl) dX10_conjunction_1 ?_
  refine sp_N_X10 hE 70 ev1 ?_ (by omega)
  refine fm_ret0 ?_
  obtain ⟨w13, M14, ew13, h⟩ := fm_bdp h
  refine lp_X10_conjunction_4 hE hd hK  ?_ _  _ ew13
  intro w139 M149 q9
  cases q9
  refine fm_vret (pc := 36) rfl ?_ dX10_conjunction_36
  cases h
  exact hq
/-! X10_expression -/
def G_X10_expression_4 (rE : fm_M → Option (Unit × fm_M)) : Nat → fm_M → Option ((Unit) × fm_M)
  | 0, _ => none
  | n + 1, M =>
    fm_bd (F_X10_isWord 12 M) (fun v3 M4 =>
    if v3 = 0 then (
      some ((), M4)
    ) else (
      fm_bd (F_X10_knot M4) (fun v5 M6 =>
      fm_bd (F_X10_goOn M6) (fun v7 M8 =>
      fm_bd (H_X10_conjunction rE M8) (fun v9 M10 =>
      fm_bd (F_X10_puts 2 262 M10) (fun v11 M12 =>
      G_X10_expression_4 rE n M12))))
    ))
def H_X10_expression (rE : fm_M → Option (Unit × fm_M))  (M : fm_M) : Option (Unit × fm_M) :=
    fm_bd (H_X10_conjunction rE M) (fun v1 M2 =>
    fm_bd (G_X10_expression_4 rE fm_fuel M2) (fun w13 M14 =>
      some ((), M14)))
theorem lp_X10_expression_4 {d : Nat} {Q : Option Value → fm_M → Prop} {rE : fm_M → Option (Unit × fm_M)} {ke : Nat} (hE : ∀ {M : fm_M} {x : Unit × fm_M} {Q : Option Value → fm_M → Prop} {D : Nat}, rE M = some x → Q none x.2 → ke ≤ D → fm_ct D mX10_expression [.ref 76] M Q) (hd : ke + 81 ≤ d) (hK : 6 + 81 ≤ d)    {x : (Unit) × fm_M} (k1 : ∀ (v : Unit) (M2 : fm_M), x = (v, M2) → fm_mw (d + 1) mX10_expression Q 36 [some (.ref 76)] [] M2) : ∀ (n : Nat)  (M : fm_M), G_X10_expression_4 rE n M = some x → fm_mw (d + 1) mX10_expression Q 4 [some (.ref 76)] [] M := by
  intro n
  induction n with
  | zero => intro M h; simp [G_X10_expression_4] at h
  | succ n ih =>
    intro M h
    rw [G_X10_expression_4] at h
    refine fl_aload0 (pc := 4) dX10_expression_4 ?_
    refine fm_bipushv (pc := 5) 12 (by decide) dX10_expression_5 ?_
    obtain ⟨v3, M4, ev3, h⟩ := fm_bdp h
    refine fm_callV (pc := 7) mX10_isWord [_] _ rfl cvX10_isWord ml_10_249 sh_76 rfl rfl (Nat.le_of_ble_eq_true rfl) (Nat.le_of_ble_eq_true rfl) dX10_expression_7 ?_
    refine sq_X10_isWord ev3 ?_ (by omega)
    refine fm_ret1 ?_
    refine fm_if_eq (pc := 10) 36 (by decide) dX10_expression_10 (fun c10 => ?_) (fun c10 => ?_)
    · replace h := fm_itp c10 h
      refine fm_fgt [some (.ref 76)] (by simp [fm_sub]) ?_
      cases h
      exact k1 _ _ rfl
    · replace h := fm_itn c10 h
      refine fl_aload0 (pc := 13) dX10_expression_13 ?_
      obtain ⟨v5, M6, ev5, h⟩ := fm_bdp h
      refine fm_callV (pc := 14) mX10_knot [] _ rfl cvX10_knot ml_10_252 sh_76 rfl rfl (Nat.le_of_ble_eq_true rfl) (Nat.le_of_ble_eq_true rfl) dX10_expression_14 ?_
      refine sq_X10_knot ev5 ?_ (by omega)
      refine fm_ret0 ?_
      refine fl_aload0 (pc := 17) dX10_expression_17 ?_
      obtain ⟨v7, M8, ev7, h⟩ := fm_bdp h
      refine fm_callV (pc := 18) mX10_goOn [] _ rfl cvX10_goOn ml_10_237 sh_76 rfl rfl (Nat.le_of_ble_eq_true rfl) (Nat.le_of_ble_eq_true rfl) dX10_expression_18 ?_
      refine sq_X10_goOn ev7 ?_ (by omega)
      refine fm_ret0 ?_
      refine fl_aload0 (pc := 21) dX10_expression_21 ?_
      obtain ⟨v9, M10, ev9, h⟩ := fm_bdp h
      refine fm_callV (pc := 22) mX10_conjunction [] _ rfl cvX10_conjunction ml_10_246 sh_76 rfl rfl (Nat.le_of_ble_eq_true rfl) (Nat.le_of_ble_eq_true rfl) dX10_expression_22 ?_
      refine sp_X10_conjunction hE ev9 ?_ (by omega) (by omega)
      refine fm_ret0 ?_
      refine fl_aload0 (pc := 25) dX10_expression_25 ?_
      refine fm_iconstv (pc := 26) 2 (by decide) dX10_expression_26 ?_
      refine fm_sipushv (pc := 27) 262 (by decide) dX10_expression_27 ?_
      obtain ⟨v11, M12, ev11, h⟩ := fm_bdp h
      refine fm_callV (pc := 30) mX10_puts [_, _] _ rfl cvX10_puts ml_10_255 sh_76 rfl rfl (Nat.le_of_ble_eq_true rfl) (Nat.le_of_ble_eq_true rfl) dX10_expression_30 ?_
      refine sq_X10_puts ev11 ?_ (by omega)
      refine fm_ret0 ?_
      refine fm_goto (pc := 33) 4 (by decide) dX10_expression_33 ?_
      refine fm_fgt [some (.ref 76)] (by simp [fm_sub]) ?_
      exact ih  _ h
theorem sp_X10_expression {rE : fm_M → Option (Unit × fm_M)} {ke : Nat} (hE : ∀ {M : fm_M} {x : Unit × fm_M} {Q : Option Value → fm_M → Prop} {D : Nat}, rE M = some x → Q none x.2 → ke ≤ D → fm_ct D mX10_expression [.ref 76] M Q)  {M : fm_M} {x : Unit × fm_M} {Q : Option Value → fm_M → Prop} {D : Nat} (h : H_X10_expression rE  M = some x) (hq : Q none x.2) (hD : ke + 82 ≤ D) (hK : 6 + 82 ≤ D) : fm_ct D mX10_expression [.ref 76] M Q := by
  rw [H_X10_expression] at h
  obtain ⟨d, rfl⟩ : ∃ d, D = d + 1 := ⟨D - 1, by omega⟩
  replace hD : ke + 81 ≤ d := by omega
  have hd := hD
  replace hK : 6 + 81 ≤ d := by omega
  show fm_mw (d + 1) mX10_expression Q 0 [some (.ref 76)] [] M
  refine fl_aload0 (pc := 0) dX10_expression_0 ?_
  obtain ⟨v1, M2, ev1, h⟩ := fm_bdp h
  refine fm_callV (pc := 1) mX10_conjunction [] _ rfl cvX10_conjunction ml_10_246 sh_76 rfl rfl (Nat.le_of_ble_eq_true rfl) (Nat.le_of_ble_eq_true rfl) dX10_expression_1 ?_
  refine sp_X10_conjunction hE ev1 ?_ (by omega) (by omega)
  refine fm_ret0 ?_
  obtain ⟨w13, M14, ew13, h⟩ := fm_bdp h
  refine lp_X10_expression_4 hE hd hK  ?_ _  _ ew13
  intro w139 M149 q9
  cases q9
  refine fm_vret (pc := 36) rfl ?_ dX10_expression_36
  cases h
  exact hq
def E_X10 : Nat → fm_M → Option (Unit × fm_M)
  | 0, _ => none
  | n + 1, M => H_X10_expression (E_X10 n) M
theorem sp_E_X10 : ∀ (n : Nat) {M : fm_M} {x : Unit × fm_M} {Q : Option Value → fm_M → Prop} {D : Nat}, E_X10 n M = some x → Q none x.2 → 82 * n + 6 ≤ D → fm_ct D mX10_expression [.ref 76] M Q := by
  intro n
  induction n with
  | zero => intro M x Q D h; simp [E_X10] at h
  | succ n ih =>
    intro M x Q D h hq hD
    exact sp_X10_expression (ke := 82 * n + 6) (fun {M x Q D} h hq hD => ih h hq hD) h hq (by omega) (by omega)
def F_X10_expression (M : fm_M) : Option (Unit × fm_M) := E_X10 12 M
theorem sx_X10_expression {d : Nat} {M : fm_M} {x : Unit × fm_M} {Q : Option Value → fm_M → Prop} (h : F_X10_expression M = some x) (hq : Q none x.2) : fm_ct (d + 990) mX10_expression [.ref 76] M Q := sp_E_X10 12 h hq (by omega)
