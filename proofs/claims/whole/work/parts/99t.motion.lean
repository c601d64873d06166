/-! motion: the class's, which throws -/
def mo_Q (w : Int32) (M : fm_M) : Option Value → fm_M → Prop := fun r M' => r = some (.int w) ∧ M' = M
theorem mo_ret {M : fm_M} {t : Nat} (ht : fm_isTd t = true) (h01 : M.1 0 1 = nI t) {a1 a2 w : Int32} {m : Nat} (hm : m < 10) (e1 : a1 = nI m) (hw : (a2 = 0 ∧ w = M.1 (t + 7) m) ∨ (a2 = 1 ∧ w = M.1 41 m) ∨ (a2 = 2 ∧ w = M.1 42 m) ∨ (a2 = 3 ∧ w = M.1 43 m)) : fm_mw 5 mX9_motion (mo_Q w M) 18 [some (.ref 0), some (.int a1), some (.int a2)] [] M := by
  have ec : Int32.toNatClampNeg (nI m) = m := nI_clamp (by omega)
  have ht2 : t = 4 ∨ t = 21 := by simpa [fm_isTd] using ht
  have et : Int32.toNatClampNeg (M.1 0 1) = t := by rw [h01]; exact nI_clamp (by omega)
  subst e1
  have hin : vp_in (nI m) 10 := vp_in_nI hm (by omega)
  refine fl_iload2 (pc := 18) dX9_motion_18 ?_
  rcases hw with ⟨rfl, hw⟩ | ⟨rfl, hw⟩ | ⟨rfl, hw⟩ | ⟨rfl, hw⟩
  · refine fm_tswIn (pc := 19) 48 0 29 rfl (by decide) (by decide) (by decide) (by decide) dX9_motion_19 ?_
    refine fl_aload0 (pc := 48) dX9_motion_48 ?_
    refine fm_getm (pc := 49) (fm_nn et ht) lk_9_21 sh_0 rfl dX9_motion_49 ?_
    refine fm_cgr et ?_
    refine fm_getr (pc := 52) lk_9_132 (shTd0 ht) rfl dX9_motion_52 ?_
    refine fl_iload1 (pc := 55) dX9_motion_55 ?_
    refine fm_iald (pc := 56) (shTd7 ht) hin dX9_motion_56 ?_
    refine fm_iret (pc := 57) rfl ?_ dX9_motion_57
    rw [ec]
    exact ⟨by rw [hw], rfl⟩
  · refine fm_tswIn (pc := 19) 58 1 39 rfl (by decide) (by decide) (by decide) (by decide) dX9_motion_19 ?_
    refine fl_aload0 (pc := 58) dX9_motion_58 ?_
    refine fm_getr (pc := 59) lk_9_28 sh_0 rfl dX9_motion_59 ?_
    refine fm_getr (pc := 62) lk_9_136 sh_38 rfl dX9_motion_62 ?_
    refine fl_iload1 (pc := 65) dX9_motion_65 ?_
    refine fm_iald (pc := 66) sh_41 hin dX9_motion_66 ?_
    refine fm_iret (pc := 67) rfl ?_ dX9_motion_67
    rw [ec]
    exact ⟨by rw [hw], rfl⟩
  · refine fm_tswIn (pc := 19) 68 2 49 rfl (by decide) (by decide) (by decide) (by decide) dX9_motion_19 ?_
    refine fl_aload0 (pc := 68) dX9_motion_68 ?_
    refine fm_getr (pc := 69) lk_9_28 sh_0 rfl dX9_motion_69 ?_
    refine fm_getr (pc := 72) lk_9_139 sh_38 rfl dX9_motion_72 ?_
    refine fl_iload1 (pc := 75) dX9_motion_75 ?_
    refine fm_iald (pc := 76) sh_42 hin dX9_motion_76 ?_
    refine fm_iret (pc := 77) rfl ?_ dX9_motion_77
    rw [ec]
    exact ⟨by rw [hw], rfl⟩
  · refine fm_tswIn (pc := 19) 78 3 59 rfl (by decide) (by decide) (by decide) (by decide) dX9_motion_19 ?_
    refine fl_aload0 (pc := 78) dX9_motion_78 ?_
    refine fm_getr (pc := 79) lk_9_28 sh_0 rfl dX9_motion_79 ?_
    refine fm_getr (pc := 82) lk_9_142 sh_38 rfl dX9_motion_82 ?_
    refine fl_iload1 (pc := 85) dX9_motion_85 ?_
    refine fm_iald (pc := 86) sh_43 hin dX9_motion_86 ?_
    refine fm_iret (pc := 87) rfl ?_ dX9_motion_87
    rw [ec]
    exact ⟨by rw [hw], rfl⟩
/-- more room is as good -/
theorem fw_room {p : Program} {l : Launch} {e : Env} {R R' : Room} {s : State} {m : MethodId} {args : Array Value} {below : List Frame} {meth : Method} {c : Code} {H : Heap} {locs : List Loc} {cells slots : Nat} {Qs : State → Prop} {g : JFrame} (h1 : R.frames ≤ R'.frames) (h2 : R.locals ≤ R'.locals) (h3 : R.cells ≤ R'.cells) (h4 : R.slots ≤ R'.slots) (k : W p l e R s m args below meth c H locs cells slots Qs g) : W p l e R' s m args below meth c H locs cells slots Qs g := fun T hT X => by
  refine k T hT { X with room := ?_ }
  have h := X.room
  simp only [State.hasRoom, Bool.and_eq_true, decide_eq_true_eq] at h ⊢
  obtain ⟨⟨⟨⟨q1, q2, q3, q4, q5, q6⟩, q7⟩, q8⟩, q9⟩ := h
  refine ⟨⟨⟨⟨by omega, by omega, by omega, by omega, by omega, q6⟩, by omega⟩, by omega⟩, q9⟩
abbrev xI : String := "java/lang/IndexOutOfBoundsException"
abbrev xN : String := "java/util/NoSuchElementException"
abbrev xR : String := "java/lang/RuntimeException"
abbrev xE : String := "java/lang/Exception"
/-- the words of a throw that no list of good words has -/
def mo_B : List Cond := [.castable xI xI, .castable xN xN, .declares (Bundle.initS xR), .declares (Bundle.initS xE), .declares (Bundle.initS Bundle.tN)]
theorem mo_mv {u U : State} (hvm : u.vm.Alike U.vm) (h : ∀ w ∈ mo_B, va_Nw w u) : ∀ w ∈ mo_B, va_Nw w U := by
  have tr : ∀ {c : Cond}, c.onTables = true → c.before #[] (u.setVm U.vm) = true → c.before #[] U = true := by
    intro c hc h
    have e := Cond.onTables_vm (A := #[]) (A' := #[]) (U := u) (U' := U) U.vm c hc
    have hU : U.setVm U.vm = U := rfl
    rw [hU] at e
    rw [← e]
    exact h
  intro w hw
  have h1 := h w hw
  simp only [mo_B, List.mem_cons, List.not_mem_nil, or_false] at hw
  rcases hw with rfl | rfl | rfl | rfl | rfl
  · exact tr rfl (by rw [Cond.castable_setVm hvm]; exact h1)
  · exact tr rfl (by rw [Cond.castable_setVm hvm]; exact h1)
  · exact tr rfl (by rw [Cond.declares_setVm hvm]; exact h1)
  · exact tr rfl (by rw [Cond.declares_setVm hvm]; exact h1)
  · exact tr rfl (by rw [Cond.declares_setVm hvm]; exact h1)
/-- what a throw asks of the start: the statics of Throwable, two texts (places 1003, 1004), the words -/
def mo_tw (ad : Nat → Nat) (A : Nat → Prop) (U : State) (H : Heap) : Prop := vx_Zq Bundle.tN "UNASSIGNED_STACK" Bundle.steD A U H ∧ vx_Zq Bundle.tN "SUPPRESSED_SENTINEL" Bundle.listD A U H ∧ vk_R RX9 127 "no such motion" (ad 1003) U ∧ vk_R RX9 147 "no such what" (ad 1004) U ∧ ∀ w ∈ mo_B, va_Nw w U
theorem mo_tw.go {ad : Nat → Nat} {A B : Nat → Prop} {s U : State} {H H1 : Heap} (h : mo_tw ad A s H) (hq : ∀ a : Nat, a < H.size → ¬ A a → H1[a]? = H[a]?) (hW : s.WarmedH U.vm) (hAB : ∀ q, B q → A q) : mo_tw ad B U H1 :=
  ⟨(vx_Zq.moved hW.alike (h.1.kept hq)).narrow hAB, (vx_Zq.moved hW.alike (h.2.1.kept hq)).narrow hAB, vk_R.warm hW h.2.2.1, vk_R.warm hW h.2.2.2.1, mo_mv hW.alike h.2.2.2.2⟩
theorem mo_tw.same {ad : Nat → Nat} {A : Nat → Prop} {s U : State} {H : Heap} (h : mo_tw ad A s H) (hv : U.vm = s.vm) : mo_tw ad A U H :=
  ⟨vx_Zq.moved (by rw [hv]; exact Vm.Alike.refl _) h.1, vx_Zq.moved (by rw [hv]; exact Vm.Alike.refl _) h.2.1, vk_R.same hv h.2.2.1, vk_R.same hv h.2.2.2.1, mo_mv (by rw [hv]; exact Vm.Alike.refl _) h.2.2.2.2⟩
abbrev mo_L1 : List Cond := vx_atS RX9 129 xI 7 prog_17_method_2_code xR [xE]
abbrev mo_L2 : List Cond := vx_atS RX9 149 xN 13 prog_29_method_4_code xR [xE]
theorem mo_g1 : ∀ w ∈ mo_L1.filter goodWord, w ∈ lw_tbl := by decide +kernel
theorem mo_g2 : ∀ w ∈ mo_L2.filter goodWord, w ∈ lw_tbl := by decide +kernel
theorem mo_b1 : ∀ w ∈ mo_L1.filter (fun w => !goodWord w), w ∈ mo_B := by decide +kernel
theorem mo_b2 : ∀ w ∈ mo_L2.filter (fun w => !goodWord w), w ∈ mo_B := by decide +kernel
theorem mo_o1 : ∀ w ∈ Cond.classLink RX9 125 xI :: Cond.initialized xI :: mo_L1, vx_ot w = true := by decide +kernel
theorem mo_o2 : ∀ w ∈ Cond.classLink RX9 145 xN :: Cond.initialized xN :: mo_L2, vx_ot w = true := by decide +kernel
theorem mo_Bt : ∀ w ∈ mo_B, w.onTables = true := by decide +kernel
theorem mo_k1 : Cond.classLink RX9 125 xI ∈ fm_gw ∧ Cond.initialized xI ∈ fm_gw ∧ Cond.classLink RX9 145 xN ∈ fm_gw ∧ Cond.initialized xN ∈ fm_gw := by decide +kernel
