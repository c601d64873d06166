/-! the reference's constructor (by program: wip/tools/ctor3.py) -/
def nm_v : List Int32 := [0, 0, 10, 0, 100, 5, 0, 0, 0, 0, 0, 0, 10, 0, 100, 5, 0, 0, 0, 0]
def nm_f : Nat → Nat → Int32
  | 0 => fun _ => 0
  | k + 1 => upd (nm_f k) k (nm_v.getD k 0)
def wsX10 (ca : FieldType → ClassId) (b : Nat → Nat) : va_W := (b 0, .inr (10, [.int 0, .ref (b 1), .int 0, .ref (b 2), .ref (b 3), .ref (b 4), .ref (b 5), .ref (b 6), .ref (b 7), .ref (b 8), .ref (b 9), .ref (b 10), .ref (b 11), .ref (b 12), .ref (b 13), .ref (b 14), .ref (b 15), .int 0, .int 0, .int 0, .int 0, .int 0, .int 0, .int 0, .int 0, .int 0, .int 0, .int (-1), .int 0, .int 0, .ref (b 16), .ref (b 17), .int 0, .ref (b 18), .ref (b 19), .ref (b 20), .ref (b 21), .ref (b 22), .ref (b 23), .ref (b 24), .ref (b 25), .int 0, .int 0, .int 0, .int (-1), .int (-1), .int (-1), .int 0, .ref (b 26), .ref (b 27), .ref (b 28), .ref (b 29), .int 0, .int 0, .int 0, .int 0, .int (-1), .ref (b 30), .ref (b 31), .ref (b 32), .ref (b 33)])) :: [((b 1), .inl (ca .int, 700, .inl fun _ => 0)), ((b 2), .inl (ca .int, 20, .inl (nm_f 20))), ((b 3), .inl (ca .int, 16, .inl fun _ => 0)), ((b 4), .inl (ca .int, 16, .inl fun _ => 0)), ((b 5), .inl (ca .int, 16, .inl fun _ => 0)), ((b 6), .inl (ca .int, 16, .inl fun _ => 0)), ((b 7), .inl (ca .int, 16, .inl fun _ => 0)), ((b 8), .inl (ca .int, 20, .inl fun _ => 0)), ((b 9), .inl (ca .int, 20, .inl fun _ => 0)), ((b 10), .inl (ca .int, 20, .inl fun _ => 0)), ((b 11), .inl (ca .int, 16, .inl fun _ => 0)), ((b 12), .inl (ca .int, 6, .inl fun _ => 0)), ((b 13), .inl (ca .int, 6, .inl fun _ => 0)), ((b 14), .inl (ca .int, 128, .inl fun _ => 0)), ((b 15), .inl (ca .int, 128, .inl fun _ => 0)), ((b 16), .inl (ca .long, 7, .inr (.inl fun _ => 0))), ((b 17), .inl (ca .long, 64, .inr (.inl fun _ => 0))), ((b 18), .inl (ca .int, 23, .inl fun _ => 0)), ((b 19), .inl (ca .int, 23, .inl fun _ => 0)), ((b 20), .inl (ca .int, 23, .inl fun _ => 0)), ((b 21), .inl (ca .int, 23, .inl fun _ => 0)), ((b 22), .inl (ca .int, 184, .inl fun _ => 0)), ((b 23), .inl (ca .int, 230, .inl fun _ => 0)), ((b 24), .inl (ca .int, 230, .inl fun _ => 0)), ((b 25), .inl (ca .int, 230, .inl fun _ => 0)), ((b 26), .inl (ca .int, 36, .inl fun _ => 0)), ((b 27), .inl (ca .int, 25, .inl fun _ => 0)), ((b 28), .inl (ca .int, 25, .inl fun _ => 0)), ((b 29), .inl (ca .int, 4, .inl fun _ => 0)), ((b 30), .inl (ca .int, 24, .inl fun _ => 0)), ((b 31), .inl (ca .boolean, 24, .inl fun _ => 0)), ((b 32), .inl (ca .int, 24, .inl fun _ => 0)), ((b 33), .inl (ca .boolean, 24, .inl fun _ => 0))]
theorem cn_ast {p : Program} {l : Launch} {e : Env} {R : Room} {s : State} {m : MethodId} {args : Array Value} {below : List Frame} {meth : Method} {c : Code} {H : Heap} {locs : List Loc} {k n : Nat} {Qs : State → Prop} {pc : Nat} {ls : Array Slot} {rest : List Value} {own : String} {cc : ByteArray} {nL : Nat} {D : va_G} {sa : Nat → Nat} {ca : FieldType → ClassId} {A : Nat → Prop} {w0 wt : va_W} {j N q : Nat} {f : Nat → Int32} {x i : Int32} (C : cx_ok own cc nL p s m args c D sa ca A) (hw : cn_w s D A (w0 ++ wt) H locs) (hj : wt[j]? = some (q, .inl (ca .int, N, .inl f))) (hin : vp_in i N) (hd : decode cc pc = .ok (.iastore, 1))
    (kk : ∀ (H1 : Heap) (locs1 : List Loc), cn_w s D A (w0 ++ wt.set j (q, .inl (ca .int, N, .inl (upd f i.toNatClampNeg x)))) H1 locs1 → W p l e R s m args below meth c H1 locs1 k n Qs (F0 m (pc + 1) ls rest)) : W p l e R s m args below meth c H locs k n Qs (F0 m pc ls (.int x :: .int i :: .ref q :: rest)) := by
  obtain ⟨⟨hx, hb, hml, hown, hg⟩, hK, hA, hN, hF, hG⟩ := C
  refine va_iast hx hb hK hw.1 hw.2.1 hw.2.2 (w0.length + j) 0 (by rw [List.getElem?_append_right (by omega), Nat.add_sub_cancel_left]; exact hj) rfl hin hd (fun H1 locs1 hP hD hS => ?_)
  have e9 : ∀ y : Nat × va_E, (w0 ++ wt).set (w0.length + j) y = w0 ++ wt.set j y := fun y => by rw [List.set_append_right _ _ (by omega), Nat.add_sub_cancel_left]
  rw [e9] at hP hD
  exact kk H1 locs1 ⟨hP, hD, hS⟩
/-- what the places hold when both are made, before the reference begins -/
def iM0 (p : Nat) : List Int32 := if p = 0 then [0, 21] else if p = 1 then [0, 0, 0, 0, (-1), 4] else if p = 4 then [0, 0, 0, 0, 0, 0, 0, 0, 0, 0, 0, 0, 0, 10, 100, 5] else if p = 21 then [0, 0, 0, 0, 0, 0, 0, 0, 0, 0, 0, 0, 0, 10, 100, 5] else if p = 38 then [0, 0, 100, 0, 0, 0, (-1), 1] else if p = 45 then [0, 0, 100, 0, 0, 0, (-1), 1] else if p = 52 then [0, 0, 100, 0, 0, 0, (-1), 1] else if p = 63 then [0, 0, 0, (-1)] else if p = 66 then [0, 0, 0, 0, 0, (-1)] else if p = 76 then [0, 0, 0, 0, 0, 0, 0, 0, 0, 0, 0, 0, 0, 0, 0, 0, 0, 0, 0, 0, 0, 0, 0, 0, 0, 0, 0, (-1), 0, 0, 0, 0, 0, 0, 0, 0, 0, 0, 0, 0, 0, 0, 0, 0, (-1), (-1), (-1), 0, 0, 0, 0, 0, 0, 0, 0, 0, (-1), 0, 0, 0, 0] else []
def iM1 (g : Nat → Int32) (p : Nat) : Nat → Int32 := if p = 3 then g else if p = 78 then nm_f 20 else fun k => (iM0 p).getD k 0
def iM (g : Nat → Int32) : fm_M := (iM1 g, fun _ _ => 0)
def iad (b0 bm sa : Nat → Nat) (i : Nat) : Nat := if i < 76 then b0 i else if i < 110 then bm (i - 76) else sa i
def gx (f : Nat → fm_S → Nat × va_E) : Nat → List fm_S → va_W
  | _, [] => []
  | k, x :: r => f k x :: gx f (k + 1) r
theorem gx_eq (f : Nat → fm_S → Nat × va_E) : ∀ (l : List fm_S) (k : Nat), gx f k l = l.mapIdx (fun i => f (i + k))
  | [], _ => rfl
  | x :: r, k => by
    rw [gx, gx_eq f r (k + 1), List.mapIdx_cons, Nat.zero_add]
    congr 1
    apply List.ext_getElem?
    intro i
    simp only [List.getElem?_mapIdx]
    rw [show i + 1 + k = i + (k + 1) by omega]
theorem gx_app (f : Nat → fm_S → Nat × va_E) : ∀ (l1 l2 : List fm_S) (k : Nat), gx f k (l1 ++ l2) = gx f k l1 ++ gx f (k + l1.length) l2
  | [], _, _ => rfl
  | x :: r, l2, k => by
    rw [List.cons_append, gx, gx, gx_app f r l2 (k + 1), List.cons_append, List.length_cons, show k + 1 + r.length = k + (r.length + 1) by omega]
abbrev gxF (ca : FieldType → ClassId) (g : Nat → Int32) (b0 bm sa : Nat → Nat) : Nat → fm_S → Nat × va_E := fun p sh => (iad b0 bm sa p, fm_cell (iad b0 bm sa) ca (iM g) p sh)
theorem cellA {ad : Nat → Nat} {ca : FieldType → ClassId} {M : fm_M} {p n : Nat} {ty : FieldType} {f : Nat → Int32} (h : M.1 p = f) : fm_cell ad ca M p (.inl (ty, n)) = .inl (ca ty, n, .inl f) := by rw [← h]; rfl
abbrev sg0 : List fm_S := [.inr (.inr (9, [some (some 1), some none, some (some 38), some (some 45), some (some 52), none, some (some 59), some (some 63), some (some 66), some (some 70), some (some 73)]))]
abbrev sg1 : List fm_S := [.inr (.inr (6, [some (some 2), some (some 3), none, none, none, some none, none, none, none, none, none, none])), .inl (.byte, 700), .inl (.int, 22), .inr (.inr (8, [none, some (some 5), some (some 6), some (some 7), some (some 8), some (some 9), none, none, some (some 10), some (some 11), some (some 12), none, some (some 13), none, none, none, none, some (some 14)])), .inl (.int, 8), .inl (.int, 8), .inl (.int, 8), .inl (.int, 8), .inl (.int, 8), .inl (.int, 10), .inl (.int, 10), .inl (.int, 10), .inl (.int, 8), .inr (.inr (3, [some (some 15), some (some 16), some (some 17), some (some 18), none, none, some (some 19), some (some 20)])), .inl (.int, 3), .inl (.int, 3), .inl (.int, 64), .inl (.int, 64), .inl (.int, 7), .inr (.inl 64)]
abbrev sg2 : List fm_S := [.inr (.inr (8, [none, some (some 22), some (some 23), some (some 24), some (some 25), some (some 26), none, none, some (some 27), some (some 28), some (some 29), none, some (some 30), none, none, none, none, some (some 31)])), .inl (.int, 8), .inl (.int, 8), .inl (.int, 8), .inl (.int, 8), .inl (.int, 8), .inl (.int, 10), .inl (.int, 10), .inl (.int, 10), .inl (.int, 8), .inr (.inr (3, [some (some 32), some (some 33), some (some 34), some (some 35), none, none, some (some 36), some (some 37)])), .inl (.int, 3), .inl (.int, 3), .inl (.int, 64), .inl (.int, 64), .inl (.int, 7), .inr (.inl 64)]
abbrev sg3 : List fm_S := [.inr (.inr (7, [none, none, none, none, none, none, none, none, some (some 39), some (some 40), some (some 41), some (some 42), some (some 43), some (some 44)])), .inl (.int, 8), .inl (.int, 8), .inl (.int, 10), .inl (.int, 10), .inl (.int, 10), .inl (.int, 8)]
abbrev sg4 : List fm_S := [.inr (.inr (7, [none, none, none, none, none, none, none, none, some (some 46), some (some 47), some (some 48), some (some 49), some (some 50), some (some 51)])), .inl (.int, 8), .inl (.int, 8), .inl (.int, 10), .inl (.int, 10), .inl (.int, 10), .inl (.int, 8)]
abbrev sg5 : List fm_S := [.inr (.inr (7, [none, none, none, none, none, none, none, none, some (some 53), some (some 54), some (some 55), some (some 56), some (some 57), some (some 58)])), .inl (.int, 8), .inl (.int, 8), .inl (.int, 10), .inl (.int, 10), .inl (.int, 10), .inl (.int, 8)]
abbrev sg6 : List fm_S := [.inr (.inr (1, [some (some 60), some (some 61), some (some 62), none])), .inl (.int, 20), .inl (.int, 20), .inl (.int, 20)]
abbrev sg7 : List fm_S := [.inr (.inr (4, [some (some 64), some (some 65), none, none, none])), .inl (.int, 24), .inl (.int, 24)]
abbrev sg8 : List fm_S := [.inr (.inr (0, [some (some 67), some (some 68), some (some 69), none, none, none])), .inl (.int, 36), .inl (.int, 793), .inl (.int, 4)]
abbrev sg9 : List fm_S := [.inr (.inr (2, [some (some 71), some (some 72), none])), .inl (.boolean, 25), .inl (.int, 25)]
abbrev sg10 : List fm_S := [.inr (.inr (5, [some (some 74), some (some 75), none, none])), .inl (.int, 4), .inl (.int, 4)]
abbrev sg11 : List fm_S := [.inr (.inr (10, [none, some (some 77), none, some (some 78), some (some 79), some (some 80), some (some 81), some (some 82), some (some 83), some (some 84), some (some 85), some (some 86), some (some 87), some (some 88), some (some 89), some (some 90), some (some 91), none, none, none, none, none, none, none, none, none, none, none, none, none, some (some 92), some (some 93), none, some (some 94), some (some 95), some (some 96), some (some 97), some (some 98), some (some 99), some (some 100), some (some 101), none, none, none, none, none, none, none, some (some 102), some (some 103), some (some 104), some (some 105), none, none, none, none, none, some (some 106), some (some 107), some (some 108), some (some 109)])), .inl (.int, 700), .inl (.int, 20), .inl (.int, 16), .inl (.int, 16), .inl (.int, 16), .inl (.int, 16), .inl (.int, 16), .inl (.int, 20), .inl (.int, 20), .inl (.int, 20), .inl (.int, 16), .inl (.int, 6), .inl (.int, 6), .inl (.int, 128), .inl (.int, 128), .inr (.inl 7), .inr (.inl 64), .inl (.int, 23), .inl (.int, 23), .inl (.int, 23), .inl (.int, 23), .inl (.int, 184), .inl (.int, 230), .inl (.int, 230), .inl (.int, 230), .inl (.int, 36), .inl (.int, 25), .inl (.int, 25), .inl (.int, 4), .inl (.int, 24), .inl (.boolean, 24), .inl (.int, 24), .inl (.boolean, 24)]
theorem sg_all : SHP = sg0 ++ (sg1 ++ (sg2 ++ (sg3 ++ (sg4 ++ (sg5 ++ (sg6 ++ (sg7 ++ (sg8 ++ (sg9 ++ (sg10 ++ (sg11))))))))))) := rfl
set_option maxHeartbeats 4000000 in
theorem pc_0 (ca : FieldType → ClassId) (g : Nat → Int32) (b0 bm sa : Nat → Nat) : gx (gxF ca g b0 bm sa) 0 sg0 = [(b0 0, .inr (9, [.ref (b0 1), .ref (b0 21), .ref (b0 38), .ref (b0 45), .ref (b0 52), .int 0, .ref (b0 59), .ref (b0 63), .ref (b0 66), .ref (b0 70), .ref (b0 73)]))] := rfl
set_option maxHeartbeats 4000000 in
theorem pc_1 (ca : FieldType → ClassId) (g : Nat → Int32) (b0 bm sa : Nat → Nat) : gx (gxF ca g b0 bm sa) 1 sg1 = wsX6 ca g (fun i => b0 (i + 1)) := rfl
set_option maxHeartbeats 4000000 in
theorem pc_2 (ca : FieldType → ClassId) (g : Nat → Int32) (b0 bm sa : Nat → Nat) : gx (gxF ca g b0 bm sa) 21 sg2 = wsX8 ca (fun i => b0 (i + 21)) := rfl
set_option maxHeartbeats 4000000 in
theorem pc_3 (ca : FieldType → ClassId) (g : Nat → Int32) (b0 bm sa : Nat → Nat) : gx (gxF ca g b0 bm sa) 38 sg3 = wsX7 ca (fun i => b0 (i + 38)) := rfl
set_option maxHeartbeats 4000000 in
theorem pc_4 (ca : FieldType → ClassId) (g : Nat → Int32) (b0 bm sa : Nat → Nat) : gx (gxF ca g b0 bm sa) 45 sg4 = wsX7 ca (fun i => b0 (i + 45)) := rfl
set_option maxHeartbeats 4000000 in
theorem pc_5 (ca : FieldType → ClassId) (g : Nat → Int32) (b0 bm sa : Nat → Nat) : gx (gxF ca g b0 bm sa) 52 sg5 = wsX7 ca (fun i => b0 (i + 52)) := rfl
set_option maxHeartbeats 4000000 in
theorem pc_6 (ca : FieldType → ClassId) (g : Nat → Int32) (b0 bm sa : Nat → Nat) : gx (gxF ca g b0 bm sa) 59 sg6 = wsX1 ca (fun i => b0 (i + 59)) := rfl
set_option maxHeartbeats 4000000 in
theorem pc_7 (ca : FieldType → ClassId) (g : Nat → Int32) (b0 bm sa : Nat → Nat) : gx (gxF ca g b0 bm sa) 63 sg7 = wsX4 ca (fun i => b0 (i + 63)) := rfl
set_option maxHeartbeats 4000000 in
theorem pc_8 (ca : FieldType → ClassId) (g : Nat → Int32) (b0 bm sa : Nat → Nat) : gx (gxF ca g b0 bm sa) 66 sg8 = wsX0 ca (fun i => b0 (i + 66)) := rfl
set_option maxHeartbeats 4000000 in
theorem pc_9 (ca : FieldType → ClassId) (g : Nat → Int32) (b0 bm sa : Nat → Nat) : gx (gxF ca g b0 bm sa) 70 sg9 = wsX2 ca (fun i => b0 (i + 70)) := rfl
set_option maxHeartbeats 4000000 in
theorem pc_10 (ca : FieldType → ClassId) (g : Nat → Int32) (b0 bm sa : Nat → Nat) : gx (gxF ca g b0 bm sa) 73 sg10 = wsX5 ca (fun i => b0 (i + 73)) := rfl
def gy (f : Nat → Option (Option Nat) → Value) : Nat → List (Option (Option Nat)) → List Value
  | _, [] => []
  | k, x :: r => f k x :: gy f (k + 1) r
theorem gy_eq (f : Nat → Option (Option Nat) → Value) : ∀ (l : List (Option (Option Nat))) (k : Nat), gy f k l = l.mapIdx (fun i => f (i + k))
  | [], _ => rfl
  | x :: r, k => by
    rw [gy, gy_eq f r (k + 1), List.mapIdx_cons, Nat.zero_add]
    congr 1
    apply List.ext_getElem?
    intro i
    simp only [List.getElem?_mapIdx]
    rw [show i + 1 + k = i + (k + 1) by omega]
def gyv (ad : Nat → Nat) (h : Nat → Int32) (k : Nat) (kd : Option (Option Nat)) : Value := match kd with
  | none => .int (h k)
  | some none => if h k = -1 then .null else .ref (ad (h k).toNatClampNeg)
  | some (some q) => .ref (ad q)
theorem cellO {ad : Nat → Nat} {ca : FieldType → ClassId} {M : fm_M} {p ci : Nat} {ks : List (Option (Option Nat))} {h : Nat → Int32} (e : M.1 p = h) : fm_cell ad ca M p (.inr (.inr (ci, ks))) = .inr (ci, gy (gyv ad h) 0 ks) := by
  subst e
  rw [gy_eq]
  show Sum.inr (ci, ks.mapIdx fun k kd => fm_re ad (fm_v M p k kd)) = Sum.inr (ci, ks.mapIdx fun i => gyv ad (M.1 p) (i + 0))
  have e2 : (fun (k : Nat) (kd : Option (Option Nat)) => fm_re ad (fm_v M p k kd)) = fun i => gyv ad (M.1 p) (i + 0) := by
    funext k kd
    rcases kd with _ | _ | q
    · rfl
    · show fm_re ad (if M.1 p k = -1 then .null else .ref (M.1 p k).toNatClampNeg) = if M.1 p k = -1 then .null else .ref (ad (M.1 p k).toNatClampNeg)
      split <;> rfl
    · rfl
  rw [e2]
abbrev i76 : List Int32 := [0, 0, 0, 0, 0, 0, 0, 0, 0, 0, 0, 0, 0, 0, 0, 0, 0, 0, 0, 0, 0, 0, 0, 0, 0, 0, 0, (-1), 0, 0, 0, 0, 0, 0, 0, 0, 0, 0, 0, 0, 0, 0, 0, 0, (-1), (-1), (-1), 0, 0, 0, 0, 0, 0, 0, 0, 0, (-1), 0, 0, 0, 0]
theorem m76 (g : Nat → Int32) : (iM g).1 76 = fun k => i76.getD k 0 := rfl
abbrev ks76 : List (Option (Option Nat)) := [none, some (some 77), none, some (some 78), some (some 79), some (some 80), some (some 81), some (some 82), some (some 83), some (some 84), some (some 85), some (some 86), some (some 87), some (some 88), some (some 89), some (some 90), some (some 91), none, none, none, none, none, none, none, none, none, none, none, none, none, some (some 92), some (some 93), none, some (some 94), some (some 95), some (some 96), some (some 97), some (some 98), some (some 99), some (some 100), some (some 101), none, none, none, none, none, none, none, some (some 102), some (some 103), some (some 104), some (some 105), none, none, none, none, none, some (some 106), some (some 107), some (some 108), some (some 109)]
set_option maxHeartbeats 4000000 in
set_option maxRecDepth 100000 in
theorem pc_12a (b0 bm sa : Nat → Nat) : gy (gyv (iad b0 bm sa) (fun k => i76.getD k 0)) 0 ks76 = [.int 0, .ref (bm 1), .int 0, .ref (bm 2), .ref (bm 3), .ref (bm 4), .ref (bm 5), .ref (bm 6), .ref (bm 7), .ref (bm 8), .ref (bm 9), .ref (bm 10), .ref (bm 11), .ref (bm 12), .ref (bm 13), .ref (bm 14), .ref (bm 15), .int 0, .int 0, .int 0, .int 0, .int 0, .int 0, .int 0, .int 0, .int 0, .int 0, .int (-1), .int 0, .int 0, .ref (bm 16), .ref (bm 17), .int 0, .ref (bm 18), .ref (bm 19), .ref (bm 20), .ref (bm 21), .ref (bm 22), .ref (bm 23), .ref (bm 24), .ref (bm 25), .int 0, .int 0, .int 0, .int (-1), .int (-1), .int (-1), .int 0, .ref (bm 26), .ref (bm 27), .ref (bm 28), .ref (bm 29), .int 0, .int 0, .int 0, .int 0, .int (-1), .ref (bm 30), .ref (bm 31), .ref (bm 32), .ref (bm 33)] := rfl
abbrev sg13 : List fm_S := [.inl (.int, 700), .inl (.int, 20), .inl (.int, 16), .inl (.int, 16), .inl (.int, 16), .inl (.int, 16), .inl (.int, 16), .inl (.int, 20), .inl (.int, 20), .inl (.int, 20), .inl (.int, 16), .inl (.int, 6), .inl (.int, 6), .inl (.int, 128), .inl (.int, 128), .inr (.inl 7), .inr (.inl 64), .inl (.int, 23), .inl (.int, 23), .inl (.int, 23), .inl (.int, 23), .inl (.int, 184), .inl (.int, 230), .inl (.int, 230), .inl (.int, 230), .inl (.int, 36), .inl (.int, 25), .inl (.int, 25), .inl (.int, 4), .inl (.int, 24), .inl (.boolean, 24), .inl (.int, 24), .inl (.boolean, 24)]
set_option maxHeartbeats 4000000 in
set_option maxRecDepth 100000 in
theorem pc_12b (ca : FieldType → ClassId) (g : Nat → Int32) (b0 bm sa : Nat → Nat) : gx (gxF ca g b0 bm sa) 77 sg13 = (wsX10 ca bm).tail := rfl
theorem pc_12 (ca : FieldType → ClassId) (g : Nat → Int32) (b0 bm sa : Nat → Nat) : gx (gxF ca g b0 bm sa) 76 sg11 = wsX10 ca bm := by
  show (iad b0 bm sa 76, fm_cell (iad b0 bm sa) ca (iM g) 76 (.inr (.inr (10, ks76)))) :: gx (gxF ca g b0 bm sa) 77 sg13 = _
  rw [cellO (m76 g), pc_12a, pc_12b]
  rfl
