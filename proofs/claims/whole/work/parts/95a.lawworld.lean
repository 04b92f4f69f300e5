def up {α : Type} (f : Nat → α) (i : Nat) (v : α) : Nat → α := fun k => bif Nat.beq k i then v else f k
def rqs (ad : Nat → Nat) : Nat → Option Nat := (va_up (va_up (va_up (va_up (fun _ => none) ((0 : Int32)).toNatClampNeg (some (ad 19))) ((1 : Int32)).toNatClampNeg (some (ad 25))) ((2 : Int32)).toNatClampNeg (some (ad 31))) ((3 : Int32)).toNatClampNeg (some (ad 37)))
abbrev wX (cI cZ cR : ClassId) (ad : Nat → Nat) (I : Nat → Int32) (R : Nat → Nat → Int32) : va_W := [(ad 0, oB 10 [.ref (ad 1), .ref (ad 8), .ref (ad 11), .ref (ad 14), .ref (ad 18), .ref (ad 43), .ref (ad 48), .ref (ad 52), .ref (ad 59), .ref (ad 61), .int (I 0), .int (I 1), .int (I 2)]), (ad 1, oB 3 [.ref (ad 2), .ref (ad 3), .ref (ad 4), .ref (ad 5), .ref (ad 6), .ref (ad 7), .int (I 3)]), (ad 2, aI cI 200 (R 0)), (ad 3, aI cI 200 (R 1)), (ad 4, aI cI 200 (R 2)), (ad 5, aI cI 200 (R 3)), (ad 6, aI cI 200 (R 4)), (ad 7, aI cI 10 (R 5)), (ad 8, oB 7 [.ref (ad 9), .ref (ad 10), .int (I 4), .int (I 5)]), (ad 9, aI cI 10 (R 6)), (ad 10, aI cI 6 (R 7)), (ad 11, oB 7 [.ref (ad 12), .ref (ad 13), .int (I 6), .int (I 7)]), (ad 12, aI cI 10 (R 8)), (ad 13, aI cI 6 (R 9)), (ad 14, oB 5 [.ref (ad 15), .ref (ad 16), .ref (ad 17), .int (I 8), .int (I 9), .int (I 10), .int (I 11), .int (I 12), .int (I 13), .int (I 14), .int (I 15), .int (I 16), .int (I 17), .int (I 18), .int (I 19), .int (I 20), .int (I 21)]), (ad 15, aI cI 400 (R 10)), (ad 16, aI cI 400 (R 11)), (ad 17, aI cI 40 (R 12)), (ad 18, aQ cR 4 (rqs ad)), (ad 19, oB 6 [.ref (ad 20), .ref (ad 21), .ref (ad 22), .int (I 60)]), (ad 20, aI cI 400 (R 60)), (ad 21, aI cI 40 (R 64)), (ad 22, oB 8 [.ref (ad 23), .ref (ad 24), .int (I 64), .int (I 68), .int (I 72)]), (ad 23, aI cI 32 (R 68)), (ad 24, aI cI 4 (R 72)), (ad 25, oB 6 [.ref (ad 26), .ref (ad 27), .ref (ad 28), .int (I 61)]), (ad 26, aI cI 400 (R 61)), (ad 27, aI cI 40 (R 65)), (ad 28, oB 8 [.ref (ad 29), .ref (ad 30), .int (I 65), .int (I 69), .int (I 73)]), (ad 29, aI cI 32 (R 69)), (ad 30, aI cI 4 (R 73)), (ad 31, oB 6 [.ref (ad 32), .ref (ad 33), .ref (ad 34), .int (I 62)]), (ad 32, aI cI 400 (R 62)), (ad 33, aI cI 40 (R 66)), (ad 34, oB 8 [.ref (ad 35), .ref (ad 36), .int (I 66), .int (I 70), .int (I 74)]), (ad 35, aI cI 32 (R 70)), (ad 36, aI cI 4 (R 74)), (ad 37, oB 6 [.ref (ad 38), .ref (ad 39), .ref (ad 40), .int (I 63)]), (ad 38, aI cI 400 (R 63)), (ad 39, aI cI 40 (R 67)), (ad 40, oB 8 [.ref (ad 41), .ref (ad 42), .int (I 67), .int (I 71), .int (I 75)]), (ad 41, aI cI 32 (R 71)), (ad 42, aI cI 4 (R 75)), (ad 43, oB 1 [.ref (ad 44), .ref (ad 45), .int (I 22)]), (ad 44, aI cI 252 (R 13)), (ad 45, oB 8 [.ref (ad 46), .ref (ad 47), .int (I 23), .int (I 24), .int (I 25)]), (ad 46, aI cI 32 (R 14)), (ad 47, aI cI 4 (R 15)), (ad 48, oB 9 [.ref (ad 49), .ref (ad 50), .ref (ad 51), .int (I 26), .int (I 27)]), (ad 49, aI cI 1024 (R 16)), (ad 50, aI cI 1024 (R 17)), (ad 51, aI cI 1846 (R 18)), (ad 52, oB 4 [.ref (ad 53), .ref (ad 54), .ref (ad 55), .ref (ad 56), .ref (ad 57), .ref (ad 58), .int (I 28)]), (ad 53, aI cI 10 (R 19)), (ad 54, aI cI 60 (R 20)), (ad 55, aI cI 6 (R 21)), (ad 56, aI cI 6 (R 22)), (ad 57, aI cI 6 (R 23)), (ad 58, aI cI 6 (R 24)), (ad 59, oB 2 [.ref (ad 60), .int (I 29), .int (I 30), .int (I 31), .int (I 32)]), (ad 60, aI cI 6 (R 25)), (ad 61, oB 0 [.ref (ad 62), .ref (ad 63), .ref (ad 64), .ref (ad 65), .ref (ad 66), .ref (ad 67), .ref (ad 68), .ref (ad 69), .int (I 33)]), (ad 62, aI cI 48 (R 26)), (ad 63, aI cI 6 (R 27)), (ad 64, aI cI 6 (R 28)), (ad 65, aI cI 8 (R 29)), (ad 66, aI cI 8 (R 30)), (ad 67, aI cI 6 (R 31)), (ad 68, aI cI 256 (R 32)), (ad 69, aI cI 1536 (R 33))]
abbrev wM (cI cZ cR : ClassId) (ad : Nat → Nat) (J : Nat → Int32) (Q : Nat → Nat → Int32) : va_W := [(ad 70, oB 11 [.int (J 0), .int (J 1), .int (J 2), .ref (ad 71), .ref (ad 72), .ref (ad 73), .ref (ad 74), .ref (ad 75), .int (J 3), .int (J 4), .ref (ad 76), .ref (ad 77), .int (J 5), .int (J 6), .int (J 7), .ref (ad 78), .ref (ad 79), .ref (ad 80), .int (J 8), .int (J 9), .int (J 10), .int (J 11), .int (J 12), .ref (ad 81), .ref (ad 82), .ref (ad 83), .ref (ad 84), .int (J 13), .int (J 14), .ref (ad 85), .int (J 15), .int (J 16), .int (J 17), .int (J 18), .int (J 19), .ref (ad 86), .ref (ad 87), .ref (ad 88), .ref (ad 89), .ref (ad 90), .int (J 20), .ref (ad 91), .ref (ad 92), .ref (ad 93), .ref (ad 94), .ref (ad 95), .ref (ad 96), .ref (ad 97), .ref (ad 98), .ref (ad 99), .ref (ad 100), .ref (ad 101)]), (ad 71, aI cI 200 (Q 0)), (ad 72, aI cI 200 (Q 1)), (ad 73, aI cI 200 (Q 2)), (ad 74, aI cI 200 (Q 3)), (ad 75, aI cI 200 (Q 4)), (ad 76, aI cI 60 (Q 5)), (ad 77, aI cZ 10 (Q 6)), (ad 78, aI cI 10 (Q 7)), (ad 79, aI cI 10 (Q 8)), (ad 80, aI cI 400 (Q 9)), (ad 81, aI cI 44 (Q 10)), (ad 82, aI cI 5 (Q 11)), (ad 83, aI cI 2500 (Q 12)), (ad 84, aI cI 2500 (Q 13)), (ad 85, aI cI 40 (Q 14)), (ad 86, aI cI 60 (Q 15)), (ad 87, aI cZ 1024 (Q 16)), (ad 88, aI cI 59049 (Q 17)), (ad 89, aI cI 1024 (Q 18)), (ad 90, aI cZ 36 (Q 19)), (ad 91, aI cI 6 (Q 20)), (ad 92, aI cI 42 (Q 21)), (ad 93, aI cI 6 (Q 22)), (ad 94, aI cI 6 (Q 23)), (ad 95, aI cI 48 (Q 24)), (ad 96, aI cI 8 (Q 25)), (ad 97, aI cI 6 (Q 26)), (ad 98, aI cI 1536 (Q 27)), (ad 99, aI cI 256 (Q 28)), (ad 100, aI cI 8 (Q 29)), (ad 101, aI cI 6 (Q 30))]
theorem app_at {A B : va_W} {i : Nat} {q : Nat × va_E} (h : A[i]? = some q) : (A ++ B)[i]? = some q := by
  rw [List.getElem?_append_left (List.getElem?_eq_some_iff.mp h).1]; exact h
theorem app_lt {A wc : va_W} {is : List Nat} (h : is.map (fun i => A[i]?) = wc.map some) : ∀ i ∈ is, i < A.length := by
  intro i hi
  have h2 : A[i]? ∈ is.map (fun i => A[i]?) := List.mem_map.mpr ⟨i, hi, rfl⟩
  rw [h] at h2
  obtain ⟨q, -, e⟩ := List.mem_map.mp h2
  exact (List.getElem?_eq_some_iff.mp e.symm).1
theorem app_sel {A B wc : va_W} {is : List Nat} (h : is.map (fun i => A[i]?) = wc.map some) : is.map (fun i => (A ++ B)[i]?) = wc.map some := by
  rw [← h]
  apply List.map_congr_left
  intro i hi
  exact List.getElem?_append_left (app_lt h i hi)
theorem app_sel2 {A B wc : va_W} {n : Nat} (hn : A.length = n) {is : List Nat} (h : is.map (fun i => B[i]?) = wc.map some) : (is.map (fun i => n + i)).map (fun i => (A ++ B)[i]?) = wc.map some := by
  rw [← h, List.map_map]
  apply List.map_congr_left
  intro i hi
  subst hn
  show (A ++ B)[A.length + i]? = B[i]?
  rw [List.getElem?_append_right (Nat.le_add_right _ _), Nat.add_sub_cancel_left]
theorem app_wset : ∀ (is : List Nat) (qs A B : va_W), (∀ i ∈ is, i < A.length) → wset (A ++ B) is qs = wset A is qs ++ B
  | [], _, _, _, _ => rfl
  | _ :: _, [], _, _, _ => rfl
  | i :: is, q :: qs, A, B, h => by
    show wset ((A ++ B).set i q) is qs = wset (A.set i q) is qs ++ B
    rw [List.set_append, if_pos (h i List.mem_cons_self)]
    exact app_wset is qs (A.set i q) B (fun j hj => by rw [List.length_set]; exact h j (List.mem_cons_of_mem _ hj))
theorem wset_is {is ot : List Nat} {qs W0 W1 : va_W} {n : Nat} (h0 : W0.length = n) (h1 : W1.length = n) (hC : is.map (fun i => W1[i]?) = qs.map some) (hO : ot.map (fun i => W1[i]?) = (ot.map (fun i => W0.getD i (0, .inr (0, [])))).map some) (hcv : ∀ k, k < n → k ∈ is ∨ k ∈ ot) : wset W0 is qs = W1 := by
  have hlen : qs.length = is.length := by
    have := congrArg List.length hC
    simpa using this.symm
  apply List.ext_getElem?
  intro k
  cases hq : (wset W0 is qs)[k]? with
  | none =>
    have := List.getElem?_eq_none_iff.mp hq
    rw [wset_len, h0] at this
    exact (List.getElem?_eq_none (by omega)).symm
  | some q =>
    rcases wset_at is qs W0 k q hq with ⟨j, g1, g2⟩ | ⟨g1, g2⟩
    · have h3 : (is.map (fun i => W1[i]?))[j]? = (qs.map some)[j]? := by rw [hC]
      rw [List.getElem?_map, List.getElem?_map, g1, g2] at h3
      exact (Option.some.inj h3).symm
    · have hk : k < n := by rw [← h0]; exact (List.getElem?_eq_some_iff.mp g1).1
      rcases hcv k hk with h4 | h4
      · exact absurd (g2 h4) (by omega)
      · obtain ⟨j, hj⟩ := List.getElem?_of_mem h4
        have h3 : (ot.map (fun i => W1[i]?))[j]? = ((ot.map (fun i => W0.getD i (0, .inr (0, [])))).map some)[j]? := by rw [hO]
        rw [List.getElem?_map, List.getElem?_map, List.getElem?_map, hj] at h3
        have h5 : W1[k]? = some (W0.getD k (0, .inr (0, []))) := Option.some.inj h3
        rw [h5, List.getD_eq_getElem?_getD, g1]
        rfl
theorem app_wset2 : ∀ (is : List Nat) (qs A B : va_W) (n : Nat), A.length = n → wset (A ++ B) (is.map (fun i => n + i)) qs = A ++ wset B is qs
  | [], _, _, _, _, _ => rfl
  | _ :: _, [], _, _, _, _ => rfl
  | i :: is, q :: qs, A, B, n, h => by
    show wset ((A ++ B).set (n + i) q) (is.map (fun i => n + i)) qs = A ++ wset (B.set i q) is qs
    rw [List.set_append, if_neg (by omega), show n + i - A.length = i by omega]
    exact app_wset2 is qs A (B.set i q) n h
section LCALLS
variable {p : Program} {l : Launch} {e : Env} {R : Room} {s : State} {m : MethodId} {args : Array Value} {below : List Frame} {meth : Method} {c : Code} {H : Heap} {locs : List Loc} {cells slots : Nat} {Q : State → Prop}
variable {D : va_G} {cI cZ cR : ClassId} {A : Nat → Prop} {adK adV : Nat → Nat} {cc : ByteArray} {nL : Nat} {ret : Option FieldType} {own : String} {ws : List Cond} {WA WB WA' WB' wc w' : va_W}
variable {ws2 : List Cond} {rm : Room} {y : MethodName} {bytes : ByteArray} {maxL n index : Nat} {ret2 : Option FieldType} {As rest : List Value} {C : String} {b : Addr} {ci : Nat} {q : u_T × Nat} {fs : List Value} {q0 pc : Nat} {ls : Array Slot} {st : List Value}
theorem rnVSG {ww : va_W} {Qc : Array Value → State → Outcome → State → Prop} {free : Addr → Prop} (hcs : cells ≤ R.cells ∧ slots ≤ R.slots) (X : cx p s m args meth c cc nL ret own ws) (is : List Nat) (hK : va_K D vwCl (ty3 cI cZ cR) s) (hP : va_P D vwCl ww H) (hD : va_D A ww) (hC : is.map (fun i => ww[i]?) = wc.map some) (hnd : va_nd is = true) (hW : SW adK adV A s s.heap) (hS : va_S A s.heap H locs) (hA : ∀ q, s.heap.size ≤ q → A q)
    (hc : vwCl[ci]? = some (C, q)) (he : ww[q0]? = some (b, .inr (ci, fs)))
    (hM : Met l y ws2 rm (preS adK adV D cI cZ cR (.ref b :: As) wc H.size) Qc 0 0 free) (cw : CallW R s args own C index y bytes maxL ret2 ws2 rm 0 0 n) (hn : As.length = n) (hl : ls.size = nL) (hst : st = As.reverse ++ .ref b :: rest) (hWr : (rest.map fun v => v.category).sum ≤ 8) (hdg : decode cc pc = .ok (.invokevirtual index, 3)) :
    va_Run p l e R s m args below meth c H locs cells slots 0 0 (F0 m pc ls st) rest (Qc (Value.ref b :: As).toArray) free := by
  obtain ⟨hx, hb, hml, hr, hown, hts, hlocks, hN⟩ := X
  exact va_runV (As := As) (rest := rest) ⟨hx, hb, hml, hown, hts⟩ hM cw ⟨preS_blind, va_recv hK hP hc he, pre_ofS hK hN hP hD hW hS hA is hC hnd⟩ rfl hn hl hst (lv_room hWr) hdg hcs
theorem lcX {v : Int32} (hcs : cells ≤ R.cells ∧ slots ≤ R.slots) (X : cx p s m args meth c cc nL ret own ws) (is : List Nat) (hK : va_K D vwCl (ty3 cI cZ cR) s) (hP : va_P D vwCl (WA ++ WB) H) (hD : va_D A (WA ++ WB)) (hS : va_S A s.heap H locs) (hA : ∀ q, s.heap.size ≤ q → A q) (hC : is.map (fun i => WA[i]?) = wc.map some) (hf : w'.map Prod.fst = wc.map Prod.fst) (hn : va_nd is = true) (ot : List Nat) {nw : Nat} (hw0 : WA.length = nw) (hw1 : WA'.length = nw) (hw2 : is.map (fun i => WA'[i]?) = w'.map some) (hw3 : ot.map (fun i => WA'[i]?) = (ot.map (fun i => WA.getD i (0, .inr (0, [])))).map some) (hw4 : ∀ k, k < nw → k ∈ is ∨ k ∈ ot)
    (hc : vwCl[ci]? = some (C, q)) (he : WA[q0]? = some (b, .inr (ci, fs)))
    (hM : Met l y ws2 rm (pre D cI cZ cR (.ref b :: As) wc H.size) (qi D cI cZ cR (va_A wc H.size) v w') 0 0 (va_A wc H.size)) (cw : CallW R s args own C index y bytes maxL ret2 ws2 rm 0 0 n) (hn2 : As.length = n) (hl : ls.size = nL) (hst : st = As.reverse ++ .ref b :: rest) (hWr : (rest.map fun v => v.category).sum ≤ 8) (hdg : decode cc pc = .ok (.invokevirtual index, 3))
    (kk : ∀ (H1 : Heap) (locs1 : List Loc), va_P D vwCl (WA' ++ WB) H1 → va_D A (WA' ++ WB) → va_S A s.heap H1 locs1 → W p l e R s m args below meth c H1 locs1 cells slots Q (F0 m (pc + 3) ls (.int v :: rest))) : W p l e R s m args below meth c H locs cells slots Q (F0 m pc ls st) := by
  have hC2 := app_sel (B := WB) hC
  have ew := app_wset is w' WA WB (app_lt hC)
  have hw := wset_is hw0 hw1 hw2 hw3 hw4
  refine wcalliG is hP hD hS hA hC2 hf hn (rnVG hcs X is hK hP hD hC2 hn hc (app_at he) hM cw hn2 hl hst hWr hdg) (fun H1 l1 p1 d1 s1 => ?_)
  rw [ew, hw] at p1 d1
  exact kk H1 l1 p1 d1 s1
theorem lcXl {v : Int64} (hcs : cells ≤ R.cells ∧ slots ≤ R.slots) (X : cx p s m args meth c cc nL ret own ws) (is : List Nat) (hK : va_K D vwCl (ty3 cI cZ cR) s) (hP : va_P D vwCl (WA ++ WB) H) (hD : va_D A (WA ++ WB)) (hS : va_S A s.heap H locs) (hA : ∀ q, s.heap.size ≤ q → A q) (hC : is.map (fun i => WA[i]?) = wc.map some) (hf : w'.map Prod.fst = wc.map Prod.fst) (hn : va_nd is = true) (ot : List Nat) {nw : Nat} (hw0 : WA.length = nw) (hw1 : WA'.length = nw) (hw2 : is.map (fun i => WA'[i]?) = w'.map some) (hw3 : ot.map (fun i => WA'[i]?) = (ot.map (fun i => WA.getD i (0, .inr (0, [])))).map some) (hw4 : ∀ k, k < nw → k ∈ is ∨ k ∈ ot)
    (hc : vwCl[ci]? = some (C, q)) (he : WA[q0]? = some (b, .inr (ci, fs)))
    (hM : Met l y ws2 rm (pre D cI cZ cR (.ref b :: As) wc H.size) (ql D cI cZ cR (va_A wc H.size) v w') 0 0 (va_A wc H.size)) (cw : CallW R s args own C index y bytes maxL ret2 ws2 rm 0 0 n) (hn2 : As.length = n) (hl : ls.size = nL) (hst : st = As.reverse ++ .ref b :: rest) (hWr : (rest.map fun v => v.category).sum ≤ 8) (hdg : decode cc pc = .ok (.invokevirtual index, 3))
    (kk : ∀ (H1 : Heap) (locs1 : List Loc), va_P D vwCl (WA' ++ WB) H1 → va_D A (WA' ++ WB) → va_S A s.heap H1 locs1 → W p l e R s m args below meth c H1 locs1 cells slots Q (F0 m (pc + 3) ls (.long v :: rest))) : W p l e R s m args below meth c H locs cells slots Q (F0 m pc ls st) := by
  have hC2 := app_sel (B := WB) hC
  have ew := app_wset is w' WA WB (app_lt hC)
  have hw := wset_is hw0 hw1 hw2 hw3 hw4
  refine wcalllG is hP hD hS hA hC2 hf hn (rnVG hcs X is hK hP hD hC2 hn hc (app_at he) hM cw hn2 hl hst hWr hdg) (fun H1 l1 p1 d1 s1 => ?_)
  rw [ew, hw] at p1 d1
  exact kk H1 l1 p1 d1 s1
theorem lcXS {v : Int32} (hcs : cells ≤ R.cells ∧ slots ≤ R.slots) (X : cx p s m args meth c cc nL ret own ws) (is : List Nat) (hK : va_K D vwCl (ty3 cI cZ cR) s) (hP : va_P D vwCl (WA ++ WB) H) (hD : va_D A (WA ++ WB)) (hS : va_S A s.heap H locs) (hA : ∀ q, s.heap.size ≤ q → A q) (hSW : SW adK adV A s s.heap) (hC : is.map (fun i => WA[i]?) = wc.map some) (hf : w'.map Prod.fst = wc.map Prod.fst) (hn : va_nd is = true) (ot : List Nat) {nw : Nat} (hw0 : WA.length = nw) (hw1 : WA'.length = nw) (hw2 : is.map (fun i => WA'[i]?) = w'.map some) (hw3 : ot.map (fun i => WA'[i]?) = (ot.map (fun i => WA.getD i (0, .inr (0, [])))).map some) (hw4 : ∀ k, k < nw → k ∈ is ∨ k ∈ ot)
    (hc : vwCl[ci]? = some (C, q)) (he : WA[q0]? = some (b, .inr (ci, fs)))
    (hM : Met l y ws2 rm (preS adK adV D cI cZ cR (.ref b :: As) wc H.size) (qi D cI cZ cR (va_A wc H.size) v w') 0 0 (va_A wc H.size)) (cw : CallW R s args own C index y bytes maxL ret2 ws2 rm 0 0 n) (hn2 : As.length = n) (hl : ls.size = nL) (hst : st = As.reverse ++ .ref b :: rest) (hWr : (rest.map fun v => v.category).sum ≤ 8) (hdg : decode cc pc = .ok (.invokevirtual index, 3))
    (kk : ∀ (H1 : Heap) (locs1 : List Loc), va_P D vwCl (WA' ++ WB) H1 → va_D A (WA' ++ WB) → va_S A s.heap H1 locs1 → W p l e R s m args below meth c H1 locs1 cells slots Q (F0 m (pc + 3) ls (.int v :: rest))) : W p l e R s m args below meth c H locs cells slots Q (F0 m pc ls st) := by
  have hC2 := app_sel (B := WB) hC
  have ew := app_wset is w' WA WB (app_lt hC)
  have hw := wset_is hw0 hw1 hw2 hw3 hw4
  refine wcalliG is hP hD hS hA hC2 hf hn (rnVSG hcs X is hK hP hD hC2 hn hSW hS hA hc (app_at he) hM cw hn2 hl hst hWr hdg) (fun H1 l1 p1 d1 s1 => ?_)
  rw [ew, hw] at p1 d1
  exact kk H1 l1 p1 d1 s1
theorem lcM {v : Int32} {nA : Nat} (hnA : WA.length = nA) (hcs : cells ≤ R.cells ∧ slots ≤ R.slots) (X : cx p s m args meth c cc nL ret own ws) (is : List Nat) (hK : va_K D vwCl (ty3 cI cZ cR) s) (hP : va_P D vwCl (WA ++ WB) H) (hD : va_D A (WA ++ WB)) (hS : va_S A s.heap H locs) (hA : ∀ q, s.heap.size ≤ q → A q) (hC : is.map (fun i => WB[i]?) = wc.map some) (hf : w'.map Prod.fst = wc.map Prod.fst) (hn : va_nd (is.map (fun i => nA + i)) = true) (ot : List Nat) {nw : Nat} (hw0 : WB.length = nw) (hw1 : WB'.length = nw) (hw2 : is.map (fun i => WB'[i]?) = w'.map some) (hw3 : ot.map (fun i => WB'[i]?) = (ot.map (fun i => WB.getD i (0, .inr (0, [])))).map some) (hw4 : ∀ k, k < nw → k ∈ is ∨ k ∈ ot)
    (hc : vwCl[ci]? = some (C, q)) (he : WB[q0]? = some (b, .inr (ci, fs)))
    (hM : Met l y ws2 rm (pre D cI cZ cR (.ref b :: As) wc H.size) (qi D cI cZ cR (va_A wc H.size) v w') 0 0 (va_A wc H.size)) (cw : CallW R s args own C index y bytes maxL ret2 ws2 rm 0 0 n) (hn2 : As.length = n) (hl : ls.size = nL) (hst : st = As.reverse ++ .ref b :: rest) (hWr : (rest.map fun v => v.category).sum ≤ 8) (hdg : decode cc pc = .ok (.invokevirtual index, 3))
    (kk : ∀ (H1 : Heap) (locs1 : List Loc), va_P D vwCl (WA ++ WB') H1 → va_D A (WA ++ WB') → va_S A s.heap H1 locs1 → W p l e R s m args below meth c H1 locs1 cells slots Q (F0 m (pc + 3) ls (.int v :: rest))) : W p l e R s m args below meth c H locs cells slots Q (F0 m pc ls st) := by
  have hC2 := app_sel2 (A := WA) hnA hC
  have ew := app_wset2 is w' WA WB nA hnA
  have he2 : (WA ++ WB)[nA + q0]? = some (b, .inr (ci, fs)) := by subst hnA; rw [List.getElem?_append_right (Nat.le_add_right _ _), Nat.add_sub_cancel_left]; exact he
  have hw := wset_is hw0 hw1 hw2 hw3 hw4
  refine wcalliG (is.map (fun i => nA + i)) hP hD hS hA hC2 hf hn (rnVG hcs X (is.map (fun i => nA + i)) hK hP hD hC2 hn hc he2 hM cw hn2 hl hst hWr hdg) (fun H1 l1 p1 d1 s1 => ?_)
  rw [ew, hw] at p1 d1
  exact kk H1 l1 p1 d1 s1
theorem lcMl {v : Int64} {nA : Nat} (hnA : WA.length = nA) (hcs : cells ≤ R.cells ∧ slots ≤ R.slots) (X : cx p s m args meth c cc nL ret own ws) (is : List Nat) (hK : va_K D vwCl (ty3 cI cZ cR) s) (hP : va_P D vwCl (WA ++ WB) H) (hD : va_D A (WA ++ WB)) (hS : va_S A s.heap H locs) (hA : ∀ q, s.heap.size ≤ q → A q) (hC : is.map (fun i => WB[i]?) = wc.map some) (hf : w'.map Prod.fst = wc.map Prod.fst) (hn : va_nd (is.map (fun i => nA + i)) = true) (ot : List Nat) {nw : Nat} (hw0 : WB.length = nw) (hw1 : WB'.length = nw) (hw2 : is.map (fun i => WB'[i]?) = w'.map some) (hw3 : ot.map (fun i => WB'[i]?) = (ot.map (fun i => WB.getD i (0, .inr (0, [])))).map some) (hw4 : ∀ k, k < nw → k ∈ is ∨ k ∈ ot)
    (hc : vwCl[ci]? = some (C, q)) (he : WB[q0]? = some (b, .inr (ci, fs)))
    (hM : Met l y ws2 rm (pre D cI cZ cR (.ref b :: As) wc H.size) (ql D cI cZ cR (va_A wc H.size) v w') 0 0 (va_A wc H.size)) (cw : CallW R s args own C index y bytes maxL ret2 ws2 rm 0 0 n) (hn2 : As.length = n) (hl : ls.size = nL) (hst : st = As.reverse ++ .ref b :: rest) (hWr : (rest.map fun v => v.category).sum ≤ 8) (hdg : decode cc pc = .ok (.invokevirtual index, 3))
    (kk : ∀ (H1 : Heap) (locs1 : List Loc), va_P D vwCl (WA ++ WB') H1 → va_D A (WA ++ WB') → va_S A s.heap H1 locs1 → W p l e R s m args below meth c H1 locs1 cells slots Q (F0 m (pc + 3) ls (.long v :: rest))) : W p l e R s m args below meth c H locs cells slots Q (F0 m pc ls st) := by
  have hC2 := app_sel2 (A := WA) hnA hC
  have ew := app_wset2 is w' WA WB nA hnA
  have he2 : (WA ++ WB)[nA + q0]? = some (b, .inr (ci, fs)) := by subst hnA; rw [List.getElem?_append_right (Nat.le_add_right _ _), Nat.add_sub_cancel_left]; exact he
  have hw := wset_is hw0 hw1 hw2 hw3 hw4
  refine wcalllG (is.map (fun i => nA + i)) hP hD hS hA hC2 hf hn (rnVG hcs X (is.map (fun i => nA + i)) hK hP hD hC2 hn hc he2 hM cw hn2 hl hst hWr hdg) (fun H1 l1 p1 d1 s1 => ?_)
  rw [ew, hw] at p1 d1
  exact kk H1 l1 p1 d1 s1
end LCALLS
def R_law : String := "DivisionHallLaw"
def lw_P (b : Addr) (xs : List Int32) (args : Array Value) (s : State) : Prop := args = #[.ref b] ∧ s.IntsAt b xs ∧ xs.length ≤ 3072 ∧ (Jvm.Cond.and given_1 narrow_1).before args s = true
def lw_Q (_ : Array Value) (s : State) (o : Outcome) (t : State) : Prop := o = .returned (some (.int 1)) ∧ Framed s o t [] 600000 7302250
def lw_Z (below : List Frame) (a : Array Value) (s : State) : State → Prop := fun t => ∃ o, t.status = .running ∧ Ended t below o ∧ lw_Q a s o t
/-- the law's own end, with 1 on the stack, nothing written that was there before, its room as the claim has it -/
theorem lw_ret {p : Program} {l : Launch} {e : Env} {s : State} {m : MethodId} {below : List Frame} {meth : Method} {c : Code} {b : Nat} (hx : p.tables.exec = Jvm.exec) (hb : c.code = code) (hr : meth.sig.returnType = ret) (hlocks : meth.locks = false) {pc : Nat} {H : Heap} {ls : Array Slot} (hdg : decode code pc = .ok (.ireturn, 1)) : W p l e room_1 s m #[Value.ref b] below meth c H [] 600000 7302250 (lw_Z below #[Value.ref b] s) (F0 m pc ls [.int 1]) := by
  intro T hT X
  obtain ⟨fs, hret, hrun, hended, hW, hframe⟩ := X.leave (v := some (.int 1)) (hlocks := hlocks) (fun h => by rw [hr] at h; cases h)
  have hmeth' : T.vm.method? m = some meth := X.method'
  refine ⟨T.setFrames fs, ?_, .returned (some (.int 1)), hrun, hended, rfl, ⟨_, rfl⟩, hW, hframe⟩
  jvm_step X.here [X.here.top, hx, hb, hdg, hmeth', hr, ret, narrow_b1]
  (try refine ⟨rfl, ?_⟩); (try refine ⟨rfl, ?_⟩)
  first | (intro acts; rw [hret _ acts rfl rfl rfl]) | rw [hret _ _ rfl rfl rfl]
  exact Steps.refl _
/-- what holds at the law's entry: the machine, the code, the tables' words (any of lw_tbl by 'hts w (by decide +kernel)'), the script of L ints xs at the cell b, what the Statement gives of the start (any of its parts by flat_of_before) -/
def lw_At (p : Program) (s : State) (m : MethodId) (meth : Method) (c : Code) (b L : Nat) (xs : Nat → Int32) : Prop :=
  p.tables.exec = Jvm.exec ∧ c.code = code ∧ meth.sig.returnType = ret ∧ c.maxLocals = 4 ∧ s.vm.findClass R_law = some m.cls ∧ (∀ w ∈ lw_tbl, w.before #[Value.ref b] s = true) ∧ va_X b L xs s s.heap ∧ b < s.heap.size ∧ meth.locks = false ∧ (Jvm.Cond.and given_1 narrow_1).before #[Value.ref b] s = true
abbrev lA (s : State) : Nat → Prop := fun q => s.heap.size ≤ q
abbrev LW (p : Program) (l : Launch) (e : Env) (s : State) (m : MethodId) (below : List Frame) (meth : Method) (c : Code) (b : Nat) (H : Heap) (locs : List Loc) (pc : Nat) (ls : Array Slot) (st : List Value) : Prop := W p l e room_1 s m #[Value.ref b] below meth c H locs 102 79813 (lw_Z below #[Value.ref b] s) (F0 m pc ls st)
