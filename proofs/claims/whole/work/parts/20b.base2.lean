section RUNSA
variable {p : Program} {l : Launch} {e : Env} {R : Room} {s : State} {m : MethodId} {args : Array Value} {below : List Frame} {meth : Method} {c : Code} {H : Heap} {locs : List Loc} {Q : State → Prop}
variable {D : va_G} {cI cZ cR : ClassId} {A : Nat → Prop} {cc : ByteArray} {nL : Nat} {ret : Option FieldType} {own : String} {ws : List Cond} {ww wc w' : va_W}
/-- calls that take the whole world -/
theorem pre_ofA {av : List Value} (hK : va_K D vwCl (ty3 cI cZ cR) s) (hN : NN s) (hP : va_P D vwCl wc H) (hD : va_D A wc) : ∀ U : State, U.heap = H → s.WarmedH U.vm → pre D cI cZ cR av wc H.size av.toArray U := by
  intro U hU hW
  exact ⟨rfl, by rw [hU], by rw [hU]; exact hP, va_K.moved hW.alike hK, NN.warm hW hN, hD.weaken (fun _ _ _ _ => trivial)⟩
theorem free_A {A0 : Nat → Prop} {H0 : Heap} (hD : va_D A0 wc) (hS : va_S A0 H0 H locs) (hA : ∀ q, H0.size ≤ q → A0 q) : ∀ q, va_A wc H.size q → A0 q := by
  rintro q (⟨k, e, h⟩ | h)
  · exact hD.2 k _ h
  · exact hA q (Nat.le_trans hS.1 h)
theorem wcalliA {pc : Nat} {ls : Array Slot} {rest st0 : List Value} {a : Array Value} {v : Int32} (hP : va_P D vwCl wc H) (hD : va_D A wc) (hS : va_S A s.heap H locs) (hA : ∀ q, s.heap.size ≤ q → A q) (hf : w'.map Prod.fst = wc.map Prod.fst)
    (hr : va_Run p l e R s m args below meth c H locs 0 0 0 0 (F0 m pc ls st0) rest (qi D cI cZ cR (va_A wc H.size) v w' a) (va_A wc H.size))
    (kk : ∀ (H1 : Heap) (locs1 : List Loc), va_P D vwCl w' H1 → va_D A w' → va_S A s.heap H1 locs1 → W p l e R s m args below meth c H1 locs1 0 0 Q (F0 m (pc + 3) ls (.int v :: rest))) : W p l e R s m args below meth c H locs 0 0 Q (F0 m pc ls st0) := by
  have hFc := free_A hD hS hA
  refine va_calli hr hS (fun q _ h => hFc q h) hFc (fun r u t H1 locs1 ht hvm hw hB hz1 hk1 hS1 => ?_)
  obtain ⟨hP1, hK1, hD1⟩ := hB
  rw [ht] at hP1
  subst hw
  exact kk H1 locs1 hP1 (va_D_fst hf hD) hS1
theorem wcalllA {pc : Nat} {ls : Array Slot} {rest st0 : List Value} {a : Array Value} {v : Int64} (hP : va_P D vwCl wc H) (hD : va_D A wc) (hS : va_S A s.heap H locs) (hA : ∀ q, s.heap.size ≤ q → A q) (hf : w'.map Prod.fst = wc.map Prod.fst)
    (hr : va_Run p l e R s m args below meth c H locs 0 0 0 0 (F0 m pc ls st0) rest (ql D cI cZ cR (va_A wc H.size) v w' a) (va_A wc H.size))
    (kk : ∀ (H1 : Heap) (locs1 : List Loc), va_P D vwCl w' H1 → va_D A w' → va_S A s.heap H1 locs1 → W p l e R s m args below meth c H1 locs1 0 0 Q (F0 m (pc + 3) ls (.long v :: rest))) : W p l e R s m args below meth c H locs 0 0 Q (F0 m pc ls st0) := by
  have hFc := free_A hD hS hA
  refine va_calll hr hS (fun q _ h => hFc q h) hFc (fun r u t H1 locs1 ht hvm hw hB hz1 hk1 hS1 => ?_)
  obtain ⟨hP1, hK1, hD1⟩ := hB
  rw [ht] at hP1
  subst hw
  exact kk H1 locs1 hP1 (va_D_fst hf hD) hS1
theorem wcallvA {pc : Nat} {ls : Array Slot} {rest st0 : List Value} {a : Array Value} (hP : va_P D vwCl wc H) (hD : va_D A wc) (hS : va_S A s.heap H locs) (hA : ∀ q, s.heap.size ≤ q → A q) (hf : w'.map Prod.fst = wc.map Prod.fst)
    (hr : va_Run p l e R s m args below meth c H locs 0 0 0 0 (F0 m pc ls st0) rest (qv D cI cZ cR (va_A wc H.size) w' a) (va_A wc H.size))
    (kk : ∀ (H1 : Heap) (locs1 : List Loc), va_P D vwCl w' H1 → va_D A w' → va_S A s.heap H1 locs1 → W p l e R s m args below meth c H1 locs1 0 0 Q (F0 m (pc + 3) ls (rest))) : W p l e R s m args below meth c H locs 0 0 Q (F0 m pc ls st0) := by
  have hFc := free_A hD hS hA
  refine va_callv hr hS (fun q _ h => hFc q h) hFc (fun u t H1 locs1 ht hvm hw hB hz1 hk1 hS1 => ?_)
  obtain ⟨hP1, hK1, hD1⟩ := hB
  rw [ht] at hP1
  exact kk H1 locs1 hP1 (va_D_fst hf hD) hS1
theorem wcallqA {pc : Nat} {ls : Array Slot} {rest st0 : List Value} {a : Array Value} {o : Option Nat} (hP : va_P D vwCl wc H) (hD : va_D A wc) (hS : va_S A s.heap H locs) (hA : ∀ q, s.heap.size ≤ q → A q) (hf : w'.map Prod.fst = wc.map Prod.fst)
    (hr : va_Run p l e R s m args below meth c H locs 0 0 0 0 (F0 m pc ls st0) rest (qq D cI cZ cR (va_A wc H.size) o w' a) (va_A wc H.size))
    (kk : ∀ (H1 : Heap) (locs1 : List Loc), va_P D vwCl w' H1 → va_D A w' → va_S A s.heap H1 locs1 → W p l e R s m args below meth c H1 locs1 0 0 Q (F0 m (pc + 3) ls (va_rf o :: rest))) : W p l e R s m args below meth c H locs 0 0 Q (F0 m pc ls st0) := by
  have hFc := free_A hD hS hA
  refine va_callq hr hS (fun q _ h => hFc q h) hFc (fun r u t H1 locs1 ht hvm hw hB hz1 hk1 hS1 => ?_)
  obtain ⟨hP1, hK1, hD1⟩ := hB
  rw [ht] at hP1
  subst hw
  exact kk H1 locs1 hP1 (va_D_fst hf hD) hS1
variable {Qc : Array Value → State → Outcome → State → Prop} {ws2 : List Cond} {rm : Room} {y : MethodName} {bytes : ByteArray} {maxL n index : Nat} {ret2 : Option FieldType} {As rest : List Value} {C host : String} {b : Addr} {free : Addr → Prop}
theorem rnVA {ci : Nat} {q : u_T × Nat} {fs : List Value} {q0 pc : Nat} {ls : Array Slot} {st : List Value} (X : cx p s m args meth c cc nL ret own ws) (hK : va_K D vwCl (ty3 cI cZ cR) s) (hP : va_P D vwCl wc H) (hD : va_D A wc)
    (hc : vwCl[ci]? = some (C, q)) (he : wc[q0]? = some (b, .inr (ci, fs)))
    (hM : Met l y ws2 rm (pre D cI cZ cR (.ref b :: As) wc H.size) Qc 0 0 free) (cw : CallW R s args own C index y bytes maxL ret2 ws2 rm 0 0 n) (hn : As.length = n) (hl : ls.size = nL) (hst : st = As.reverse ++ .ref b :: rest) (hW : (rest.map fun v => v.category).sum ≤ 8) (hdg : decode cc pc = .ok (.invokevirtual index, 3)) :
    va_Run p l e R s m args below meth c H locs 0 0 0 0 (F0 m pc ls st) rest (Qc (Value.ref b :: As).toArray) free := by
  obtain ⟨hx, hb, hml, hr, hown, hts, hlocks, hN⟩ := X
  exact va_runV (As := As) (rest := rest) ⟨hx, hb, hml, hown, hts⟩ hM cw ⟨pre_blind, va_recv hK hP hc he, pre_ofA hK hN hP hD⟩ rfl hn hl hst (lv_room hW) hdg ⟨Nat.zero_le _, Nat.zero_le _⟩
theorem rnVNA {ci : Nat} {q : u_T × Nat} {fs : List Value} {q0 pc : Nat} {ls : Array Slot} {st : List Value} (X : cx p s m args meth c cc nL ret own ws) (hK : va_K D vwCl (ty3 cI cZ cR) s) (hP : va_P D vwCl wc H) (hD : va_D A wc)
    (hc : vwCl[ci]? = some (C, q)) (he : wc[q0]? = some (b, .inr (ci, fs)))
    (hM : Met l y ws2 rm (pre D cI cZ cR (.ref b :: As) wc H.size) Qc 0 0 free) (cw : va_CN R s args own index y host bytes maxL ret2 ws2 rm 0 0 n ∧ (Cond.instanceMethod y).before args s = true ∧ (Cond.selects C y y).before args s = true) (hn : As.length = n) (hl : ls.size = nL) (hst : st = As.reverse ++ .ref b :: rest) (hW : (rest.map fun v => v.category).sum ≤ 8) (hdg : decode cc pc = .ok (.invokevirtual index, 3)) :
    va_Run p l e R s m args below meth c H locs 0 0 0 0 (F0 m pc ls st) rest (Qc (Value.ref b :: As).toArray) free := by
  obtain ⟨hx, hb, hml, hr, hown, hts, hlocks, hN⟩ := X
  exact va_runVN (As := As) (rest := rest) ⟨hx, hb, hml, hown, hts⟩ hM cw ⟨pre_blind, va_recv hK hP hc he, pre_ofA hK hN hP hD⟩ rfl hn hl hst (lv_room hW) hdg ⟨Nat.zero_le _, Nat.zero_le _⟩
theorem rnSA {pc : Nat} {ls : Array Slot} {st : List Value} (X : cx p s m args meth c cc nL ret own ws) (hK : va_K D vwCl (ty3 cI cZ cR) s) (hP : va_P D vwCl wc H) (hD : va_D A wc)
    (hM : Met l y ws2 rm (pre D cI cZ cR As wc H.size) Qc 0 0 free) (cw : CallB R s args own index y bytes maxL ret2 ws2 rm 0 0 n ∧ (Cond.static y).before args s = true) (hn : As.length = n) (hl : ls.size = nL) (hst : st = As.reverse ++ rest) (hW : (rest.map fun v => v.category).sum ≤ 8) (hdg : decode cc pc = .ok (.invokestatic index, 3)) :
    va_Run p l e R s m args below meth c H locs 0 0 0 0 (F0 m pc ls st) rest (Qc As.toArray) free := by
  obtain ⟨hx, hb, hml, hr, hown, hts, hlocks, hN⟩ := X
  exact va_runS (As := As) (rest := rest) ⟨hx, hb, hml, hown, hts⟩ hM cw ⟨pre_blind, pre_ofA hK hN hP hD⟩ rfl hn hl hst (lv_room hW) hdg ⟨Nat.zero_le _, Nat.zero_le _⟩
theorem rnSNA {pc : Nat} {ls : Array Slot} {st : List Value} (X : cx p s m args meth c cc nL ret own ws) (hK : va_K D vwCl (ty3 cI cZ cR) s) (hP : va_P D vwCl wc H) (hD : va_D A wc)
    (hM : Met l y ws2 rm (pre D cI cZ cR As wc H.size) Qc 0 0 free) (cw : va_CN R s args own index y host bytes maxL ret2 ws2 rm 0 0 n ∧ (Cond.static y).before args s = true ∧ True) (hn : As.length = n) (hl : ls.size = nL) (hst : st = As.reverse ++ rest) (hW : (rest.map fun v => v.category).sum ≤ 8) (hdg : decode cc pc = .ok (.invokestatic index, 3)) :
    va_Run p l e R s m args below meth c H locs 0 0 0 0 (F0 m pc ls st) rest (Qc As.toArray) free := by
  obtain ⟨hx, hb, hml, hr, hown, hts, hlocks, hN⟩ := X
  exact va_runSN (As := As) (rest := rest) ⟨hx, hb, hml, hown, hts⟩ hM cw ⟨pre_blind, pre_ofA hK hN hP hD⟩ rfl hn hl hst (lv_room hW) hdg ⟨Nat.zero_le _, Nat.zero_le _⟩
end RUNSA
