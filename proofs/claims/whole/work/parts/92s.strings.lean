def wpix : List Nat := [84, 90, 92, 94, 96, 98, 100, 102, 104]
def wtxt : List String := ["or", "and", "not", "has", "of", "heads", "weight", "members", "all"]
/-- the words of the reader as they lie in the heap, and what the string methods ask besides -/
def SW (adK adV : Nat → Nat) (A : Nat → Prop) (U : State) (H : Heap) : Prop :=
  vk_S 9 wlens wbyts adK adV A U H ∧ va_Z "java/lang/String" "COMPACT_STRINGS" "Z" (.int 1) A U H ∧ va_Zq "jdk/internal/util/Preconditions" "SIOOBE_FORMATTER" "Ljava/util/function/BiFunction;" A U H ∧ ∀ i : Nat, i < 9 → vk_R RX5 (wpix.getD i 0) (wtxt.getD i "") (adK i) U
theorem SW.kept {adK adV : Nat → Nat} {A : Nat → Prop} {U : State} {H H1 : Heap} (h : SW adK adV A U H) (hq : ∀ a : Nat, a < H.size → ¬ A a → H1[a]? = H[a]?) : SW adK adV A U H1 := ⟨h.1.kept hq, h.2.1.kept hq, h.2.2.1.kept hq, h.2.2.2⟩
theorem SW.narrow {adK adV : Nat → Nat} {A B : Nat → Prop} {U : State} {H : Heap} (h : SW adK adV A U H) (hAB : ∀ q, B q → A q) : SW adK adV B U H := ⟨h.1.narrow hAB, h.2.1.narrow hAB, h.2.2.1.narrow hAB, h.2.2.2⟩
theorem SW.warm {adK adV : Nat → Nat} {A : Nat → Prop} {s U : State} {H : Heap} (hW : s.WarmedH U.vm) (h : SW adK adV A s H) : SW adK adV A U H := ⟨vk_S.moved hW.alike h.1, va_Z.moved hW.alike h.2.1, va_Zq.moved hW.alike h.2.2.1, fun i hi => vk_R.warm hW (h.2.2.2 i hi)⟩
theorem SW.same {adK adV : Nat → Nat} {A : Nat → Prop} {u U : State} {H : Heap} (hv : u.vm = U.vm) (h : SW adK adV A u H) : SW adK adV A U H := ⟨vk_S.moved (hv ▸ Vm.Alike.refl _) h.1, va_Z.moved (hv ▸ Vm.Alike.refl _) h.2.1, va_Zq.moved (hv ▸ Vm.Alike.refl _) h.2.2.1, fun i hi => vk_R.same hv.symm (h.2.2.2 i hi)⟩
abbrev preS (adK adV : Nat → Nat) (D : va_G) (cI cZ cR : ClassId) (av : List Value) (wc : va_W) (sz : Nat) : Array Value → State → Prop := va_Pc av (fun U => (U.heap.size = sz ∧ va_P D vwCl wc U.heap ∧ va_K D vwCl (ty3 cI cZ cR) U ∧ NN U ∧ va_D (fun _ => True) wc) ∧ SW adK adV (va_A wc sz) U U.heap)
abbrev CIS (l : Launch) (y : MethodName) (ws : List Cond) (rm : Room) (adK adV : Nat → Nat) (D : va_G) (cI cZ cR : ClassId) (av : List Value) (wc : va_W) (sz : Nat) (v : Int32) (w' : va_W) : Prop := Met l y ws rm (preS adK adV D cI cZ cR av wc sz) (qi D cI cZ cR (va_A wc sz) v w') 0 0 (va_A wc sz)
abbrev CVS (l : Launch) (y : MethodName) (ws : List Cond) (rm : Room) (adK adV : Nat → Nat) (D : va_G) (cI cZ cR : ClassId) (av : List Value) (wc : va_W) (sz : Nat) (w' : va_W) : Prop := Met l y ws rm (preS adK adV D cI cZ cR av wc sz) (qv D cI cZ cR (va_A wc sz) w') 0 0 (va_A wc sz)
theorem preS_blind {adK adV : Nat → Nat} {D : va_G} {cI cZ cR : ClassId} {av : List Value} {wc : va_W} {sz : Nat} : FrameBlind (preS adK adV D cI cZ cR av wc sz) := fun a U g mk q => by
  obtain ⟨q0, ⟨q1, qP, qK, qN, qD⟩, qW⟩ := q
  exact ⟨q0, ⟨q1, qP, va_K.moved (u := U) (U := U.calling g mk a) (Vm.Alike.refl U.vm) qK, NN.same rfl qN, qD⟩, SW.same (u := U) (U := U.calling g mk a) rfl qW⟩
theorem met_ofS {l : Launch} {y : MethodName} {ws ws' : List Cond} {rm : Room} {adK adV : Nat → Nat} {D : va_G} {cI cZ cR : ClassId} {av : List Value} {wc : va_W} {sz : Nat} {Qf : (Nat → Prop) → Array Value → State → Outcome → State → Prop} {cc : ByteArray} {maxL : Nat} {ret : Option FieldType} (own : String)
    (hy : plainName y.cls = true) (hown : y.cls = own) (hw : ws = Cond.code y cc maxL ret :: ws') (hlen : (lg_sl av).length ≤ maxL)
    (walk : ∀ (p : Program) (e : Env) (s : State) (m : MethodId) (below : List Frame) (meth : Method) (c : Code) (A : Nat → Prop), cx p s m av.toArray meth c cc maxL ret own ws → va_K D vwCl (ty3 cI cZ cR) s → (∀ q, s.heap.size ≤ q → A q) → SW adK adV A s s.heap → va_P D vwCl wc s.heap → va_D A wc → va_S A s.heap s.heap [] → ∀ ls : Array Slot, lv_has ls maxL (lv_args 0 av) → W p l e (headSpec ws rm).room s m av.toArray below meth c s.heap [] 0 0 (MQ below (Qf A) av.toArray s 0 0 A) (F0 m 0 ls [])) :
    Met l y ws rm (preS adK adV D cI cZ cR av wc sz) (Qf (va_A wc sz)) 0 0 (va_A wc sz) := by
  refine Met.ofW (cc := cc) (maxL := maxL) (ret := ret) hy hw ?_
  intro p e s m args below meth c s₁ B hml hv
  obtain ⟨rfl, ⟨hsz, hP, hK, hN, hD0⟩, hSW⟩ := hv
  have hts := atoms_spec (ws := ws) B.pre
  have hown' : s.vm.findClass own = some m.cls := hown ▸ findClass_of_methodNamed B.named
  subst hsz
  have hD := hD0.self (sz := s.heap.size)
  rw [lg_entry_eq]
  exact walk p e s m below meth c (va_A wc s.heap.size) ⟨B.exec, B.bytes, hml, B.returns, hown', hts, B.notSynchronized, hN⟩ hK (fun q h => Or.inr h) hSW hP hD va_S.rf _ (lv_entry av hlen)
section RUNSS
variable {p : Program} {l : Launch} {e : Env} {R : Room} {s : State} {m : MethodId} {args : Array Value} {below : List Frame} {meth : Method} {c : Code} {H : Heap} {locs : List Loc} {cells slots : Nat} {Q : State → Prop}
variable {D : va_G} {cI cZ cR : ClassId} {A : Nat → Prop} {adK adV : Nat → Nat} {cc : ByteArray} {nL : Nat} {ret : Option FieldType} {own : String} {ws : List Cond} {ww wc w' : va_W}
theorem pre_ofS {av : List Value} (hK : va_K D vwCl (ty3 cI cZ cR) s) (hN : NN s) (hP : va_P D vwCl ww H) (hD : va_D A ww) (hW : SW adK adV A s s.heap) (hS : va_S A s.heap H locs) (hA : ∀ q, s.heap.size ≤ q → A q) (is : List Nat) (hC : is.map (fun i => ww[i]?) = wc.map some) (hn : va_nd is = true) : ∀ U : State, U.heap = H → s.WarmedH U.vm → preS adK adV D cI cZ cR av wc H.size av.toArray U := by
  intro U hU hWm
  obtain ⟨a0, a1⟩ := pre_of (av := av) hK hN hP hD is hC hn U hU hWm
  refine ⟨a0, a1, ?_⟩
  rw [hU]
  exact SW.warm hWm ((hW.kept hS.2.1).narrow (va_free (wc := wc) hD hS hA is hC))
theorem pre_ofSA {av : List Value} (hK : va_K D vwCl (ty3 cI cZ cR) s) (hN : NN s) (hP : va_P D vwCl wc H) (hD : va_D A wc) (hW : SW adK adV A s s.heap) (hS : va_S A s.heap H locs) (hA : ∀ q, s.heap.size ≤ q → A q) : ∀ U : State, U.heap = H → s.WarmedH U.vm → preS adK adV D cI cZ cR av wc H.size av.toArray U := by
  intro U hU hWm
  obtain ⟨a0, a1⟩ := pre_ofA (av := av) hK hN hP hD U hU hWm
  refine ⟨a0, a1, ?_⟩
  rw [hU]
  exact SW.warm hWm ((hW.kept hS.2.1).narrow (free_A hD hS hA))
variable {Qc : Array Value → State → Outcome → State → Prop} {ws2 : List Cond} {rm : Room} {y : MethodName} {bytes : ByteArray} {maxL n index : Nat} {ret2 : Option FieldType} {As rest : List Value} {C host : String} {b : Addr} {free : Addr → Prop}
theorem rnVS {ci : Nat} {q : u_T × Nat} {fs : List Value} {q0 pc : Nat} {ls : Array Slot} {st : List Value} (X : cx p s m args meth c cc nL ret own ws) (is : List Nat) (hK : va_K D vwCl (ty3 cI cZ cR) s) (hP : va_P D vwCl ww H) (hD : va_D A ww) (hC : is.map (fun i => ww[i]?) = wc.map some) (hnd : va_nd is = true) (hW : SW adK adV A s s.heap) (hS : va_S A s.heap H locs) (hA : ∀ q, s.heap.size ≤ q → A q)
    (hc : vwCl[ci]? = some (C, q)) (he : ww[q0]? = some (b, .inr (ci, fs)))
    (hM : Met l y ws2 rm (preS adK adV D cI cZ cR (.ref b :: As) wc H.size) Qc 0 0 free) (cw : CallW R s args own C index y bytes maxL ret2 ws2 rm 0 0 n) (hn : As.length = n) (hl : ls.size = nL) (hst : st = As.reverse ++ .ref b :: rest) (hWr : (rest.map fun v => v.category).sum ≤ 8) (hdg : decode cc pc = .ok (.invokevirtual index, 3)) :
    va_Run p l e R s m args below meth c H locs 0 0 0 0 (F0 m pc ls st) rest (Qc (Value.ref b :: As).toArray) free := by
  obtain ⟨hx, hb, hml, hr, hown, hts, hlocks, hN⟩ := X
  exact va_runV (As := As) (rest := rest) ⟨hx, hb, hml, hown, hts⟩ hM cw ⟨preS_blind, va_recv hK hP hc he, pre_ofS hK hN hP hD hW hS hA is hC hnd⟩ rfl hn hl hst (lv_room hWr) hdg ⟨Nat.zero_le _, Nat.zero_le _⟩
theorem rnVSA {ci : Nat} {q : u_T × Nat} {fs : List Value} {q0 pc : Nat} {ls : Array Slot} {st : List Value} (X : cx p s m args meth c cc nL ret own ws) (hK : va_K D vwCl (ty3 cI cZ cR) s) (hP : va_P D vwCl wc H) (hD : va_D A wc) (hW : SW adK adV A s s.heap) (hS : va_S A s.heap H locs) (hA : ∀ q, s.heap.size ≤ q → A q)
    (hc : vwCl[ci]? = some (C, q)) (he : wc[q0]? = some (b, .inr (ci, fs)))
    (hM : Met l y ws2 rm (preS adK adV D cI cZ cR (.ref b :: As) wc H.size) Qc 0 0 free) (cw : CallW R s args own C index y bytes maxL ret2 ws2 rm 0 0 n) (hn : As.length = n) (hl : ls.size = nL) (hst : st = As.reverse ++ .ref b :: rest) (hWr : (rest.map fun v => v.category).sum ≤ 8) (hdg : decode cc pc = .ok (.invokevirtual index, 3)) :
    va_Run p l e R s m args below meth c H locs 0 0 0 0 (F0 m pc ls st) rest (Qc (Value.ref b :: As).toArray) free := by
  obtain ⟨hx, hb, hml, hr, hown, hts, hlocks, hN⟩ := X
  exact va_runV (As := As) (rest := rest) ⟨hx, hb, hml, hown, hts⟩ hM cw ⟨preS_blind, va_recv hK hP hc he, pre_ofSA hK hN hP hD hW hS hA⟩ rfl hn hl hst (lv_room hWr) hdg ⟨Nat.zero_le _, Nat.zero_le _⟩
/-- a call on one of the words -/
theorem rnK {i pc : Nat} {ls : Array Slot} {st : List Value} (hi : i < 9) (X : cx p s m args meth c cc nL ret own ws) (hK : va_K D vwCl (ty3 cI cZ cR) s) (hP : va_P D vwCl ww H) (hD : va_D A ww) (hW : SW adK adV A s s.heap) (hS : va_S A s.heap H locs) (hA : ∀ q, s.heap.size ≤ q → A q)
    (hM : Met l y ws2 rm (preS adK adV D cI cZ cR (.ref (adK i) :: As) [] H.size) Qc 0 0 free) (cw : CallW R s args own "java/lang/String" index y bytes maxL ret2 ws2 rm 0 0 n) (hn : As.length = n) (hl : ls.size = nL) (hst : st = As.reverse ++ .ref (adK i) :: rest) (hWr : (rest.map fun v => v.category).sum ≤ 8) (hdg : decode cc pc = .ok (.invokevirtual index, 3)) :
    va_Run p l e R s m args below meth c H locs 0 0 0 0 (F0 m pc ls st) rest (Qc (Value.ref (adK i) :: As).toArray) free := by
  obtain ⟨hx, hb, hml, hr, hown, hts, hlocks, hN⟩ := X
  exact va_runV (As := As) (rest := rest) ⟨hx, hb, hml, hown, hts⟩ hM cw ⟨preS_blind, vk_recv hW.1 hi hS, pre_ofS hK hN hP hD hW hS hA [] rfl rfl⟩ rfl hn hl hst (lv_room hWr) hdg ⟨Nat.zero_le _, Nat.zero_le _⟩
theorem rnSK {pc : Nat} {ls : Array Slot} {st : List Value} (X : cx p s m args meth c cc nL ret own ws) (hK : va_K D vwCl (ty3 cI cZ cR) s) (hP : va_P D vwCl ww H) (hD : va_D A ww) (hW : SW adK adV A s s.heap) (hS : va_S A s.heap H locs) (hA : ∀ q, s.heap.size ≤ q → A q)
    (hM : Met l y ws2 rm (preS adK adV D cI cZ cR As [] H.size) Qc 0 0 free) (cw : CallB R s args own index y bytes maxL ret2 ws2 rm 0 0 n ∧ (Cond.static y).before args s = true) (hn : As.length = n) (hl : ls.size = nL) (hst : st = As.reverse ++ rest) (hWr : (rest.map fun v => v.category).sum ≤ 8) (hdg : decode cc pc = .ok (.invokestatic index, 3)) :
    va_Run p l e R s m args below meth c H locs 0 0 0 0 (F0 m pc ls st) rest (Qc As.toArray) free := by
  obtain ⟨hx, hb, hml, hr, hown, hts, hlocks, hN⟩ := X
  exact va_runS (As := As) (rest := rest) ⟨hx, hb, hml, hown, hts⟩ hM cw ⟨preS_blind, pre_ofS hK hN hP hD hW hS hA [] rfl rfl⟩ rfl hn hl hst (lv_room hWr) hdg ⟨Nat.zero_le _, Nat.zero_le _⟩
theorem retn {ty : FieldType} {pc : Nat} {ls : Array Slot} {v : Int32} (hz : narrow ty (.int v) = .int v) (X : cx p s m args meth c cc nL (some ty) own ws) (hK : va_K D vwCl (ty3 cI cZ cR) s) (hP : va_P D vwCl ww H) (hD : va_D A ww) (hS : va_S A s.heap H locs) (hdg : decode cc pc = .ok (.ireturn, 1)) : W p l e R s m args below meth c H locs 0 0 (MQ below (qi D cI cZ cR A v ww) args s 0 0 A) (F0 m pc ls [.int v]) := by
  obtain ⟨hx, hb, hml, hr, hown, hts, hlocks, hN⟩ := X
  exact W.zret (v := v) hx hb hr hz (fun t ht hW => ⟨⟨v, (), rfl, rfl, by rw [ht]; exact hP, va_K.moved hW.alike hK, hD⟩, hS.F ht⟩) hS.2.2 hdg
end RUNSS
theorem wch_ok : ∀ i : Fin 9, ∀ k : Fin 7, ((wch i.1 k.1 &&& 255).toUInt32 % 65536).toInt32 = wch i.1 k.1 ∧ narrow .char (.int (wch i.1 k.1)) = .int (wch i.1 k.1) := by decide +kernel
theorem wlen7 : ∀ i : Nat, wlen i ≤ 7 := by
  intro i
  match i with
  | 0 | 1 | 2 | 3 | 4 | 5 | 6 | 7 | 8 => decide
  | _ + 9 => exact Nat.zero_le _
set_option maxRecDepth 100000 in
theorem c_J0_coder (l : Launch) (adK adV : Nat → Nat) (D : va_G) (cI cZ cR : ClassId) {i sz : Nat} (hi : i < 9) : CIS l yJ0_coder_7d493 wsJ0_coder_7d493 ({ frames := 0, cells := 0, slots := 0, locals := 0 } : Room) adK adV D cI cZ cR [.ref (adK i)] [] sz 0 [] := by
  refine met_ofS (Qf := fun A => qi D cI cZ cR A 0 []) RJ0 (by decide +kernel) rfl rfl (Nat.le_of_ble_eq_true rfl) ?_
  intro p e s m below meth c A X hK hA hW hP hD hS ls hl
  have hl : lv_has ls 1 [(0, .ref (adK i))] := hl
  obtain ⟨hx, hb, hml, hr, hown, hts, hlocks, hN⟩ := id X
  refine va_gets hx hb hW.2.1 hS hown (hts (.fieldLink RJ0 38 "java/lang/String" "COMPACT_STRINGS" "Z") (by decide +kernel)) (fun _ h9 => h9) dJ0_coder_7d493_0 ?_
  refine lv_if_eq (tgt := 13) hx hb dJ0_coder_7d493_3 (by decide) (fun c1 => absurd c1 (by decide)) (fun c1 => ?_)
  refine lv_aload_n hx hb dJ0_coder_7d493_6 rfl (lv_at hl 0 rfl) ?_
  refine vk_getf hx hb (hW.1.1 i hi).2.1 hS hown (hts (.fieldLink RJ0 15 "java/lang/String" "coder" "B") (by decide +kernel)) (fun _ h9 => h9) dJ0_coder_7d493_7 ?_
  refine lv_goto (tgt := 14) hx hb dJ0_coder_7d493_10 (by decide) ?_
  exact retn (by decide) X hK hP hD hS dJ0_coder_7d493_14
set_option maxRecDepth 100000 in
theorem c_J0_isLatin1 (l : Launch) (adK adV : Nat → Nat) (D : va_G) (cI cZ cR : ClassId) {i sz : Nat} (hi : i < 9) : CIS l yJ0_isLatin1_aae02 wsJ0_isLatin1_aae02 ({ frames := 0, cells := 0, slots := 0, locals := 0 } : Room) adK adV D cI cZ cR [.ref (adK i)] [] sz 1 [] := by
  refine met_ofS (Qf := fun A => qi D cI cZ cR A 1 []) RJ0 (by decide +kernel) rfl rfl (Nat.le_of_ble_eq_true rfl) ?_
  intro p e s m below meth c A X hK hA hW hP hD hS ls hl
  have hl : lv_has ls 1 [(0, .ref (adK i))] := hl
  obtain ⟨hx, hb, hml, hr, hown, hts, hlocks, hN⟩ := id X
  refine va_gets hx hb hW.2.1 hS hown (hts (.fieldLink RJ0 38 "java/lang/String" "COMPACT_STRINGS" "Z") (by decide +kernel)) (fun _ h9 => h9) dJ0_isLatin1_aae02_0 ?_
  refine lv_if_eq (tgt := 17) hx hb dJ0_isLatin1_aae02_3 (by decide) (fun c1 => absurd c1 (by decide)) (fun c1 => ?_)
  refine lv_aload_n hx hb dJ0_isLatin1_aae02_6 rfl (lv_at hl 0 rfl) ?_
  refine vk_getf hx hb (hW.1.1 i hi).2.1 hS hown (hts (.fieldLink RJ0 15 "java/lang/String" "coder" "B") (by decide +kernel)) (fun _ h9 => h9) dJ0_isLatin1_aae02_7 ?_
  refine lv_if_ne (tgt := 17) hx hb dJ0_isLatin1_aae02_10 (by decide) (fun c1 => absurd rfl c1) (fun c1 => ?_)
  refine lv_iconst (v := (1 : Int32)) hx hb dJ0_isLatin1_aae02_13 (by decide) ?_
  refine lv_goto (tgt := 18) hx hb dJ0_isLatin1_aae02_14 (by decide) ?_
  exact retn (by decide) X hK hP hD hS dJ0_isLatin1_aae02_18
set_option maxRecDepth 100000 in
theorem c_J0_length (l : Launch) (adK adV : Nat → Nat) (D : va_G) (cI cZ cR : ClassId) {i sz : Nat} (hi : i < 9) : CIS l yJ0_length_8abf5 wsJ0_length_8abf5 ({ frames := 1, cells := 0, slots := 0, locals := 20 } : Room) adK adV D cI cZ cR [.ref (adK i)] [] sz (Int32.ofNat (wlen i)) [] := by
  refine met_ofS (Qf := fun A => qi D cI cZ cR A (Int32.ofNat (wlen i)) []) RJ0 (by decide +kernel) rfl rfl (Nat.le_of_ble_eq_true rfl) ?_
  intro p e s m below meth c A X hK hA hW hP hD hS ls hl
  have hl : lv_has ls 1 [(0, .ref (adK i))] := hl
  obtain ⟨hx, hb, hml, hr, hown, hts, hlocks, hN⟩ := id X
  refine lv_aload_n hx hb dJ0_length_8abf5_0 rfl (lv_at hl 0 rfl) ?_
  refine vk_getf hx hb (hW.1.1 i hi).2.2.1 hS hown (hts (.fieldLink RJ0 9 "java/lang/String" "value" "[B") (by decide +kernel)) (fun _ h9 => h9) dJ0_length_8abf5_1 ?_
  refine va_tlen (v := Int32.ofNat (wlen i)) hx hb (hW.1.1 i hi).2.2.2 hS rfl dJ0_length_8abf5_4 ?_
  refine lv_aload_n hx hb dJ0_length_8abf5_5 rfl (lv_at hl 0 rfl) ?_
  refine wcalli (D := D) (cI := cI) (cZ := cZ) (cR := cR) (wc := []) (w' := []) [] hP hD hS hA rfl rfl rfl (rnK (As := []) hi X hK hP hD hW hS hA (c_J0_coder l adK adV D cI cZ cR hi) (cwV 0 hts gJ0_length_8abf5_J0_coder_7d493 rfl rfl rfl (by decide +kernel) ⟨Nat.le_of_ble_eq_true rfl, Nat.le_of_ble_eq_true rfl⟩) rfl hl.1 rfl (Nat.le_of_ble_eq_true rfl) dJ0_length_8abf5_6) (fun H locs hP hD hS => ?_)
  refine lv_ishr hx hb dJ0_length_8abf5_9 ?_
  have e : Int32.ofNat (wlen i) >>> ((0 : Int32) &&& 31) = Int32.ofNat (wlen i) := by
    have : ∀ i : Fin 9, Int32.ofNat (wlen i.1) >>> ((0 : Int32) &&& 31) = Int32.ofNat (wlen i.1) := by decide +kernel
    exact this ⟨i, hi⟩
  rw [e]
  exact reti X hK hP hD hS dJ0_length_8abf5_10
set_option maxRecDepth 100000 in
theorem c_J3_checkIndex (l : Launch) (adK adV : Nat → Nat) (D : va_G) (cI cZ cR : ClassId) {a b : Int32} {o : Option Nat} {sz : Nat} (h0 : ¬ a < 0) (h1 : a < b) : CIS l yJ3_checkIndex_8e157 wsJ3_checkIndex_8e157 ({ frames := 0, cells := 0, slots := 0, locals := 0 } : Room) adK adV D cI cZ cR [.int a, .int b, va_rf o] [] sz a [] := by
  cases o with
  | none =>
    refine met_ofS (Qf := fun A => qi D cI cZ cR A a []) RJ3 (by decide +kernel) rfl rfl (Nat.le_of_ble_eq_true rfl) ?_
    intro p e s m below meth c A X hK hA hW hP hD hS ls hl
    have hl : lv_has ls 3 [(0, .int a), (1, .int b), (2, .null)] := hl
    obtain ⟨hx, hb, hml, hr, hown, hts, hlocks, hN⟩ := id X
    refine lv_iload_n hx hb dJ3_checkIndex_8e157_0 rfl (lv_at hl 0 rfl) ?_
    refine lv_if_lt (tgt := 9) hx hb dJ3_checkIndex_8e157_1 (by decide) (fun c1 => absurd c1 h0) (fun c1 => ?_)
    refine lv_iload_n hx hb dJ3_checkIndex_8e157_4 rfl (lv_at hl 0 rfl) ?_
    refine lv_iload_n hx hb dJ3_checkIndex_8e157_5 rfl (lv_at hl 1 rfl) ?_
    refine lv_icmp_lt (tgt := 16) hx hb dJ3_checkIndex_8e157_6 (by decide) (fun c1 => ?_) (fun c1 => absurd h1 c1)
    refine lv_iload_n hx hb dJ3_checkIndex_8e157_16 rfl (lv_at hl 0 rfl) ?_
    exact reti X hK hP hD hS dJ3_checkIndex_8e157_17
  | some q =>
    refine met_ofS (Qf := fun A => qi D cI cZ cR A a []) RJ3 (by decide +kernel) rfl rfl (Nat.le_of_ble_eq_true rfl) ?_
    intro p e s m below meth c A X hK hA hW hP hD hS ls hl
    have hl : lv_has ls 3 [(0, .int a), (1, .int b), (2, .ref q)] := hl
    obtain ⟨hx, hb, hml, hr, hown, hts, hlocks, hN⟩ := id X
    refine lv_iload_n hx hb dJ3_checkIndex_8e157_0 rfl (lv_at hl 0 rfl) ?_
    refine lv_if_lt (tgt := 9) hx hb dJ3_checkIndex_8e157_1 (by decide) (fun c1 => absurd c1 h0) (fun c1 => ?_)
    refine lv_iload_n hx hb dJ3_checkIndex_8e157_4 rfl (lv_at hl 0 rfl) ?_
    refine lv_iload_n hx hb dJ3_checkIndex_8e157_5 rfl (lv_at hl 1 rfl) ?_
    refine lv_icmp_lt (tgt := 16) hx hb dJ3_checkIndex_8e157_6 (by decide) (fun c1 => ?_) (fun c1 => absurd h1 c1)
    refine lv_iload_n hx hb dJ3_checkIndex_8e157_16 rfl (lv_at hl 0 rfl) ?_
    exact reti X hK hP hD hS dJ3_checkIndex_8e157_17
set_option maxRecDepth 100000 in
theorem c_J0_checkIndex (l : Launch) (adK adV : Nat → Nat) (D : va_G) (cI cZ cR : ClassId) {a b : Int32} {sz : Nat} (h0 : ¬ a < 0) (h1 : a < b) : CVS l yJ0_checkIndex_df160 wsJ0_checkIndex_df160 ({ frames := 1, cells := 0, slots := 0, locals := 22 } : Room) adK adV D cI cZ cR [.int a, .int b] [] sz [] := by
  refine met_ofS (Qf := fun A => qv D cI cZ cR A []) RJ0 (by decide +kernel) rfl rfl (Nat.le_of_ble_eq_true rfl) ?_
  intro p e s m below meth c A X hK hA hW hP hD hS ls hl
  have hl : lv_has ls 2 [(0, .int a), (1, .int b)] := hl
  obtain ⟨hx, hb, hml, hr, hown, hts, hlocks, hN⟩ := id X
  refine lv_iload_n hx hb dJ0_checkIndex_df160_0 rfl (lv_at hl 0 rfl) ?_
  refine lv_iload_n hx hb dJ0_checkIndex_df160_1 rfl (lv_at hl 1 rfl) ?_
  have hz : ∃ o : Option Nat, va_Z "jdk/internal/util/Preconditions" "SIOOBE_FORMATTER" "Ljava/util/function/BiFunction;" (va_rf o) A s s.heap := by
    rcases hW.2.2.1 with h | ⟨t, h⟩
    · exact ⟨none, h⟩
    · exact ⟨some t, h⟩
  obtain ⟨o, hz⟩ := hz
  refine va_gets hx hb hz hS hown (hts (.fieldLink RJ0 1053 "jdk/internal/util/Preconditions" "SIOOBE_FORMATTER" "Ljava/util/function/BiFunction;") (by decide +kernel)) (fun _ h9 => h9) dJ0_checkIndex_df160_2 ?_
  refine wcalli (D := D) (cI := cI) (cZ := cZ) (cR := cR) (wc := []) (w' := []) [] hP hD hS hA rfl rfl rfl (rnSK (As := [.int a, .int b, va_rf o]) X hK hP hD hW hS hA (c_J3_checkIndex l adK adV D cI cZ cR h0 h1) (va_cwS 3 hts gJ0_checkIndex_df160_J3_checkIndex_8e157 rfl rfl rfl (by decide +kernel) ⟨Nat.le_of_ble_eq_true rfl, Nat.le_of_ble_eq_true rfl⟩) rfl hl.1 rfl (Nat.le_of_ble_eq_true rfl) dJ0_checkIndex_df160_5) (fun H locs hP hD hS => ?_)
  refine lv_pop hx hb dJ0_checkIndex_df160_8 rfl ?_
  exact retv X hK hP hD hS dJ0_checkIndex_df160_9
set_option maxRecDepth 100000 in
theorem c_J1_charAt (l : Launch) (adK adV : Nat → Nat) (D : va_G) (cI cZ cR : ClassId) {i k sz : Nat} (hi : i < 9) (hk : k < wlen i) : CIS l yJ1_charAt_3b067 wsJ1_charAt_3b067 ({ frames := 2, cells := 0, slots := 0, locals := 43 } : Room) adK adV D cI cZ cR [.ref (adV i), .int (nI k)] [] sz (wch i k) [] := by
  have h7 := wlen7 i
  refine met_ofS (Qf := fun A => qi D cI cZ cR A (wch i k) []) RJ1 (by decide +kernel) rfl rfl (Nat.le_of_ble_eq_true rfl) ?_
  intro p e s m below meth c A X hK hA hW hP hD hS ls hl
  have hl : lv_has ls 2 [(0, .ref (adV i)), (1, .int (nI k))] := hl
  obtain ⟨hx, hb, hml, hr, hown, hts, hlocks, hN⟩ := id X
  refine lv_iload_n hx hb dJ1_charAt_3b067_0 rfl (lv_at hl 1 rfl) ?_
  refine lv_aload_n hx hb dJ1_charAt_3b067_1 rfl (lv_at hl 0 rfl) ?_
  refine va_tlen (v := nI (wlen i)) hx hb (hW.1.1 i hi).2.2.2 hS rfl dJ1_charAt_3b067_2 ?_
  refine wcallv (D := D) (cI := cI) (cZ := cZ) (cR := cR) (wc := []) (w' := []) [] hP hD hS hA rfl rfl rfl (rnSK (As := [.int (nI k), .int (nI (wlen i))]) X hK hP hD hW hS hA (c_J0_checkIndex l adK adV D cI cZ cR (nI_pos (by omega)) (nI_lt hk (by omega))) (va_cwS 2 hts gJ1_charAt_3b067_J0_checkIndex_df160 rfl rfl rfl (by decide +kernel) ⟨Nat.le_of_ble_eq_true rfl, Nat.le_of_ble_eq_true rfl⟩) rfl hl.1 rfl (Nat.le_of_ble_eq_true rfl) dJ1_charAt_3b067_3) (fun H locs hP hD hS => ?_)
  refine lv_aload_n hx hb dJ1_charAt_3b067_6 rfl (lv_at hl 0 rfl) ?_
  refine lv_iload_n hx hb dJ1_charAt_3b067_7 rfl (lv_at hl 1 rfl) ?_
  refine va_tb (v := .int (wch i k)) hx hb (hW.1.1 i hi).2.2.2 hS (vp_in_nI hk (Nat.lt_of_le_of_lt h7 (by decide))) (by rw [nI_clamp (by omega)]; rfl) dJ1_charAt_3b067_8 ?_
  refine lv_sipush (v := (255 : Int32)) hx hb dJ1_charAt_3b067_9 (by decide) ?_
  refine lv_iand hx hb dJ1_charAt_3b067_12 ?_
  refine lv_i2c (v := wch i k) hx hb dJ1_charAt_3b067_13 (wch_ok ⟨i, hi⟩ ⟨k, by omega⟩).1 ?_
  exact retn (wch_ok ⟨i, hi⟩ ⟨k, by omega⟩).2 X hK hP hD hS dJ1_charAt_3b067_14
set_option maxRecDepth 100000 in
theorem c_J0_charAt (l : Launch) (adK adV : Nat → Nat) (D : va_G) (cI cZ cR : ClassId) {i k sz : Nat} (hi : i < 9) (hk : k < wlen i) : CIS l yJ0_charAt_5068e wsJ0_charAt_5068e ({ frames := 3, cells := 0, slots := 0, locals := 64 } : Room) adK adV D cI cZ cR [.ref (adK i), .int (nI k)] [] sz (wch i k) [] := by
  have h7 := wlen7 i
  refine met_ofS (Qf := fun A => qi D cI cZ cR A (wch i k) []) RJ0 (by decide +kernel) rfl rfl (Nat.le_of_ble_eq_true rfl) ?_
  intro p e s m below meth c A X hK hA hW hP hD hS ls hl
  have hl : lv_has ls 2 [(0, .ref (adK i)), (1, .int (nI k))] := hl
  obtain ⟨hx, hb, hml, hr, hown, hts, hlocks, hN⟩ := id X
  refine lv_aload_n hx hb dJ0_charAt_5068e_0 rfl (lv_at hl 0 rfl) ?_
  refine wcalli (D := D) (cI := cI) (cZ := cZ) (cR := cR) (wc := []) (w' := []) [] hP hD hS hA rfl rfl rfl (rnK (As := []) hi X hK hP hD hW hS hA (c_J0_isLatin1 l adK adV D cI cZ cR hi) (cwV 0 hts gJ0_charAt_5068e_J0_isLatin1_aae02 rfl rfl rfl (by decide +kernel) ⟨Nat.le_of_ble_eq_true rfl, Nat.le_of_ble_eq_true rfl⟩) rfl hl.1 rfl (Nat.le_of_ble_eq_true rfl) dJ0_charAt_5068e_1) (fun H locs hP hD hS => ?_)
  refine lv_if_eq (tgt := 16) hx hb dJ0_charAt_5068e_4 (by decide) (fun c1 => absurd c1 (by decide)) (fun c1 => ?_)
  refine lv_aload_n hx hb dJ0_charAt_5068e_7 rfl (lv_at hl 0 rfl) ?_
  refine vk_getf hx hb (hW.1.1 i hi).2.2.1 hS hown (hts (.fieldLink RJ0 9 "java/lang/String" "value" "[B") (by decide +kernel)) (fun _ h9 => h9) dJ0_charAt_5068e_8 ?_
  refine lv_iload_n hx hb dJ0_charAt_5068e_11 rfl (lv_at hl 1 rfl) ?_
  refine wcalli (D := D) (cI := cI) (cZ := cZ) (cR := cR) (wc := []) (w' := []) [] hP hD hS hA rfl rfl rfl (rnSK (As := [.ref (adV i), .int (nI k)]) X hK hP hD hW hS hA (c_J1_charAt l adK adV D cI cZ cR hi hk) (va_cwS 2 hts gJ0_charAt_5068e_J1_charAt_3b067 rfl rfl rfl (by decide +kernel) ⟨Nat.le_of_ble_eq_true rfl, Nat.le_of_ble_eq_true rfl⟩) rfl hl.1 rfl (Nat.le_of_ble_eq_true rfl) dJ0_charAt_5068e_12) (fun H locs hP hD hS => ?_)
  exact retn (wch_ok ⟨i, hi⟩ ⟨k, by omega⟩).2 X hK hP hD hS dJ0_charAt_5068e_15
abbrev wd_X5_isWord (cI cZ cR : ClassId) (a_t a_t_text a_t_code a_t_waiting : Nat) (t_length t_codes t_waits t_fault t_faultPlace t_at t_place t_sign t_number t_state t_name t_compared t_open t_parentheses : Int32) (t_text_r : Nat → Int32) : va_W := [(a_t, oB 5 [.ref a_t_text, .ref a_t_code, .ref a_t_waiting, .int t_length, .int t_codes, .int t_waits, .int t_fault, .int t_faultPlace, .int t_at, .int t_place, .int t_sign, .int t_number, .int t_state, .int t_name, .int t_compared, .int t_open, .int t_parentheses]), (a_t_text, aI cI 400 t_text_r)]
set_option maxRecDepth 100000 in
theorem in_X5_isWord_X5 : ∀ w ∈ wsX50, w ∈ wsX5_isWord := by decide +kernel
set_option maxHeartbeats 4000000 in
set_option maxRecDepth 100000 in
theorem w_X5_isWord_30 {p : Program} {l : Launch} {e : Env} {s : State} {m : MethodId} {args : Array Value} {below : List Frame} {meth : Method} {c : Code} {D : va_G} {cI cZ cR : ClassId} {A : Nat → Prop} {adK adV : Nat → Nat} {a_t a_t_text a_t_code a_t_waiting : Nat} {t_length t_codes t_waits t_fault t_faultPlace t_at t_place t_sign t_number t_state t_name t_compared t_open t_parentheses : Int32} {t_text_r : Nat → Int32} {w : Nat} {out : Int32} (hi : w < 9) (X : cx p s m args meth c cX5_isWord 3 (some .boolean) RX5 wsX5_isWord) (hK : va_K D vwCl (ty3 cI cZ cR) s) (hA : ∀ q, s.heap.size ≤ q → A q) (hW : SW adK adV A s s.heap) : ∀ (n k : Nat), k ≤ wlen w → F_X5_isWord_30 w t_place t_text_r n (nI k) = some out → ∀ (H : Heap) (locs : List Loc), va_P D vwCl (wd_X5_isWord cI cZ cR a_t a_t_text a_t_code a_t_waiting t_length t_codes t_waits t_fault t_faultPlace t_at t_place t_sign t_number t_state t_name t_compared t_open t_parentheses t_text_r) H → va_D A (wd_X5_isWord cI cZ cR a_t a_t_text a_t_code a_t_waiting t_length t_codes t_waits t_fault t_faultPlace t_at t_place t_sign t_number t_state t_name t_compared t_open t_parentheses t_text_r) → va_S A s.heap H locs → ∀ (ls : Array Slot), lv_has ls 3 [(2, .int (nI k)), (0, .ref a_t), (1, .ref (adK w))] → W p l e (headSpec wsX5_isWord ({ frames := 4, cells := 0, slots := 0, locals := 85 } : Room)).room s m args below meth c H locs 0 0 (MQ below (qi D cI cZ cR A out (wd_X5_isWord cI cZ cR a_t a_t_text a_t_code a_t_waiting t_length t_codes t_waits t_fault t_faultPlace t_at t_place t_sign t_number t_state t_name t_compared t_open t_parentheses t_text_r)) args s 0 0 A) (F0 m 30 ls []) := by
  have h7 := wlen7 w
  obtain ⟨hx, hb, hml, hr, hown, hts, hlocks, hN⟩ := id X
  intro n
  induction n with
  | zero => intro k hk hf; exact absurd hf (by unfold F_X5_isWord_30; exact fun h => by cases h)
  | succ n ih =>
    intro k hk hf H locs hP hD hS ls hl
    unfold F_X5_isWord_30 at hf
    refine lv_iload_n hx hb dX5_isWord_30 rfl (lv_at hl 0 rfl) ?_
    refine lv_aload_n hx hb dX5_isWord_31 rfl (lv_at hl 2 rfl) ?_
    refine wcalli (D := D) (cI := cI) (cZ := cZ) (cR := cR) (wc := []) (w' := []) [] hP hD hS hA rfl rfl rfl (rnK (As := []) hi X hK hP hD hW hS hA (c_J0_length l adK adV D cI cZ cR hi) (cwV 0 hts gX5_isWord_J0_length_8abf5 rfl rfl rfl (by decide +kernel) ⟨Nat.le_of_ble_eq_true rfl, Nat.le_of_ble_eq_true rfl⟩) rfl hl.1 rfl (Nat.le_of_ble_eq_true rfl) dX5_isWord_32) (fun H locs hP hD hS => ?_)
    refine lv_icmp_ge (tgt := 65) hx hb dX5_isWord_35 (by decide) (fun c1 => ?_) (fun c1 => ?_)
    · have hf := ipos c1 hf
      obtain rfl := sinj hf
      refine lv_iconst (v := (1 : Int32)) hx hb dX5_isWord_65 (by decide) ?_
      exact retn (by decide) X hK hP hD hS dX5_isWord_66
    · have hf := ineg c1 hf
      have hlt : k < wlen w := by
        rcases Nat.lt_or_ge k (wlen w) with q | q
        · exact q
        · exact absurd (nI_le q (by omega)) c1
      refine lv_aload_n hx hb dX5_isWord_38 rfl (lv_at hl 1 rfl) ?_
      refine va_get (D := D) (ci := 5) (v := .ref a_t_text) (C := RX5) (T := TX5) (N := 17) hx hb hts in_X5_isWord_X5 hown hK hP 0 rfl rfl 0 (by decide) (hts (.fieldLink RX5 9 "DivisionHall$Reader" "text" "[I") (by decide +kernel)) (fun _ h9 => h9) rfl dX5_isWord_39 ?_
      refine lv_aload_n hx hb dX5_isWord_42 rfl (lv_at hl 1 rfl) ?_
      refine va_get (D := D) (ci := 5) (v := .int t_place) (C := RX5) (T := TX5) (N := 17) hx hb hts in_X5_isWord_X5 hown hK hP 0 rfl rfl 9 (by decide) (hts (.fieldLink RX5 59 "DivisionHall$Reader" "place" "I") (by decide +kernel)) (fun _ h9 => h9) rfl dX5_isWord_43 ?_
      refine lv_iload_n hx hb dX5_isWord_46 rfl (lv_at hl 0 rfl) ?_
      refine lv_iadd hx hb dX5_isWord_47 ?_
      obtain ⟨hi3, hf⟩ := gin_s hf
      refine va_iald hx hb hK hP 1 0 rfl rfl hi3 dX5_isWord_48 ?_
      refine lv_aload_n hx hb dX5_isWord_49 rfl (lv_at hl 2 rfl) ?_
      refine lv_iload_n hx hb dX5_isWord_50 rfl (lv_at hl 0 rfl) ?_
      refine wcalli (D := D) (cI := cI) (cZ := cZ) (cR := cR) (wc := []) (w' := []) [] hP hD hS hA rfl rfl rfl (rnK (As := [.int (nI k)]) hi X hK hP hD hW hS hA (c_J0_charAt l adK adV D cI cZ cR hi hlt) (cwV 1 hts gX5_isWord_J0_charAt_5068e rfl rfl rfl (by decide +kernel) ⟨Nat.le_of_ble_eq_true rfl, Nat.le_of_ble_eq_true rfl⟩) rfl hl.1 rfl (Nat.le_of_ble_eq_true rfl) dX5_isWord_51) (fun H locs hP hD hS => ?_)
      have hcl : (nI k).toNatClampNeg = k := nI_clamp (by omega)
      rw [hcl] at hf
      refine lv_icmp_eq (tgt := 59) hx hb dX5_isWord_54 (by decide) (fun c2 => ?_) (fun c2 => ?_)
      · have hf := ipos c2 hf
        refine lv_iinc (v := nI (k + 1)) (lv' := [(2, .int (nI (k + 1))), (0, .ref a_t), (1, .ref (adK w))]) hx hb dX5_isWord_59 hl (k := 0) rfl (by rw [nI_succ]; rfl) (by decide) rfl (fun ls hl => ?_)
        refine lv_goto (tgt := 30) hx hb dX5_isWord_62 (by decide) ?_
        have e1 : nI k + 1 = nI (k + 1) := (nI_succ k).symm
        rw [e1] at hf
        exact ih (k + 1) hlt hf H locs hP hD hS ls hl
      · have hf := ineg c2 hf
        obtain rfl := sinj hf
        refine lv_iconst (v := (0 : Int32)) hx hb dX5_isWord_57 (by decide) ?_
        exact retn (by decide) X hK hP hD hS dX5_isWord_58
set_option maxHeartbeats 4000000 in
set_option maxRecDepth 100000 in
theorem c_X5_isWord (l : Launch) (adK adV : Nat → Nat) (D : va_G) (cI cZ cR : ClassId) {a_t a_t_text a_t_code a_t_waiting : Nat} {t_length t_codes t_waits t_fault t_faultPlace t_at t_place t_sign t_number t_state t_name t_compared t_open t_parentheses : Int32} {t_text_r : Nat → Int32} {w sz : Nat} {out : Int32} (hf : F_X5_isWord w t_at t_place t_text_r = some out) (hi : w < 9 := by decide) : CIS l yX5_isWord wsX5_isWord ({ frames := 4, cells := 0, slots := 0, locals := 85 } : Room) adK adV D cI cZ cR [.ref a_t, .ref (adK w)] (wd_X5_isWord cI cZ cR a_t a_t_text a_t_code a_t_waiting t_length t_codes t_waits t_fault t_faultPlace t_at t_place t_sign t_number t_state t_name t_compared t_open t_parentheses t_text_r) sz out (wd_X5_isWord cI cZ cR a_t a_t_text a_t_code a_t_waiting t_length t_codes t_waits t_fault t_faultPlace t_at t_place t_sign t_number t_state t_name t_compared t_open t_parentheses t_text_r) := by
  refine met_ofS (Qf := fun A => qi D cI cZ cR A out (wd_X5_isWord cI cZ cR a_t a_t_text a_t_code a_t_waiting t_length t_codes t_waits t_fault t_faultPlace t_at t_place t_sign t_number t_state t_name t_compared t_open t_parentheses t_text_r)) RX5 (by decide +kernel) rfl rfl (Nat.le_of_ble_eq_true rfl) ?_
  intro p e s m below meth c A X hK hA hW hP hD hS ls hl
  have hl : lv_has ls 3 [(0, .ref a_t), (1, .ref (adK w))] := hl
  obtain ⟨hx, hb, hml, hr, hown, hts, hlocks, hN⟩ := id X
  unfold F_X5_isWord at hf
  refine lv_aload_n hx hb dX5_isWord_0 rfl (lv_at hl 0 rfl) ?_
  refine va_get (D := D) (ci := 5) (v := .int t_at) (C := RX5) (T := TX5) (N := 17) hx hb hts in_X5_isWord_X5 hown hK hP 0 rfl rfl 8 (by decide) (hts (.fieldLink RX5 37 "DivisionHall$Reader" "at" "I") (by decide +kernel)) (fun _ h9 => h9) rfl dX5_isWord_1 ?_
  refine lv_aload_n hx hb dX5_isWord_4 rfl (lv_at hl 0 rfl) ?_
  refine va_get (D := D) (ci := 5) (v := .int t_place) (C := RX5) (T := TX5) (N := 17) hx hb hts in_X5_isWord_X5 hown hK hP 0 rfl rfl 9 (by decide) (hts (.fieldLink RX5 59 "DivisionHall$Reader" "place" "I") (by decide +kernel)) (fun _ h9 => h9) rfl dX5_isWord_5 ?_
  refine lv_isub hx hb dX5_isWord_8 ?_
  refine lv_aload_n hx hb dX5_isWord_9 rfl (lv_at hl 1 rfl) ?_
  refine wcalli (D := D) (cI := cI) (cZ := cZ) (cR := cR) (wc := []) (w' := []) [] hP hD hS hA rfl rfl rfl (rnK (As := []) hi X hK hP hD hW hS hA (c_J0_length l adK adV D cI cZ cR hi) (cwV 0 hts gX5_isWord_J0_length_8abf5 rfl rfl rfl (by decide +kernel) ⟨Nat.le_of_ble_eq_true rfl, Nat.le_of_ble_eq_true rfl⟩) rfl hl.1 rfl (Nat.le_of_ble_eq_true rfl) dX5_isWord_10) (fun H locs hP hD hS => ?_)
  refine lv_icmp_ne (tgt := 26) hx hb dX5_isWord_13 (by decide) (fun c1 => ?_) (fun c1 => ?_)
  · have hf := ineg c1 hf
    obtain rfl := sinj hf
    refine lv_iconst (v := (0 : Int32)) hx hb dX5_isWord_26 (by decide) ?_
    exact retn (by decide) X hK hP hD hS dX5_isWord_27
  · have hf := ipos c1 hf
    refine lv_aload_n hx hb dX5_isWord_16 rfl (lv_at hl 0 rfl) ?_
    refine va_get (D := D) (ci := 5) (v := .int t_at) (C := RX5) (T := TX5) (N := 17) hx hb hts in_X5_isWord_X5 hown hK hP 0 rfl rfl 8 (by decide) (hts (.fieldLink RX5 37 "DivisionHall$Reader" "at" "I") (by decide +kernel)) (fun _ h9 => h9) rfl dX5_isWord_17 ?_
    refine lv_sipush (v := (400 : Int32)) hx hb dX5_isWord_20 (by decide) ?_
    refine lv_icmp_le (tgt := 28) hx hb dX5_isWord_23 (by decide) (fun c2 => ?_) (fun c2 => ?_)
    · have hf := ipos c2 hf
      refine lv_iconst (v := (0 : Int32)) hx hb dX5_isWord_28 (by decide) ?_
      refine lv_istore_n (lv' := [(2, .int (nI 0)), (0, .ref a_t), (1, .ref (adK w))]) hx hb dX5_isWord_29 rfl hl (by decide) rfl (fun ls hl => ?_)
      exact w_X5_isWord_30 hi X hK hA hW FU 0 (Nat.zero_le _) hf _ _ hP hD hS _ hl
    · have hf := ineg c2 hf
      obtain rfl := sinj hf
      refine lv_iconst (v := (0 : Int32)) hx hb dX5_isWord_26 (by decide) ?_
      exact retn (by decide) X hK hP hD hS dX5_isWord_27
