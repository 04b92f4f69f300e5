def nestF : List (String × Nat × String × String × String × String) := [("DivisionHall", 107, "DivisionHall$Seats", "in", "I", "DivisionHall"), ("DivisionHall", 122, "DivisionHall$Reader", "length", "I", "DivisionHall"), ("DivisionHall", 132, "DivisionHall$Reader", "fault", "I", "DivisionHall"), ("DivisionHall", 139, "DivisionHall$Reader", "faultPlace", "I", "DivisionHall"), ("DivisionHall", 152, "DivisionHall$Leasts", "count", "I", "DivisionHall"), ("DivisionHall", 191, "DivisionHall$Table", "tradeSought", "Z", "DivisionHall"), ("DivisionHall", 199, "DivisionHall$Table", "trade", "[I", "DivisionHall"), ("DivisionHall", 250, "DivisionHall$Line", "place", "[I", "DivisionHall"), ("DivisionHall", 255, "DivisionHall$Line", "bestSet", "I", "DivisionHall"), ("DivisionHall", 258, "DivisionHall$Line", "bestSpan", "I", "DivisionHall"), ("DivisionHall", 261, "DivisionHall$Line", "bestWeight", "I", "DivisionHall"), ("DivisionHall", 264, "DivisionHall$Line", "count", "I", "DivisionHall"), ("DivisionHall", 293, "DivisionHall$Rule", "table", "LDivisionHall$Table;", "DivisionHall"), ("DivisionHall", 297, "DivisionHall$Table", "fresh", "Z", "DivisionHall"), ("DivisionHall", 93, "DivisionHall$Log", "count", "I", "DivisionHall"), ("DivisionHall$Leasts", 30, "DivisionHall$Table", "in", "I", "DivisionHall"), ("DivisionHall$Motions", 53, "DivisionHall$Seats", "in", "I", "DivisionHall"), ("DivisionHall$Rule", 27, "DivisionHall$Reader", "codes", "I", "DivisionHall"), ("DivisionHall$Rule", 32, "DivisionHall$Reader", "code", "[I", "DivisionHall"), ("DivisionHall$Rule", 39, "DivisionHall$Table", "fresh", "Z", "DivisionHall"), ("DivisionHall$Rule", 68, "DivisionHall$Seats", "in", "I", "DivisionHall"), ("DivisionHall$Rule", 71, "DivisionHall$Seats", "all", "I", "DivisionHall"), ("DivisionHall$Trader", 21, "DivisionHall$Table", "tradeSought", "Z", "DivisionHall"), ("DivisionHall$Trader", 27, "DivisionHall$Table", "trade", "[I", "DivisionHall"), ("DivisionHall$Trader", 54, "DivisionHall$Table", "in", "I", "DivisionHall")]
def nestM : List (String × Nat × MethodName × String) := [("DivisionHall", 11, ⟨"DivisionHall$Log", "<init>", "()V"⟩, "DivisionHall"), ("DivisionHall", 18, ⟨"DivisionHall$Seats", "<init>", "()V"⟩, "DivisionHall"), ("DivisionHall", 28, ⟨"DivisionHall$Reader", "<init>", "()V"⟩, "DivisionHall"), ("DivisionHall", 39, ⟨"DivisionHall$Rule", "<init>", "()V"⟩, "DivisionHall"), ("DivisionHall", 42, ⟨"DivisionHall$Leasts", "<init>", "()V"⟩, "DivisionHall"), ("DivisionHall", 49, ⟨"DivisionHall$Trader", "<init>", "()V"⟩, "DivisionHall"), ("DivisionHall", 63, ⟨"DivisionHall$Line", "<init>", "()V"⟩, "DivisionHall"), ("DivisionHall", 70, ⟨"DivisionHall$Dealer", "<init>", "()V"⟩, "DivisionHall"), ("DivisionHall$Dealer", 36, ⟨"DivisionHall", "inside", "(II)Z"⟩, "DivisionHall"), ("DivisionHall$Dealer", 40, ⟨"DivisionHall", "has", "(II)Z"⟩, "DivisionHall"), ("DivisionHall$Dealer", 87, ⟨"DivisionHall", "isWithin", "(II)Z"⟩, "DivisionHall"), ("DivisionHall$Leasts", 17, ⟨"DivisionHall$Table", "<init>", "()V"⟩, "DivisionHall"), ("DivisionHall$Leasts", 26, ⟨"DivisionHall", "inside", "(II)Z"⟩, "DivisionHall"), ("DivisionHall$Leasts", 37, ⟨"DivisionHall", "isWithin", "(II)Z"⟩, "DivisionHall"), ("DivisionHall$Leasts", 54, ⟨"DivisionHall", "has", "(II)Z"⟩, "DivisionHall"), ("DivisionHall$Line", 34, ⟨"DivisionHall", "isWithin", "(II)Z"⟩, "DivisionHall"), ("DivisionHall$Line", 64, ⟨"DivisionHall", "has", "(II)Z"⟩, "DivisionHall"), ("DivisionHall$Log", 34, ⟨"DivisionHall", "inside", "(II)Z"⟩, "DivisionHall"), ("DivisionHall$Motions", 101, ⟨"DivisionHall", "isWithin", "(II)Z"⟩, "DivisionHall"), ("DivisionHall$Motions", 36, ⟨"DivisionHall", "inside", "(II)Z"⟩, "DivisionHall"), ("DivisionHall$Motions", 40, ⟨"DivisionHall", "has", "(II)Z"⟩, "DivisionHall"), ("DivisionHall$Reader", 165, ⟨"DivisionHall", "inside", "(II)Z"⟩, "DivisionHall"), ("DivisionHall$Rule", 22, ⟨"DivisionHall$Table", "<init>", "()V"⟩, "DivisionHall"), ("DivisionHall$Rule", 45, ⟨"DivisionHall", "inside", "(II)Z"⟩, "DivisionHall"), ("DivisionHall$Rule", 89, ⟨"DivisionHall", "isWithin", "(II)Z"⟩, "DivisionHall"), ("DivisionHall$Seats", 31, ⟨"DivisionHall", "inside", "(II)Z"⟩, "DivisionHall"), ("DivisionHall$Seats", 35, ⟨"DivisionHall", "has", "(II)Z"⟩, "DivisionHall"), ("DivisionHall$Table", 32, ⟨"DivisionHall", "inside", "(II)Z"⟩, "DivisionHall"), ("DivisionHall$Table", 36, ⟨"DivisionHall", "has", "(II)Z"⟩, "DivisionHall"), ("DivisionHall$Table", 39, ⟨"DivisionHall", "isWithin", "(II)Z"⟩, "DivisionHall"), ("DivisionHall$Trader", 57, ⟨"DivisionHall", "isWithin", "(II)Z"⟩, "DivisionHall"), ("DivisionHall$Trader", 65, ⟨"DivisionHall", "inside", "(II)Z"⟩, "DivisionHall"), ("DivisionHall$Trader", 73, ⟨"DivisionHall", "has", "(II)Z"⟩, "DivisionHall")]
def NN (U : State) : Prop := (∀ q ∈ nestF, va_Nw (.fieldLinkNest q.1 q.2.1 q.2.2.1 q.2.2.2.1 q.2.2.2.2.1 q.2.2.2.2.2) U) ∧ (∀ q ∈ nestM, va_Nw (.methodLinkNest q.1 q.2.1 q.2.2.1 q.2.2.2) U) ∧ va_AO "DivisionHall$Rule" U
theorem NN.warm {s U : State} (hW : s.WarmedH U.vm) (h : NN s) : NN U := ⟨fun q hq => va_Nw.warmF hW (h.1 q hq), fun q hq => va_Nw.warmM hW (h.2.1 q hq), h.2.2.moved hW.alike⟩
theorem NN.same {u U : State} (h : u.vm = U.vm) (hN : NN u) : NN U := ⟨fun q hq => va_Nw.same rfl h (hN.1 q hq), fun q hq => va_Nw.same rfl h (hN.2.1 q hq), hN.2.2.moved (h ▸ Vm.Alike.refl _)⟩
abbrev ty3 (cI cZ cR : ClassId) : List (ClassId × FieldType) := [(cI, .int), (cZ, .boolean), (cR, .object "DivisionHall$Rule")]
abbrev aI (cI : ClassId) (n : Nat) (f : Nat → Int32) : va_E := .inl (cI, n, .inl f)
abbrev aQ (cR : ClassId) (n : Nat) (f : Nat → Option Nat) : va_E := .inl (cR, n, .inr (.inr (.inr (.inr f))))
abbrev oB (ci : Nat) (fs : List Value) : va_E := .inr (ci, fs)
abbrev pre (D : va_G) (cI cZ cR : ClassId) (av : List Value) (wc : va_W) (sz : Nat) : Array Value → State → Prop := va_Pc av (fun U => U.heap.size = sz ∧ va_P D vwCl wc U.heap ∧ va_K D vwCl (ty3 cI cZ cR) U ∧ NN U ∧ va_D (fun _ => True) wc)
abbrev aft (D : va_G) (cI cZ cR : ClassId) (A : Nat → Prop) (w' : va_W) : Unit → State → Prop := fun _ t => va_P D vwCl w' t.heap ∧ va_K D vwCl (ty3 cI cZ cR) t ∧ va_D A w'
abbrev qi (D : va_G) (cI cZ cR : ClassId) (A : Nat → Prop) (v : Int32) (w' : va_W) := va_Qi (fun r (_ : Unit) => r = v) (aft D cI cZ cR A w') A
abbrev ql (D : va_G) (cI cZ cR : ClassId) (A : Nat → Prop) (v : Int64) (w' : va_W) := va_Ql (fun r (_ : Unit) => r = v) (aft D cI cZ cR A w') A
abbrev qv (D : va_G) (cI cZ cR : ClassId) (A : Nat → Prop) (w' : va_W) := va_Qv (fun (_ : Unit) => True) (aft D cI cZ cR A w') A
/-- contracts: from the world wc (its size sz) the method answers v and leaves the world w' -/
abbrev CI (l : Launch) (y : MethodName) (ws : List Cond) (rm : Room) (D : va_G) (cI cZ cR : ClassId) (av : List Value) (wc : va_W) (sz : Nat) (v : Int32) (w' : va_W) : Prop := Met l y ws rm (pre D cI cZ cR av wc sz) (qi D cI cZ cR (va_A wc sz) v w') 0 0 (va_A wc sz)
abbrev CL (l : Launch) (y : MethodName) (ws : List Cond) (rm : Room) (D : va_G) (cI cZ cR : ClassId) (av : List Value) (wc : va_W) (sz : Nat) (v : Int64) (w' : va_W) : Prop := Met l y ws rm (pre D cI cZ cR av wc sz) (ql D cI cZ cR (va_A wc sz) v w') 0 0 (va_A wc sz)
abbrev CV (l : Launch) (y : MethodName) (ws : List Cond) (rm : Room) (D : va_G) (cI cZ cR : ClassId) (av : List Value) (wc : va_W) (sz : Nat) (w' : va_W) : Prop := Met l y ws rm (pre D cI cZ cR av wc sz) (qv D cI cZ cR (va_A wc sz) w') 0 0 (va_A wc sz)
theorem pre_blind {D : va_G} {cI cZ cR : ClassId} {av : List Value} {wc : va_W} {sz : Nat} : FrameBlind (pre D cI cZ cR av wc sz) := fun a U g mk q => by
  obtain ⟨q0, q1, qP, qK, qN, qD⟩ := q
  exact ⟨q0, q1, qP, va_K.moved (u := U) (U := U.calling g mk a) (Vm.Alike.refl U.vm) qK, NN.same rfl qN, qD⟩
/-- what stays fixed in a method's walk -/
def cx (p : Program) (s : State) (m : MethodId) (args : Array Value) (meth : Method) (c : Code) (cc : ByteArray) (nL : Nat) (ret : Option FieldType) (own : String) (ws : List Cond) : Prop :=
  p.tables.exec = Jvm.exec ∧ c.code = cc ∧ c.maxLocals = nL ∧ meth.sig.returnType = ret ∧ s.vm.findClass own = some m.cls ∧ (∀ w ∈ ws, w.before args s = true) ∧ meth.locks = false ∧ NN s
/-- cells put at places -/
def wset0 : List Nat → va_W → va_W → va_W
  | [], _, ws => ws
  | i :: is, qs, ws => match qs with
    | [] => ws
    | q :: qs' => wset0 is qs' (ws.set i q)
abbrev wset (ws : va_W) (is : List Nat) (qs : va_W) : va_W := wset0 is qs ws
theorem wset_len : ∀ (is : List Nat) (qs ws : va_W), (wset ws is qs).length = ws.length
  | [], _, _ => rfl
  | _ :: _, [], _ => rfl
  | i :: is, q :: qs, ws => by rw [show wset ws (i :: is) (q :: qs) = wset (ws.set i q) is qs from rfl, wset_len is qs, List.length_set]
/-- a place of wset is the old cell at a place that isn't listed, or one of the new -/
theorem wset_at : ∀ (is : List Nat) (qs ws : va_W) (k : Nat) (q : Nat × va_E), (wset ws is qs)[k]? = some q → (∃ j : Nat, is[j]? = some k ∧ qs[j]? = some q) ∨ (ws[k]? = some q ∧ (k ∈ is → qs.length < is.length))
  | [], _, _, _, _, h => Or.inr ⟨h, fun h => absurd h List.not_mem_nil⟩
  | _ :: _, [], _, _, _, h => Or.inr ⟨h, fun _ => Nat.zero_lt_succ _⟩
  | i :: is, p :: qs, ws, k, q, h => by
    rcases wset_at is qs (ws.set i p) k q h with ⟨j, h1, h2⟩ | ⟨h1, h2⟩
    · exact Or.inl ⟨j + 1, h1, h2⟩
    · by_cases hk : i = k
      · subst hk
        rw [List.getElem?_set_self' ] at h1
        rcases hw : ws[i]? with _ | x
        · rw [hw] at h1; simp at h1
        · rw [hw] at h1
          exact Or.inl ⟨0, rfl, by simpa using h1⟩
      · rw [List.getElem?_set_ne hk] at h1
        exact Or.inr ⟨h1, fun hm => by
          rcases List.mem_cons.mp hm with h | h
          · exact absurd h.symm hk
          · exact Nat.succ_lt_succ (h2 h)⟩
theorem wset_fst : ∀ (is : List Nat) (wc qs ws : va_W), is.map (fun i => ws[i]?) = wc.map some → qs.map Prod.fst = wc.map Prod.fst → va_nd is = true → (wset ws is qs).map Prod.fst = ws.map Prod.fst
  | [], _, _, _, _, _, _ => rfl
  | _ :: _, _, [], _, _, _, _ => rfl
  | i :: is, [], q :: qs, ws, h, _, _ => by simp at h
  | i :: is, w :: wc, q :: qs, ws, h, h2, h3 => by
    simp only [List.map_cons, List.cons.injEq] at h h2
    have hset : (ws.set i q).map Prod.fst = ws.map Prod.fst := by
      apply List.ext_getElem?
      intro k
      simp only [List.getElem?_map]
      by_cases hk : i = k
      · subst hk
        rw [List.getElem?_set_self', h.1]
        simp [h2.1]
      · rw [List.getElem?_set_ne hk]
    have hnm : i ∉ is ∧ va_nd is = true := by
      simpa [va_nd] using h3
    rw [show wset ws (i :: is) (q :: qs) = wset (ws.set i q) is qs from rfl, wset_fst is wc qs (ws.set i q) ?_ h2.2 hnm.2, hset]
    rw [← h.2]
    apply List.map_congr_left
    intro j hj
    exact List.getElem?_set_ne (fun e => hnm.1 (by rw [e]; exact hj))
theorem va_D_fst {A : Nat → Prop} {ws ws' : va_W} (h : ws'.map Prod.fst = ws.map Prod.fst) (hD : va_D A ws) : va_D A ws' := by
  have key : ∀ (k : Nat) (q : Nat × va_E), ws'[k]? = some q → ∃ q2 : Nat × va_E, ws[k]? = some q2 ∧ q2.1 = q.1 := by
    intro k q hq
    have h1 : (ws'.map Prod.fst)[k]? = some q.1 := by rw [List.getElem?_map, hq]; rfl
    rw [h, List.getElem?_map] at h1
    rcases hw : ws[k]? with _ | x
    · rw [hw] at h1; simp at h1
    · rw [hw] at h1; exact ⟨x, rfl, by simpa using h1⟩
  refine ⟨fun i j p q hp hq e => ?_, fun k q hq => ?_⟩
  · obtain ⟨p2, a1, a2⟩ := key i p hp
    obtain ⟨q2, b1, b2⟩ := key j q hq
    exact hD.1 i j p2 q2 a1 b1 (by rw [a2, b2, e])
  · obtain ⟨q2, b1, b2⟩ := key k q hq
    rw [← b2]; exact hD.2 k q2 b1
theorem va_nd_get {is : List Nat} (h : va_nd is = true) : is.Nodup := by
  induction is with
  | nil => exact List.nodup_nil
  | cons a l ih =>
    have h2 : a ∉ l ∧ va_nd l = true := by simpa [va_nd] using h
    exact List.nodup_cons.mpr ⟨h2.1, ih h2.2⟩
/-- the frame rule, the cells kept at their places -/
theorem wjoin {A0 : Nat → Prop} {D : va_G} {cl : List vw_C} {ws wc w1 : va_W} {H H1 : Heap} (hP : va_P D cl ws H) (hD : va_D A0 ws) (is : List Nat) (hC : is.map (fun i => ws[i]?) = wc.map some) (hf : w1.map Prod.fst = wc.map Prod.fst) (hn : va_nd is = true)
    (hk : ∀ q : Nat, q < H.size → ¬ va_A wc H.size q → H1[q]? = H[q]?) (hP1 : va_P D cl w1 H1) : va_P D cl (wset ws is w1) H1 ∧ va_D A0 (wset ws is w1) := by
  refine ⟨fun k q hq => ?_, va_D_fst (wset_fst is wc w1 ws hC hf hn) hD⟩
  rcases wset_at is w1 ws k q hq with ⟨j, h1, h2⟩ | ⟨h1, h2⟩
  · exact hP1 j q h2
  · have hlen : is.length = w1.length := by
      have e1 := congrArg List.length hC
      have e2 := congrArg List.length hf
      simp only [List.length_map] at e1 e2
      omega
    have hni : k ∉ is := fun hm => by have := h2 hm; omega
    have hat := hP k q h1
    refine hat.kept (hk q.1 hat.lt (fun hA => ?_))
    rcases hA with ⟨k2, e, he⟩ | hA
    · have h3 : (is.map (fun i => ws[i]?))[k2]? = some (some (q.1, e)) := by rw [hC, List.getElem?_map, he]; rfl
      rw [List.getElem?_map] at h3
      rcases hi : is[k2]? with _ | i
      · rw [hi] at h3; simp at h3
      · rw [hi] at h3
        have h4 : ws[i]? = some (q.1, e) := by simpa using h3
        have h5 : k = i := hD.1 k i q (q.1, e) h1 h4 rfl
        exact hni (h5 ▸ List.mem_of_getElem? hi)
    · exact absurd hat.lt (Nat.not_lt.mpr hA)
section RUNS
variable {p : Program} {l : Launch} {e : Env} {R : Room} {s : State} {m : MethodId} {args : Array Value} {below : List Frame} {meth : Method} {c : Code} {H : Heap} {locs : List Loc} {Q : State → Prop}
variable {D : va_G} {cI cZ cR : ClassId} {A : Nat → Prop} {cc : ByteArray} {nL : Nat} {ret : Option FieldType} {own : String} {ws : List Cond} {ww wc w' : va_W}
/-- the cells that a callee takes, as its start has them -/
theorem pre_of {av : List Value} (hK : va_K D vwCl (ty3 cI cZ cR) s) (hN : NN s) (hP : va_P D vwCl ww H) (hD : va_D A ww) (is : List Nat) (hC : is.map (fun i => ww[i]?) = wc.map some) (hn : va_nd is = true) : ∀ U : State, U.heap = H → s.WarmedH U.vm → pre D cI cZ cR av wc H.size av.toArray U := by
  intro U hU hW
  have hPc : va_P D vwCl wc H := by
    refine hP.sub is ?_
    have h2 := congrArg (List.filterMap id) hC
    simpa [List.filterMap_map, Function.comp_def] using h2
  exact ⟨rfl, by rw [hU], by rw [hU]; exact hPc, va_K.moved hW.alike hK, NN.warm hW hN, (hD.sub is hn hC).weaken (fun _ _ _ _ => trivial)⟩
theorem wcalli {pc : Nat} {ls : Array Slot} {rest st0 : List Value} {a : Array Value} {v : Int32} (is : List Nat) (hP : va_P D vwCl ww H) (hD : va_D A ww) (hS : va_S A s.heap H locs) (hA : ∀ q, s.heap.size ≤ q → A q) (hC : is.map (fun i => ww[i]?) = wc.map some) (hf : w'.map Prod.fst = wc.map Prod.fst) (hn : va_nd is = true)
    (hr : va_Run p l e R s m args below meth c H locs 0 0 0 0 (F0 m pc ls st0) rest (qi D cI cZ cR (va_A wc H.size) v w' a) (va_A wc H.size))
    (kk : ∀ (H1 : Heap) (locs1 : List Loc), va_P D vwCl (wset ww is w') H1 → va_D A (wset ww is w') → va_S A s.heap H1 locs1 → W p l e R s m args below meth c H1 locs1 0 0 Q (F0 m (pc + 3) ls (.int v :: rest))) : W p l e R s m args below meth c H locs 0 0 Q (F0 m pc ls st0) := by
  have hFc := va_free (wc := wc) hD hS hA is hC
  refine va_calli hr hS (fun q _ h => hFc q h) hFc (fun r u t H1 locs1 ht hvm hw hB hz1 hk1 hS1 => ?_)
  obtain ⟨hP1, hK1, hD1⟩ := hB
  rw [ht] at hP1
  obtain ⟨hPn, hDn⟩ := wjoin hP hD is hC hf hn hk1 hP1
  subst hw
  exact kk H1 locs1 hPn hDn hS1
theorem wcalll {pc : Nat} {ls : Array Slot} {rest st0 : List Value} {a : Array Value} {v : Int64} (is : List Nat) (hP : va_P D vwCl ww H) (hD : va_D A ww) (hS : va_S A s.heap H locs) (hA : ∀ q, s.heap.size ≤ q → A q) (hC : is.map (fun i => ww[i]?) = wc.map some) (hf : w'.map Prod.fst = wc.map Prod.fst) (hn : va_nd is = true)
    (hr : va_Run p l e R s m args below meth c H locs 0 0 0 0 (F0 m pc ls st0) rest (ql D cI cZ cR (va_A wc H.size) v w' a) (va_A wc H.size))
    (kk : ∀ (H1 : Heap) (locs1 : List Loc), va_P D vwCl (wset ww is w') H1 → va_D A (wset ww is w') → va_S A s.heap H1 locs1 → W p l e R s m args below meth c H1 locs1 0 0 Q (F0 m (pc + 3) ls (.long v :: rest))) : W p l e R s m args below meth c H locs 0 0 Q (F0 m pc ls st0) := by
  have hFc := va_free (wc := wc) hD hS hA is hC
  refine va_calll hr hS (fun q _ h => hFc q h) hFc (fun r u t H1 locs1 ht hvm hw hB hz1 hk1 hS1 => ?_)
  obtain ⟨hP1, hK1, hD1⟩ := hB
  rw [ht] at hP1
  obtain ⟨hPn, hDn⟩ := wjoin hP hD is hC hf hn hk1 hP1
  subst hw
  exact kk H1 locs1 hPn hDn hS1
theorem wcallv {pc : Nat} {ls : Array Slot} {rest st0 : List Value} {a : Array Value} (is : List Nat) (hP : va_P D vwCl ww H) (hD : va_D A ww) (hS : va_S A s.heap H locs) (hA : ∀ q, s.heap.size ≤ q → A q) (hC : is.map (fun i => ww[i]?) = wc.map some) (hf : w'.map Prod.fst = wc.map Prod.fst) (hn : va_nd is = true)
    (hr : va_Run p l e R s m args below meth c H locs 0 0 0 0 (F0 m pc ls st0) rest (qv D cI cZ cR (va_A wc H.size) w' a) (va_A wc H.size))
    (kk : ∀ (H1 : Heap) (locs1 : List Loc), va_P D vwCl (wset ww is w') H1 → va_D A (wset ww is w') → va_S A s.heap H1 locs1 → W p l e R s m args below meth c H1 locs1 0 0 Q (F0 m (pc + 3) ls rest)) : W p l e R s m args below meth c H locs 0 0 Q (F0 m pc ls st0) := by
  have hFc := va_free (wc := wc) hD hS hA is hC
  refine va_callv hr hS (fun q _ h => hFc q h) hFc (fun u t H1 locs1 ht hvm hw hB hz1 hk1 hS1 => ?_)
  obtain ⟨hP1, hK1, hD1⟩ := hB
  rw [ht] at hP1
  obtain ⟨hPn, hDn⟩ := wjoin hP hD is hC hf hn hk1 hP1
  exact kk H1 locs1 hPn hDn hS1
variable {Qc : Array Value → State → Outcome → State → Prop} {ws2 : List Cond} {rm : Room} {y : MethodName} {bytes : ByteArray} {maxL n index : Nat} {ret2 : Option FieldType} {As rest : List Value} {C host : String} {b : Addr} {free : Addr → Prop}
theorem rnV {ci : Nat} {q : u_T × Nat} {fs : List Value} {q0 pc : Nat} {ls : Array Slot} {st : List Value} (X : cx p s m args meth c cc nL ret own ws) (is : List Nat) (hK : va_K D vwCl (ty3 cI cZ cR) s) (hP : va_P D vwCl ww H) (hD : va_D A ww) (hC : is.map (fun i => ww[i]?) = wc.map some) (hnd : va_nd is = true)
    (hc : vwCl[ci]? = some (C, q)) (he : ww[q0]? = some (b, .inr (ci, fs)))
    (hM : Met l y ws2 rm (pre D cI cZ cR (.ref b :: As) wc H.size) Qc 0 0 free) (cw : CallW R s args own C index y bytes maxL ret2 ws2 rm 0 0 n) (hn : As.length = n) (hl : ls.size = nL) (hst : st = As.reverse ++ .ref b :: rest) (hW : (rest.map fun v => v.category).sum ≤ 8) (hdg : decode cc pc = .ok (.invokevirtual index, 3)) :
    va_Run p l e R s m args below meth c H locs 0 0 0 0 (F0 m pc ls st) rest (Qc (Value.ref b :: As).toArray) free := by
  obtain ⟨hx, hb, hml, hr, hown, hts, hlocks, hN⟩ := X
  exact va_runV (As := As) (rest := rest) ⟨hx, hb, hml, hown, hts⟩ hM cw ⟨pre_blind, va_recv hK hP hc he, pre_of hK hN hP hD is hC hnd⟩ rfl hn hl hst (lv_room hW) hdg ⟨Nat.zero_le _, Nat.zero_le _⟩
theorem rnVN {ci : Nat} {q : u_T × Nat} {fs : List Value} {q0 pc : Nat} {ls : Array Slot} {st : List Value} (X : cx p s m args meth c cc nL ret own ws) (is : List Nat) (hK : va_K D vwCl (ty3 cI cZ cR) s) (hP : va_P D vwCl ww H) (hD : va_D A ww) (hC : is.map (fun i => ww[i]?) = wc.map some) (hnd : va_nd is = true)
    (hc : vwCl[ci]? = some (C, q)) (he : ww[q0]? = some (b, .inr (ci, fs)))
    (hM : Met l y ws2 rm (pre D cI cZ cR (.ref b :: As) wc H.size) Qc 0 0 free) (cw : va_CN R s args own index y host bytes maxL ret2 ws2 rm 0 0 n ∧ (Cond.instanceMethod y).before args s = true ∧ (Cond.selects C y y).before args s = true) (hn : As.length = n) (hl : ls.size = nL) (hst : st = As.reverse ++ .ref b :: rest) (hW : (rest.map fun v => v.category).sum ≤ 8) (hdg : decode cc pc = .ok (.invokevirtual index, 3)) :
    va_Run p l e R s m args below meth c H locs 0 0 0 0 (F0 m pc ls st) rest (Qc (Value.ref b :: As).toArray) free := by
  obtain ⟨hx, hb, hml, hr, hown, hts, hlocks, hN⟩ := X
  exact va_runVN (As := As) (rest := rest) ⟨hx, hb, hml, hown, hts⟩ hM cw ⟨pre_blind, va_recv hK hP hc he, pre_of hK hN hP hD is hC hnd⟩ rfl hn hl hst (lv_room hW) hdg ⟨Nat.zero_le _, Nat.zero_le _⟩
theorem rnS {pc : Nat} {ls : Array Slot} {st : List Value} (X : cx p s m args meth c cc nL ret own ws) (is : List Nat) (hK : va_K D vwCl (ty3 cI cZ cR) s) (hP : va_P D vwCl ww H) (hD : va_D A ww) (hC : is.map (fun i => ww[i]?) = wc.map some) (hnd : va_nd is = true)
    (hM : Met l y ws2 rm (pre D cI cZ cR As wc H.size) Qc 0 0 free) (cw : CallB R s args own index y bytes maxL ret2 ws2 rm 0 0 n ∧ (Cond.static y).before args s = true) (hn : As.length = n) (hl : ls.size = nL) (hst : st = As.reverse ++ rest) (hW : (rest.map fun v => v.category).sum ≤ 8) (hdg : decode cc pc = .ok (.invokestatic index, 3)) :
    va_Run p l e R s m args below meth c H locs 0 0 0 0 (F0 m pc ls st) rest (Qc As.toArray) free := by
  obtain ⟨hx, hb, hml, hr, hown, hts, hlocks, hN⟩ := X
  exact va_runS (As := As) (rest := rest) ⟨hx, hb, hml, hown, hts⟩ hM cw ⟨pre_blind, pre_of hK hN hP hD is hC hnd⟩ rfl hn hl hst (lv_room hW) hdg ⟨Nat.zero_le _, Nat.zero_le _⟩
theorem rnSN {pc : Nat} {ls : Array Slot} {st : List Value} (X : cx p s m args meth c cc nL ret own ws) (is : List Nat) (hK : va_K D vwCl (ty3 cI cZ cR) s) (hP : va_P D vwCl ww H) (hD : va_D A ww) (hC : is.map (fun i => ww[i]?) = wc.map some) (hnd : va_nd is = true)
    (hM : Met l y ws2 rm (pre D cI cZ cR As wc H.size) Qc 0 0 free) (cw : va_CN R s args own index y host bytes maxL ret2 ws2 rm 0 0 n ∧ (Cond.static y).before args s = true ∧ True) (hn : As.length = n) (hl : ls.size = nL) (hst : st = As.reverse ++ rest) (hW : (rest.map fun v => v.category).sum ≤ 8) (hdg : decode cc pc = .ok (.invokestatic index, 3)) :
    va_Run p l e R s m args below meth c H locs 0 0 0 0 (F0 m pc ls st) rest (Qc As.toArray) free := by
  obtain ⟨hx, hb, hml, hr, hown, hts, hlocks, hN⟩ := X
  exact va_runSN (As := As) (rest := rest) ⟨hx, hb, hml, hown, hts⟩ hM cw ⟨pre_blind, pre_of hK hN hP hD is hC hnd⟩ rfl hn hl hst (lv_room hW) hdg ⟨Nat.zero_le _, Nat.zero_le _⟩
end RUNS
section RETS
variable {p : Program} {l : Launch} {e : Env} {R : Room} {s : State} {m : MethodId} {args : Array Value} {below : List Frame} {meth : Method} {c : Code} {H : Heap} {locs : List Loc}
variable {D : va_G} {cI cZ cR : ClassId} {A : Nat → Prop} {cc : ByteArray} {nL : Nat} {own : String} {ws : List Cond} {ww : va_W} {pc : Nat} {ls : Array Slot}
theorem reti {v : Int32} (X : cx p s m args meth c cc nL (some .int) own ws) (hK : va_K D vwCl (ty3 cI cZ cR) s) (hP : va_P D vwCl ww H) (hD : va_D A ww) (hS : va_S A s.heap H locs) (hdg : decode cc pc = .ok (.ireturn, 1)) : W p l e R s m args below meth c H locs 0 0 (MQ below (qi D cI cZ cR A v ww) args s 0 0 A) (F0 m pc ls [.int v]) := by
  obtain ⟨hx, hb, hml, hr, hown, hts, hlocks, hN⟩ := X
  exact W.iret (v := v) hx hb hr (fun t ht hW => ⟨⟨v, (), rfl, rfl, by rw [ht]; exact hP, va_K.moved hW.alike hK, hD⟩, hS.F ht⟩) hS.2.2 hdg
theorem retz {v : Int32} (hz : v = 0 ∨ v = 1) (X : cx p s m args meth c cc nL (some .boolean) own ws) (hK : va_K D vwCl (ty3 cI cZ cR) s) (hP : va_P D vwCl ww H) (hD : va_D A ww) (hS : va_S A s.heap H locs) (hdg : decode cc pc = .ok (.ireturn, 1)) : W p l e R s m args below meth c H locs 0 0 (MQ below (qi D cI cZ cR A v ww) args s 0 0 A) (F0 m pc ls [.int v]) := by
  obtain ⟨hx, hb, hml, hr, hown, hts, hlocks, hN⟩ := X
  exact W.zret (v := v) hx hb hr (by rcases hz with h | h <;> subst h <;> rfl) (fun t ht hW => ⟨⟨v, (), rfl, rfl, by rw [ht]; exact hP, va_K.moved hW.alike hK, hD⟩, hS.F ht⟩) hS.2.2 hdg
theorem retl {v : Int64} (X : cx p s m args meth c cc nL (some .long) own ws) (hK : va_K D vwCl (ty3 cI cZ cR) s) (hP : va_P D vwCl ww H) (hD : va_D A ww) (hS : va_S A s.heap H locs) (hdg : decode cc pc = .ok (.lreturn, 1)) : W p l e R s m args below meth c H locs 0 0 (MQ below (ql D cI cZ cR A v ww) args s 0 0 A) (F0 m pc ls [.long v]) := by
  obtain ⟨hx, hb, hml, hr, hown, hts, hlocks, hN⟩ := X
  exact W.lret (v := v) hx hb hr (fun t ht hW => ⟨⟨v, (), rfl, rfl, by rw [ht]; exact hP, va_K.moved hW.alike hK, hD⟩, hS.F ht⟩) hS.2.2 hdg
theorem retv (X : cx p s m args meth c cc nL none own ws) (hK : va_K D vwCl (ty3 cI cZ cR) s) (hP : va_P D vwCl ww H) (hD : va_D A ww) (hS : va_S A s.heap H locs) (hdg : decode cc pc = .ok (.return_, 1)) : W p l e R s m args below meth c H locs 0 0 (MQ below (qv D cI cZ cR A ww) args s 0 0 A) (F0 m pc ls []) := by
  obtain ⟨hx, hb, hml, hr, hown, hts, hlocks, hN⟩ := X
  exact W.vret hx hb hr (fun t ht hW => ⟨⟨(), rfl, trivial, by rw [ht]; exact hP, va_K.moved hW.alike hK, hD⟩, hS.F ht⟩) hS.2.2 hdg
end RETS
/-- a contract out of a walk from its entry: any world, any rest -/
theorem met_of {l : Launch} {y : MethodName} {ws ws' : List Cond} {rm : Room} {D : va_G} {cI cZ cR : ClassId} {av : List Value} {wc : va_W} {sz : Nat} {Qf : (Nat → Prop) → Array Value → State → Outcome → State → Prop} {cc : ByteArray} {maxL : Nat} {ret : Option FieldType} (own : String)
    (hy : plainName y.cls = true) (hown : y.cls = own) (hw : ws = Cond.code y cc maxL ret :: ws') (hlen : (lg_sl av).length ≤ maxL)
    (walk : ∀ (p : Program) (e : Env) (s : State) (m : MethodId) (below : List Frame) (meth : Method) (c : Code) (A : Nat → Prop), cx p s m av.toArray meth c cc maxL ret own ws → va_K D vwCl (ty3 cI cZ cR) s → (∀ q, s.heap.size ≤ q → A q) → va_P D vwCl wc s.heap → va_D A wc → va_S A s.heap s.heap [] → ∀ ls : Array Slot, lv_has ls maxL (lv_args 0 av) → W p l e (headSpec ws rm).room s m av.toArray below meth c s.heap [] 0 0 (MQ below (Qf A) av.toArray s 0 0 A) (F0 m 0 ls [])) :
    Met l y ws rm (pre D cI cZ cR av wc sz) (Qf (va_A wc sz)) 0 0 (va_A wc sz) := by
  refine Met.ofW (cc := cc) (maxL := maxL) (ret := ret) hy hw ?_
  intro p e s m args below meth c s₁ B hml hv
  obtain ⟨rfl, hsz, hP, hK, hN, hD0⟩ := hv
  have hts := atoms_spec (ws := ws) B.pre
  have hown' : s.vm.findClass own = some m.cls := hown ▸ findClass_of_methodNamed B.named
  subst hsz
  have hD := hD0.self (sz := s.heap.size)
  rw [lg_entry_eq]
  exact walk p e s m below meth c (va_A wc s.heap.size) ⟨B.exec, B.bytes, hml, B.returns, hown', hts, B.notSynchronized, hN⟩ hK (fun q h => Or.inr h) hP hD va_S.rf _ (lv_entry av hlen)
/-- steps of the pure side -/
def gin {α : Type} (i : Int32) (n : Nat) (x : Option α) : Option α := if i < 0 ∨ n ≤ i.toNatClampNeg then none else x
def gnz {α : Type} (y : Int32) (x : Option α) : Option α := if y = 0 then none else x
def gnzl {α : Type} (y : Int64) (x : Option α) : Option α := if y = 0 then none else x
def gb {α : Type} (v : Int32) (x : Option α) : Option α := if v = 0 ∨ v = 1 then x else none
theorem gin_s {α : Type} {i : Int32} {n : Nat} {x : Option α} {o : α} (h : gin i n x = some o) : vp_in i n ∧ x = some o := by
  unfold gin at h
  by_cases hc : i < 0 ∨ n ≤ i.toNatClampNeg
  · rw [if_pos hc] at h; cases h
  · rw [if_neg hc] at h; exact ⟨hc, h⟩
theorem gnz_s {α : Type} {y : Int32} {x : Option α} {o : α} (h : gnz y x = some o) : ¬ y = 0 ∧ x = some o := by
  unfold gnz at h
  by_cases hc : y = 0
  · rw [if_pos hc] at h; cases h
  · rw [if_neg hc] at h; exact ⟨hc, h⟩
theorem gnzl_s {α : Type} {y : Int64} {x : Option α} {o : α} (h : gnzl y x = some o) : ¬ y = 0 ∧ x = some o := by
  unfold gnzl at h
  by_cases hc : y = 0
  · rw [if_pos hc] at h; cases h
  · rw [if_neg hc] at h; exact ⟨hc, h⟩
theorem gb_s {α : Type} {v : Int32} {x : Option α} {o : α} (h : gb v x = some o) : (v = 0 ∨ v = 1) ∧ x = some o := by
  unfold gb at h
  by_cases hc : v = 0 ∨ v = 1
  · rw [if_pos hc] at h; exact ⟨hc, h⟩
  · rw [if_neg hc] at h; cases h
theorem ipos {α : Type} {c : Prop} {d : Decidable c} {a b : Option α} {o : α} (hc : c) (h : (@ite _ c d a b) = some o) : a = some o := by rw [if_pos hc] at h; exact h
theorem ineg {α : Type} {c : Prop} {d : Decidable c} {a b : Option α} {o : α} (hc : ¬ c) (h : (@ite _ c d a b) = some o) : b = some o := by rw [if_neg hc] at h; exact h
theorem bnd {α β : Type} {x : Option α} {k : α → Option β} {o : β} (h : x.bind k = some o) : ∃ r, x = some r ∧ k r = some o := by
  cases x with
  | none => cases h
  | some r => exact ⟨r, rfl, h⟩
theorem sinj {α : Type} {a o : α} (h : some a = some o) : o = a := (Option.some.inj h).symm
def FU : Nat := 100000
theorem brn {b : Int32} (h : b = 0 ∨ b = 1) : narrow .boolean (.int b) = .int b := by rcases h with h | h <;> subst h <;> rfl
theorem brf {b : Int32} (h : b = 0 ∨ b = 1) : fits .boolean (.int b) = true := by rcases h with h | h <;> subst h <;> rfl
theorem tout (lo n : Nat) {x : Int32} {L M : Int} (h : ∀ k, k < n + 1 → ¬ x = Int32.ofNat (lo + k)) (h1 : L = (lo : Int)) (h2 : M = ((lo + n : Nat) : Int)) (hs : lo + n < 2 ^ 31) : x.toInt < L ∨ M < x.toInt := by
  subst h1; subst h2
  by_cases a : x.toInt < (lo : Int)
  · exact Or.inl a
  by_cases b : ((lo + n : Nat) : Int) < x.toInt
  · exact Or.inr b
  exfalso
  refine h (x.toInt - (lo : Int)).toNat (by omega) ?_
  apply Int32.toInt_inj.mp
  have e : lo + (x.toInt - (lo : Int)).toNat = x.toInt.toNat := by omega
  rw [e]
  have := nI_toInt (n := x.toInt.toNat) (by omega)
  rw [show Int32.ofNat x.toInt.toNat = nI x.toInt.toNat from rfl, this]
  omega
def gcp {α : Type} (sp dp n : Int32) (n0 n1 : Nat) (x : Option α) : Option α := if ¬ sp < 0 ∧ ¬ dp < 0 ∧ ¬ n < 0 ∧ sp.toNatClampNeg + n.toNatClampNeg ≤ n0 ∧ dp.toNatClampNeg + n.toNatClampNeg ≤ n1 then x else none
theorem gcp_s {α : Type} {sp dp n : Int32} {n0 n1 : Nat} {x : Option α} {o : α} (h : gcp sp dp n n0 n1 x = some o) : (¬ sp < 0 ∧ ¬ dp < 0 ∧ ¬ n < 0 ∧ sp.toNatClampNeg + n.toNatClampNeg ≤ n0 ∧ dp.toNatClampNeg + n.toNatClampNeg ≤ n1) ∧ x = some o := by
  unfold gcp at h
  by_cases hc : ¬ sp < 0 ∧ ¬ dp < 0 ∧ ¬ n < 0 ∧ sp.toNatClampNeg + n.toNatClampNeg ≤ n0 ∧ dp.toNatClampNeg + n.toNatClampNeg ≤ n1
  · rw [if_pos hc] at h; exact ⟨hc, h⟩
  · rw [if_neg hc] at h; cases h
/-- an answer that is a cell or null -/
abbrev qq (D : va_G) (cI cZ cR : ClassId) (A : Nat → Prop) (o : Option Nat) (w' : va_W) := va_Qq (fun r (_ : Unit) => r = o) (aft D cI cZ cR A w') A
abbrev CQ (l : Launch) (y : MethodName) (ws : List Cond) (rm : Room) (D : va_G) (cI cZ cR : ClassId) (av : List Value) (wc : va_W) (sz : Nat) (o : Option Nat) (w' : va_W) : Prop := Met l y ws rm (pre D cI cZ cR av wc sz) (qq D cI cZ cR (va_A wc sz) o w') 0 0 (va_A wc sz)
def fo (v : Int32) (a : Nat) : Option Nat := if v = 0 then none else some a
theorem fo_n {v : Int32} {a : Nat} (h : v = 0) : va_rf (fo v a) = .null := by unfold fo; rw [if_pos h]; rfl
theorem fo_r {v : Int32} {a : Nat} (h : ¬ v = 0) : va_rf (fo v a) = .ref a := by unfold fo; rw [if_neg h]; rfl
section QQ
variable {p : Program} {l : Launch} {e : Env} {R : Room} {s : State} {m : MethodId} {args : Array Value} {below : List Frame} {meth : Method} {c : Code} {H : Heap} {locs : List Loc} {Q : State → Prop}
variable {D : va_G} {cI cZ cR : ClassId} {A : Nat → Prop} {cc : ByteArray} {nL : Nat} {ret : Option FieldType} {own : String} {ws : List Cond} {ww wc w' : va_W}
theorem wcallq {pc : Nat} {ls : Array Slot} {rest st0 : List Value} {a : Array Value} {o : Option Nat} (is : List Nat) (hP : va_P D vwCl ww H) (hD : va_D A ww) (hS : va_S A s.heap H locs) (hA : ∀ q, s.heap.size ≤ q → A q) (hC : is.map (fun i => ww[i]?) = wc.map some) (hf : w'.map Prod.fst = wc.map Prod.fst) (hn : va_nd is = true)
    (hr : va_Run p l e R s m args below meth c H locs 0 0 0 0 (F0 m pc ls st0) rest (qq D cI cZ cR (va_A wc H.size) o w' a) (va_A wc H.size))
    (kk : ∀ (H1 : Heap) (locs1 : List Loc), va_P D vwCl (wset ww is w') H1 → va_D A (wset ww is w') → va_S A s.heap H1 locs1 → W p l e R s m args below meth c H1 locs1 0 0 Q (F0 m (pc + 3) ls (va_rf o :: rest))) : W p l e R s m args below meth c H locs 0 0 Q (F0 m pc ls st0) := by
  have hFc := va_free (wc := wc) hD hS hA is hC
  refine va_callq hr hS (fun q _ h => hFc q h) hFc (fun r u t H1 locs1 ht hvm hw hB hz1 hk1 hS1 => ?_)
  obtain ⟨hP1, hK1, hD1⟩ := hB
  rw [ht] at hP1
  obtain ⟨hPn, hDn⟩ := wjoin hP hD is hC hf hn hk1 hP1
  subst hw
  exact kk H1 locs1 hPn hDn hS1
theorem retq {cn : String} {pc : Nat} {ls : Array Slot} {o : Option Nat} (X : cx p s m args meth c cc nL (some (.object cn)) own ws) (hK : va_K D vwCl (ty3 cI cZ cR) s) (hP : va_P D vwCl ww H) (hD : va_D A ww) (hS : va_S A s.heap H locs) (hdg : decode cc pc = .ok (.areturn, 1)) : W p l e R s m args below meth c H locs 0 0 (MQ below (qq D cI cZ cR A o ww) args s 0 0 A) (F0 m pc ls [va_rf o]) := by
  obtain ⟨hx, hb, hml, hr, hown, hts, hlocks, hN⟩ := X
  exact W.aret (v := va_rf o) hx hb hr (Or.inl ⟨cn, rfl⟩) (va_rf_or o) (fun t ht hW => ⟨⟨o, (), rfl, rfl, by rw [ht]; exact hP, va_K.moved hW.alike hK, hD⟩, hS.F ht⟩) hS.2.2 hdg
end QQ
section RUNSG
variable {p : Program} {l : Launch} {e : Env} {R : Room} {s : State} {m : MethodId} {args : Array Value} {below : List Frame} {meth : Method} {c : Code} {H : Heap} {locs : List Loc} {cells slots : Nat} {Q : State → Prop}
variable {D : va_G} {cI cZ cR : ClassId} {A : Nat → Prop} {cc : ByteArray} {nL : Nat} {ret : Option FieldType} {own : String} {ws : List Cond} {ww wc w' : va_W}
theorem wcalliG {pc : Nat} {ls : Array Slot} {rest st0 : List Value} {a : Array Value} {v : Int32} (is : List Nat) (hP : va_P D vwCl ww H) (hD : va_D A ww) (hS : va_S A s.heap H locs) (hA : ∀ q, s.heap.size ≤ q → A q) (hC : is.map (fun i => ww[i]?) = wc.map some) (hf : w'.map Prod.fst = wc.map Prod.fst) (hn : va_nd is = true)
    (hr : va_Run p l e R s m args below meth c H locs cells slots 0 0 (F0 m pc ls st0) rest (qi D cI cZ cR (va_A wc H.size) v w' a) (va_A wc H.size))
    (kk : ∀ (H1 : Heap) (locs1 : List Loc), va_P D vwCl (wset ww is w') H1 → va_D A (wset ww is w') → va_S A s.heap H1 locs1 → W p l e R s m args below meth c H1 locs1 cells slots Q (F0 m (pc + 3) ls (.int v :: rest))) : W p l e R s m args below meth c H locs cells slots Q (F0 m pc ls st0) := by
  have hFc := va_free (wc := wc) hD hS hA is hC
  refine va_calli hr hS (fun q _ h => hFc q h) hFc (fun r u t H1 locs1 ht hvm hw hB hz1 hk1 hS1 => ?_)
  obtain ⟨hP1, hK1, hD1⟩ := hB
  rw [ht] at hP1
  obtain ⟨hPn, hDn⟩ := wjoin hP hD is hC hf hn hk1 hP1
  subst hw
  exact kk H1 locs1 hPn hDn hS1
theorem wcalllG {pc : Nat} {ls : Array Slot} {rest st0 : List Value} {a : Array Value} {v : Int64} (is : List Nat) (hP : va_P D vwCl ww H) (hD : va_D A ww) (hS : va_S A s.heap H locs) (hA : ∀ q, s.heap.size ≤ q → A q) (hC : is.map (fun i => ww[i]?) = wc.map some) (hf : w'.map Prod.fst = wc.map Prod.fst) (hn : va_nd is = true)
    (hr : va_Run p l e R s m args below meth c H locs cells slots 0 0 (F0 m pc ls st0) rest (ql D cI cZ cR (va_A wc H.size) v w' a) (va_A wc H.size))
    (kk : ∀ (H1 : Heap) (locs1 : List Loc), va_P D vwCl (wset ww is w') H1 → va_D A (wset ww is w') → va_S A s.heap H1 locs1 → W p l e R s m args below meth c H1 locs1 cells slots Q (F0 m (pc + 3) ls (.long v :: rest))) : W p l e R s m args below meth c H locs cells slots Q (F0 m pc ls st0) := by
  have hFc := va_free (wc := wc) hD hS hA is hC
  refine va_calll hr hS (fun q _ h => hFc q h) hFc (fun r u t H1 locs1 ht hvm hw hB hz1 hk1 hS1 => ?_)
  obtain ⟨hP1, hK1, hD1⟩ := hB
  rw [ht] at hP1
  obtain ⟨hPn, hDn⟩ := wjoin hP hD is hC hf hn hk1 hP1
  subst hw
  exact kk H1 locs1 hPn hDn hS1
theorem wcallvG {pc : Nat} {ls : Array Slot} {rest st0 : List Value} {a : Array Value} (is : List Nat) (hP : va_P D vwCl ww H) (hD : va_D A ww) (hS : va_S A s.heap H locs) (hA : ∀ q, s.heap.size ≤ q → A q) (hC : is.map (fun i => ww[i]?) = wc.map some) (hf : w'.map Prod.fst = wc.map Prod.fst) (hn : va_nd is = true)
    (hr : va_Run p l e R s m args below meth c H locs cells slots 0 0 (F0 m pc ls st0) rest (qv D cI cZ cR (va_A wc H.size) w' a) (va_A wc H.size))
    (kk : ∀ (H1 : Heap) (locs1 : List Loc), va_P D vwCl (wset ww is w') H1 → va_D A (wset ww is w') → va_S A s.heap H1 locs1 → W p l e R s m args below meth c H1 locs1 cells slots Q (F0 m (pc + 3) ls rest)) : W p l e R s m args below meth c H locs cells slots Q (F0 m pc ls st0) := by
  have hFc := va_free (wc := wc) hD hS hA is hC
  refine va_callv hr hS (fun q _ h => hFc q h) hFc (fun u t H1 locs1 ht hvm hw hB hz1 hk1 hS1 => ?_)
  obtain ⟨hP1, hK1, hD1⟩ := hB
  rw [ht] at hP1
  obtain ⟨hPn, hDn⟩ := wjoin hP hD is hC hf hn hk1 hP1
  exact kk H1 locs1 hPn hDn hS1
variable {Qc : Array Value → State → Outcome → State → Prop} {ws2 : List Cond} {rm : Room} {y : MethodName} {bytes : ByteArray} {maxL n index : Nat} {ret2 : Option FieldType} {As rest : List Value} {C host : String} {b : Addr} {free : Addr → Prop}
theorem rnVG {ci : Nat} {q : u_T × Nat} {fs : List Value} {q0 pc : Nat} {ls : Array Slot} {st : List Value} (hcs : cells ≤ R.cells ∧ slots ≤ R.slots) (X : cx p s m args meth c cc nL ret own ws) (is : List Nat) (hK : va_K D vwCl (ty3 cI cZ cR) s) (hP : va_P D vwCl ww H) (hD : va_D A ww) (hC : is.map (fun i => ww[i]?) = wc.map some) (hnd : va_nd is = true)
    (hc : vwCl[ci]? = some (C, q)) (he : ww[q0]? = some (b, .inr (ci, fs)))
    (hM : Met l y ws2 rm (pre D cI cZ cR (.ref b :: As) wc H.size) Qc 0 0 free) (cw : CallW R s args own C index y bytes maxL ret2 ws2 rm 0 0 n) (hn : As.length = n) (hl : ls.size = nL) (hst : st = As.reverse ++ .ref b :: rest) (hW : (rest.map fun v => v.category).sum ≤ 8) (hdg : decode cc pc = .ok (.invokevirtual index, 3)) :
    va_Run p l e R s m args below meth c H locs cells slots 0 0 (F0 m pc ls st) rest (Qc (Value.ref b :: As).toArray) free := by
  obtain ⟨hx, hb, hml, hr, hown, hts, hlocks, hN⟩ := X
  exact va_runV (As := As) (rest := rest) ⟨hx, hb, hml, hown, hts⟩ hM cw ⟨pre_blind, va_recv hK hP hc he, pre_of hK hN hP hD is hC hnd⟩ rfl hn hl hst (lv_room hW) hdg hcs
theorem rnVNG {ci : Nat} {q : u_T × Nat} {fs : List Value} {q0 pc : Nat} {ls : Array Slot} {st : List Value} (hcs : cells ≤ R.cells ∧ slots ≤ R.slots) (X : cx p s m args meth c cc nL ret own ws) (is : List Nat) (hK : va_K D vwCl (ty3 cI cZ cR) s) (hP : va_P D vwCl ww H) (hD : va_D A ww) (hC : is.map (fun i => ww[i]?) = wc.map some) (hnd : va_nd is = true)
    (hc : vwCl[ci]? = some (C, q)) (he : ww[q0]? = some (b, .inr (ci, fs)))
    (hM : Met l y ws2 rm (pre D cI cZ cR (.ref b :: As) wc H.size) Qc 0 0 free) (cw : va_CN R s args own index y host bytes maxL ret2 ws2 rm 0 0 n ∧ (Cond.instanceMethod y).before args s = true ∧ (Cond.selects C y y).before args s = true) (hn : As.length = n) (hl : ls.size = nL) (hst : st = As.reverse ++ .ref b :: rest) (hW : (rest.map fun v => v.category).sum ≤ 8) (hdg : decode cc pc = .ok (.invokevirtual index, 3)) :
    va_Run p l e R s m args below meth c H locs cells slots 0 0 (F0 m pc ls st) rest (Qc (Value.ref b :: As).toArray) free := by
  obtain ⟨hx, hb, hml, hr, hown, hts, hlocks, hN⟩ := X
  exact va_runVN (As := As) (rest := rest) ⟨hx, hb, hml, hown, hts⟩ hM cw ⟨pre_blind, va_recv hK hP hc he, pre_of hK hN hP hD is hC hnd⟩ rfl hn hl hst (lv_room hW) hdg hcs
theorem rnSG {pc : Nat} {ls : Array Slot} {st : List Value} (hcs : cells ≤ R.cells ∧ slots ≤ R.slots) (X : cx p s m args meth c cc nL ret own ws) (is : List Nat) (hK : va_K D vwCl (ty3 cI cZ cR) s) (hP : va_P D vwCl ww H) (hD : va_D A ww) (hC : is.map (fun i => ww[i]?) = wc.map some) (hnd : va_nd is = true)
    (hM : Met l y ws2 rm (pre D cI cZ cR As wc H.size) Qc 0 0 free) (cw : CallB R s args own index y bytes maxL ret2 ws2 rm 0 0 n ∧ (Cond.static y).before args s = true) (hn : As.length = n) (hl : ls.size = nL) (hst : st = As.reverse ++ rest) (hW : (rest.map fun v => v.category).sum ≤ 8) (hdg : decode cc pc = .ok (.invokestatic index, 3)) :
    va_Run p l e R s m args below meth c H locs cells slots 0 0 (F0 m pc ls st) rest (Qc As.toArray) free := by
  obtain ⟨hx, hb, hml, hr, hown, hts, hlocks, hN⟩ := X
  exact va_runS (As := As) (rest := rest) ⟨hx, hb, hml, hown, hts⟩ hM cw ⟨pre_blind, pre_of hK hN hP hD is hC hnd⟩ rfl hn hl hst (lv_room hW) hdg hcs
theorem rnSNG {pc : Nat} {ls : Array Slot} {st : List Value} (hcs : cells ≤ R.cells ∧ slots ≤ R.slots) (X : cx p s m args meth c cc nL ret own ws) (is : List Nat) (hK : va_K D vwCl (ty3 cI cZ cR) s) (hP : va_P D vwCl ww H) (hD : va_D A ww) (hC : is.map (fun i => ww[i]?) = wc.map some) (hnd : va_nd is = true)
    (hM : Met l y ws2 rm (pre D cI cZ cR As wc H.size) Qc 0 0 free) (cw : va_CN R s args own index y host bytes maxL ret2 ws2 rm 0 0 n ∧ (Cond.static y).before args s = true ∧ True) (hn : As.length = n) (hl : ls.size = nL) (hst : st = As.reverse ++ rest) (hW : (rest.map fun v => v.category).sum ≤ 8) (hdg : decode cc pc = .ok (.invokestatic index, 3)) :
    va_Run p l e R s m args below meth c H locs cells slots 0 0 (F0 m pc ls st) rest (Qc As.toArray) free := by
  obtain ⟨hx, hb, hml, hr, hown, hts, hlocks, hN⟩ := X
  exact va_runSN (As := As) (rest := rest) ⟨hx, hb, hml, hown, hts⟩ hM cw ⟨pre_blind, pre_of hK hN hP hD is hC hnd⟩ rfl hn hl hst (lv_room hW) hdg hcs
end RUNSG
/-- a constructor's contract out of its walk -/
theorem met_ofN {l : Launch} {y : MethodName} {ws ws' : List Cond} {rm : Room} {mc ms : Nat} {D : va_G} {cI cZ cR : ClassId} {av : List Value} {wc : va_W} {sz : Nat} {Qf : (Nat → Prop) → Array Value → State → Outcome → State → Prop} {cc : ByteArray} {maxL : Nat} {ret : Option FieldType} (own : String)
    (hy : plainName y.cls = true) (hown : y.cls = own) (hw : ws = Cond.code y cc maxL ret :: ws') (hlen : (lg_sl av).length ≤ maxL)
    (walk : ∀ (p : Program) (e : Env) (s : State) (m : MethodId) (below : List Frame) (meth : Method) (c : Code) (A : Nat → Prop), cx p s m av.toArray meth c cc maxL ret own ws → meth.name = y.name → va_K D vwCl (ty3 cI cZ cR) s → (∀ q, s.heap.size ≤ q → A q) → va_P D vwCl wc s.heap → va_D A wc → va_S A s.heap s.heap [] → ∀ ls : Array Slot, lv_has ls maxL (lv_args 0 av) → W p l e (headSpec ws rm).room s m av.toArray below meth c s.heap [] 0 0 (MQ below (Qf A) av.toArray s mc ms A) (F0 m 0 ls [])) :
    Met l y ws rm (pre D cI cZ cR av wc sz) (Qf (va_A wc sz)) mc ms (va_A wc sz) := by
  refine Met.ofW (cc := cc) (maxL := maxL) (ret := ret) hy hw ?_
  intro p e s m args below meth c s₁ B hml hv
  obtain ⟨rfl, hsz, hP, hK, hN, hD0⟩ := hv
  have hts := atoms_spec (ws := ws) B.pre
  have hown' : s.vm.findClass own = some m.cls := hown ▸ findClass_of_methodNamed B.named
  subst hsz
  have hD := hD0.self (sz := s.heap.size)
  rw [lg_entry_eq]
  exact walk p e s m below meth c (va_A wc s.heap.size) ⟨B.exec, B.bytes, hml, B.returns, hown', hts, B.notSynchronized, hN⟩ (name_of_methodNamed B.named B.method).1 hK (fun q h => Or.inr h) hP hD va_S.rf _ (lv_entry av hlen)
theorem arr_sameI {D : va_G} {cl : List vw_C} {tys : List (ClassId × FieldType)} {s : State} {cA cB : ClassId} (hK : va_K D cl tys s) (i j : Nat) (h1 : tys[i]? = some (cA, .int)) (h2 : tys[j]? = some (cB, .int)) : cA = cB := by
  have a : s.vm.findClass _ = some cA := (hK.2 i _ h1).2
  have b : s.vm.findClass _ = some cB := (hK.2 j _ h2).2
  exact Option.some.inj (a.symm.trans b)
theorem arr_sameZ {D : va_G} {cl : List vw_C} {tys : List (ClassId × FieldType)} {s : State} {cA cB : ClassId} (hK : va_K D cl tys s) (i j : Nat) (h1 : tys[i]? = some (cA, .boolean)) (h2 : tys[j]? = some (cB, .boolean)) : cA = cB := by
  have a : s.vm.findClass _ = some cA := (hK.2 i _ h1).2
  have b : s.vm.findClass _ = some cB := (hK.2 j _ h2).2
  exact Option.some.inj (a.symm.trans b)
theorem arr_sameO {D : va_G} {cl : List vw_C} {tys : List (ClassId × FieldType)} {s : State} {cA cB : ClassId} {C : String} (hK : va_K D cl tys s) (i j : Nat) (h1 : tys[i]? = some (cA, .object C)) (h2 : tys[j]? = some (cB, .object C)) : cA = cB := by
  obtain ⟨k1, o1, a1, a2, a3, a4⟩ := (hK.2 i _ h1).2
  obtain ⟨k2, o2, b1, b2, b3, b4⟩ := (hK.2 j _ h2).2
  exact Option.some.inj (a4.symm.trans b4)
