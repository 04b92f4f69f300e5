set_option maxRecDepth 100000 in
theorem nestF_p : nestF.map (fun q => Cond.fieldLinkNest q.1 q.2.1 q.2.2.1 q.2.2.2.1 q.2.2.2.2.1 q.2.2.2.2.2) = [(1, 70), (1, 94), (1, 99), (1, 101), (1, 207), (1, 170), (1, 162), (2, 35), (2, 39), (2, 41), (2, 43), (2, 37), (1, 185), (1, 167), (1, 43), (1, 165), (1, 71), (1, 95), (1, 91), (1, 166), (1, 69), (1, 73), (1, 168), (1, 161), (1, 164)].filterMap (fun q => (ltsub q.1)[q.2]?) := by decide +kernel
set_option maxRecDepth 100000 in
theorem nestM_p : nestM.map (fun q => Cond.methodLinkNest q.1 q.2.1 q.2.2.1 q.2.2.2) = [(1, 32), (1, 62), (1, 85), (1, 149), (1, 198), (1, 217), (2, 30), (2, 57), (4, 232), (5, 1), (5, 24), (1, 203), (3, 218), (3, 207), (3, 217), (4, 198), (4, 207), (2, 144), (4, 184), (2, 184), (4, 103), (3, 75), (1, 155), (3, 158), (3, 197), (2, 171), (2, 196), (3, 152), (3, 153), (4, 1), (4, 59), (4, 61), (4, 74)].filterMap (fun q => (ltsub q.1)[q.2]?) := by decide +kernel
theorem mem_p {α : Type} {f : α → Cond} {l : List α} {ps : List (Nat × Nat)} (h : l.map f = ps.filterMap (fun q => (ltsub q.1)[q.2]?)) : ∀ q ∈ l, f q ∈ lw_tbl := by
  intro q hq
  have h1 : f q ∈ l.map f := List.mem_map.mpr ⟨q, hq, rfl⟩
  rw [h] at h1
  obtain ⟨i, -, hi⟩ := List.mem_filterMap.mp h1
  exact ltsub_in i.1 _ (List.mem_of_getElem? hi)
theorem NN_start {s : State} {args : Array Value} (hts : ∀ w ∈ lw_tbl, w.before args s = true) : NN s :=
  ⟨fun q hq => va_Nw.of rfl (hts _ (mem_p nestF_p q hq)), fun q hq => va_Nw.of rfl (hts _ (mem_p nestM_p q hq)), va_AO.of (hts (.arrayOver (.object "DivisionHall$Rule")) (ltsub_in 1 _ (List.mem_of_getElem? (i := 147) (by decide +kernel))))⟩
set_option maxRecDepth 100000 in
theorem K_start {s : State} {args : Array Value} (hts : ∀ w ∈ lw_tbl, w.before args s = true) : ∃ (D : va_G) (cI cZ cR : ClassId), va_K D vwCl (ty3 cI cZ cR) s := by
  obtain ⟨c0, i0, k0⟩ := u_known (C := RX0) (T := TX0) (N := 9) (n := 9) hts (fun w h => (ltbX0 w h).1) (hts (.instantiable RX0 9) (ltsub_in 2 _ (List.mem_of_getElem? (i := 56) (by decide +kernel))))
  obtain ⟨c1, i1, k1⟩ := u_known (C := RX1) (T := TX1) (N := 3) (n := 3) hts (fun w h => (ltbX1 w h).1) (hts (.instantiable RX1 3) (ltsub_in 1 _ (List.mem_of_getElem? (i := 197) (by decide +kernel))))
  obtain ⟨c2, i2, k2⟩ := u_known (C := RX2) (T := TX2) (N := 5) (n := 5) hts (fun w h => (ltbX2 w h).1) (hts (.instantiable RX2 5) (ltsub_in 2 _ (List.mem_of_getElem? (i := 29) (by decide +kernel))))
  obtain ⟨c3, i3, k3⟩ := u_known (C := RX3) (T := TX3) (N := 7) (n := 7) hts (fun w h => (ltbX3 w h).1) (hts (.instantiable RX3 7) (ltsub_in 1 _ (List.mem_of_getElem? (i := 31) (by decide +kernel))))
  obtain ⟨c4, i4, k4⟩ := u_known (C := RX4) (T := TX4) (N := 7) (n := 7) hts (fun w h => (ltbX4 w h).1) (hts (.instantiable RX4 7) (ltsub_in 1 _ (List.mem_of_getElem? (i := 238) (by decide +kernel))))
  obtain ⟨c5, i5, k5⟩ := u_known (C := RX5) (T := TX5) (N := 17) (n := 17) hts (fun w h => (ltbX5 w h).1) (hts (.instantiable RX5 17) (ltsub_in 1 _ (List.mem_of_getElem? (i := 84) (by decide +kernel))))
  obtain ⟨c6, i6, k6⟩ := u_known (C := RX6) (T := TX6) (N := 4) (n := 4) hts (fun w h => (ltbX6 w h).1) (hts (.instantiable RX6 4) (ltsub_in 1 _ (List.mem_of_getElem? (i := 148) (by decide +kernel))))
  obtain ⟨c7, i7, k7⟩ := u_known (C := RX7) (T := TX7) (N := 4) (n := 4) hts (fun w h => (ltbX7 w h).1) (hts (.instantiable RX7 4) (ltsub_in 1 _ (List.mem_of_getElem? (i := 61) (by decide +kernel))))
  obtain ⟨c8, i8, k8⟩ := u_known (C := RX9) (T := TX9) (N := 5) (n := 5) hts (fun w h => (ltbX9 w h).1) (hts (.instantiable RX9 5) (ltsub_in 1 _ (List.mem_of_getElem? (i := 154) (by decide +kernel))))
  obtain ⟨c9, i9, k9⟩ := u_known (C := RX10) (T := TX10) (N := 5) (n := 5) hts (fun w h => (ltbX10 w h).1) (hts (.instantiable RX10 5) (ltsub_in 1 _ (List.mem_of_getElem? (i := 216) (by decide +kernel))))
  obtain ⟨c10, i10, k10⟩ := u_known (C := RX11) (T := TX11) (N := 13) (n := 13) hts (fun w h => (ltbX11 w h).1) (hts (.instantiable RX11 13) (ltsub_in 1 _ (List.mem_of_getElem? (i := 23) (by decide +kernel))))
  obtain ⟨c11, i11, k11⟩ := u_known (C := RX12) (T := TX12) (N := 52) (n := 52) hts (fun w h => (ltbX12 w h).1) (hts (.instantiable RX12 52) (ltsub_in 5 _ (List.mem_of_getElem? (i := 54) (by decide +kernel))))
  obtain ⟨cI, kI, mI, a1, a2, a3⟩ := Cond.arrayClass_spec (hts (.arrayClass .int) (ltsub_in 1 _ (List.mem_of_getElem? (i := 59) (by decide +kernel))))
  obtain ⟨cZ, kZ, mZ, b1, b2, b3⟩ := Cond.arrayClass_spec (hts (.arrayClass .boolean) (ltsub_in 5 _ (List.mem_of_getElem? (i := 217) (by decide +kernel))))
  obtain ⟨mR, cR, kR, f1, f2, f3, f4, f5⟩ := Cond.arrayOver_spec (hts (.arrayOver (.object "DivisionHall$Rule")) (ltsub_in 1 _ (List.mem_of_getElem? (i := 147) (by decide +kernel))))
  refine ⟨(fun k => match k with | 0 => c0 | 1 => c1 | 2 => c2 | 3 => c3 | 4 => c4 | 5 => c5 | 6 => c6 | 7 => c7 | 8 => c8 | 9 => c9 | 10 => c10 | _ => c11, fun k => match k with | 0 => i0 | 1 => i1 | 2 => i2 | 3 => i3 | 4 => i4 | 5 => i5 | 6 => i6 | 7 => i7 | 8 => i8 | 9 => i9 | 10 => i10 | _ => i11), cI, cZ, cR, ?_, ?_⟩
  · intro k q hq
    match k, hq with
    | 0, hq => cases hq; exact k0
    | 1, hq => cases hq; exact k1
    | 2, hq => cases hq; exact k2
    | 3, hq => cases hq; exact k3
    | 4, hq => cases hq; exact k4
    | 5, hq => cases hq; exact k5
    | 6, hq => cases hq; exact k6
    | 7, hq => cases hq; exact k7
    | 8, hq => cases hq; exact k8
    | 9, hq => cases hq; exact k9
    | 10, hq => cases hq; exact k10
    | 11, hq => cases hq; exact k11
    | k + 12, hq => simp at hq
  · intro k q hq
    match k, hq with
    | 0, hq => cases hq; exact ⟨fun n z => ⟨(fun k h => by cases h), kI, a2, mI, a3⟩, a1⟩
    | 1, hq => cases hq; exact ⟨fun n z => ⟨(fun k h => by cases h), kZ, b2, mZ, b3⟩, b1⟩
    | 2, hq => cases hq; exact ⟨fun n z => ⟨(fun k h => by cases h), kR, f3, mR, f4⟩, kR, mR, f3, f4, f1, f5⟩
    | k + 3, hq => simp at hq
