def wtm (i : Nat) : Term := .string RX5 (wpix.getD i 0)
abbrev lw_pre : Jvm.Cond := Jvm.Cond.and given_1 narrow_1
set_option maxRecDepth 100000 in
theorem sw_ex : ∀ i : Fin 9, Cond.exactly (wtm i.1) "java/lang/String" ∈ flatC lw_pre := by decide +kernel
set_option maxRecDepth 100000 in
theorem sw_co : ∀ i : Fin 9, Cond.eq (.field (wtm i.1) "java/lang/String" "coder" "B") (.int 0) ∈ flatC lw_pre := by decide +kernel
set_option maxRecDepth 100000 in
theorem sw_ar : ∀ i : Fin 9, Cond.arrayOf (.field (wtm i.1) "java/lang/String" "value" "[B") .byte ∈ flatC lw_pre := by decide +kernel
set_option maxRecDepth 100000 in
theorem sw_le : ∀ i : Fin 9, Cond.eq (.length (.field (wtm i.1) "java/lang/String" "value" "[B")) (.int (Int32.ofNat (wlens.getD i.1 0))) ∈ flatC lw_pre := by decide +kernel
set_option maxRecDepth 100000 in
theorem sw_el : ∀ i : Fin 9, ∀ j : Fin 7, j.1 < wlens.getD i.1 0 → Cond.eq (.elem (.field (wtm i.1) "java/lang/String" "value" "[B") (.int (Int32.ofNat j.1))) (.int ((wbyts.getD i.1 []).getD j.1 0)) ∈ flatC lw_pre := by decide +kernel
set_option maxRecDepth 100000 in
theorem sw_ne : ∀ i j : Fin 9, i ≠ j → Cond.not (Cond.eq (wtm i.1) (wtm j.1)) ∈ flatC lw_pre ∨ Cond.not (Cond.eq (wtm j.1) (wtm i.1)) ∈ flatC lw_pre := by decide +kernel
set_option maxRecDepth 100000 in
theorem sw_rf : (List.range 9).map (fun i => Cond.stringRef RX5 (wpix.getD i 0) (wtxt.getD i "")) = [(2, 236), (3, 49), (3, 50), (3, 51), (3, 52), (3, 53), (3, 54), (3, 55), (3, 56)].filterMap (fun q => (ltsub q.1)[q.2]?) := by decide +kernel
theorem SW_start {s : State} {args : Array Value} (hts : ∀ w ∈ lw_tbl, w.before args s = true) (hgv : lw_pre.before args s = true) : ∃ adK adV : Nat → Nat, SW adK adV (lA s) s s.heap := by
  have hs := flat_of_before _ hgv
  have hA : ∀ a : Nat, a < s.heap.size → ¬ lA s a := fun a h q => Nat.not_le.mpr h q
  obtain ⟨adK, adV, h1, h2⟩ := vk_Sof (A := lA s) (N := 9) (tm := wtm) (len := wlens) (byt := wbyts) (fun i hi => Nat.lt_of_le_of_lt (wlen7 i) (by decide)) (fun i hi => hs _ (sw_ex ⟨i, hi⟩)) (fun i hi => hs _ (sw_co ⟨i, hi⟩)) (fun i hi => hs _ (sw_ar ⟨i, hi⟩)) (fun i hi => hs _ (sw_le ⟨i, hi⟩)) (fun i hi j hj => hs _ (sw_el ⟨i, hi⟩ ⟨j, Nat.lt_of_lt_of_le hj (wlen7 i)⟩ hj)) (fun i j hi hj hij => (sw_ne ⟨i, hi⟩ ⟨j, hj⟩ (fun e => hij (Fin.mk.inj e))).elim (fun h => Or.inl (hs _ h)) (fun h => Or.inr (hs _ h))) hA
  refine ⟨adK, adV, h1, ?_, ?_, ?_⟩
  · exact va_Zof (hts (.laysStatic "java/lang/String" "COMPACT_STRINGS" "Z") (ltsub_in 3 _ (List.mem_of_getElem? (i := 10) (by decide +kernel)))) (hts (.initialized "java/lang/String") (ltsub_in 1 _ (List.mem_of_getElem? (i := 14) (by decide +kernel)))) (va_eqi (hs (.eq (.static "java/lang/String" "COMPACT_STRINGS" "Z") (.int 1)) (by decide +kernel))) hA
  · exact va_Zqof (hts (.laysStatic "jdk/internal/util/Preconditions" "SIOOBE_FORMATTER" "Ljava/util/function/BiFunction;") (ltsub_in 3 _ (List.mem_of_getElem? (i := 26) (by decide +kernel)))) (hts (.initialized "jdk/internal/util/Preconditions") (ltsub_in 1 _ (List.mem_of_getElem? (i := 16) (by decide +kernel)))) (hs (.isRef (.static "jdk/internal/util/Preconditions" "SIOOBE_FORMATTER" "Ljava/util/function/BiFunction;")) (by decide +kernel)) hA
  · intro i hi
    refine vk_R.of (A := args) (hts _ (mem_p sw_rf i (List.mem_range.mpr hi))) ?_
    exact h2 i hi
