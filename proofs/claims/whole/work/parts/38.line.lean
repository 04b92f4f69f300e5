abbrev wd_X2_greatest (cI cZ cR : ClassId) (a_t a_t_place : Nat) (t_count t_bestSet t_bestSpan t_bestWeight : Int32) (t_place_r : Nat → Int32) : va_W := [(a_t, oB 2 [.ref a_t_place, .int t_count, .int t_bestSet, .int t_bestSpan, .int t_bestWeight]), (a_t_place, aI cI 6 t_place_r)]
set_option maxRecDepth 100000 in
theorem in_X2_greatest_X2 : ∀ w ∈ wsX20, w ∈ wsX2_greatest := by decide +kernel
set_option maxHeartbeats 4000000 in
set_option maxRecDepth 100000 in
theorem w_X2_greatest_4 {p : Program} {l : Launch} {e : Env} {s : State} {m : MethodId} {args : Array Value} {below : List Frame} {meth : Method} {c : Code} {D : va_G} {cI cZ cR : ClassId} {A : Nat → Prop} {a_t a_t_place : Nat} {t_count : Int32} {t_bestSet : Int32} {t_bestSpan : Int32} {t_bestWeight : Int32} {t_place_r : Nat → Int32} {x1 : Int32} {out : Int32} (X : cx p s m args meth c cX2_greatest 4 (some .int) RX2 wsX2_greatest) (hK : va_K D vwCl (ty3 cI cZ cR) s) (hA : ∀ q, s.heap.size ≤ q → A q) : ∀ (n : Nat) (x2 : Int32) (x3 : Int32), F_X2_greatest_4 x1 t_place_r n x2 x3 = some out → ∀ (H : Heap) (locs : List Loc), va_P D vwCl (wd_X2_greatest cI cZ cR a_t a_t_place t_count t_bestSet t_bestSpan t_bestWeight t_place_r) H → va_D A (wd_X2_greatest cI cZ cR a_t a_t_place t_count t_bestSet t_bestSpan t_bestWeight t_place_r) → va_S A s.heap H locs → ∀ (ls : Array Slot), lv_has ls 4 [(0, .ref a_t), (1, .int x1), (2, .int x2), (3, .int x3)] → W p l e (headSpec wsX2_greatest ({ frames := 1, cells := 0, slots := 0, locals := 38 } : Room)).room s m args below meth c H locs 0 0 (MQ below (qi D cI cZ cR A (out) (wd_X2_greatest cI cZ cR a_t a_t_place t_count t_bestSet t_bestSpan t_bestWeight t_place_r)) args s 0 0 A) (F0 m 4 ls []) := by
  obtain ⟨hx, hb, hml, hr, hown, hts, hlocks, hN⟩ := id X
  intro n
  induction n with
  | zero =>
    intro x2 x3 hf
    cases (show (none : Option (Int32)) = some out from hf)
  | succ n ih =>
    intro x2 x3 hf H locs hP hD hS ls hl
    rw [F_X2_greatest_4] at hf
    refine lv_iload_n hx hb dX2_greatest_4 rfl (lv_at hl 3 rfl) ?_
    refine lv_bipush (v := (6 : Int32)) hx hb dX2_greatest_5 (by decide) ?_
    refine lv_icmp_ge (tgt := 35) hx hb dX2_greatest_7 (by decide) (fun c1 => ?_) (fun c1 => ?_)
    · have hf := ipos c1 hf
      refine lv_iload_n hx hb dX2_greatest_35 rfl (lv_at hl 2 rfl) ?_
      cases hf
      exact reti X hK hP hD hS dX2_greatest_36
    · have hf := ineg c1 hf
      refine lv_iload_n hx hb dX2_greatest_10 rfl (lv_at hl 1 rfl) ?_
      refine lv_iload_n hx hb dX2_greatest_11 rfl (lv_at hl 3 rfl) ?_
      obtain ⟨r2, hr3, hf⟩ := bnd hf
      refine wcalli (D := D) (cI := cI) (cZ := cZ) (cR := cR) (wc := (wd_X11_has cI cZ cR)) (w' := (wd_X11_has cI cZ cR)) [] hP hD hS hA rfl rfl rfl (rnSN (As := [.int x1, .int x3]) X [] hK hP hD rfl rfl (c_X11_has l D cI cZ cR hr3) ⟨va_cnB (host := "DivisionHall") 2 hts ggX2_greatest_X11_has rfl rfl rfl (hN.2.1 ("DivisionHall$Line", 64, yX11_has, "DivisionHall") (by decide +kernel)) (hts (.initialized RX11) (by decide +kernel)) (by decide +kernel) ⟨Nat.le_of_ble_eq_true rfl, Nat.le_of_ble_eq_true rfl⟩, hts (.static yX11_has) (by decide +kernel), trivial⟩ rfl hl.1 rfl (Nat.le_of_ble_eq_true rfl) dX2_greatest_12) (fun H locs hP hD hS => ?_)
      have hP : va_P D vwCl (wd_X2_greatest cI cZ cR a_t a_t_place t_count t_bestSet t_bestSpan t_bestWeight t_place_r) H := hP
      have hD : va_D A (wd_X2_greatest cI cZ cR a_t a_t_place t_count t_bestSet t_bestSpan t_bestWeight t_place_r) := hD
      refine lv_if_eq (tgt := 29) hx hb dX2_greatest_15 (by decide) (fun c4 => ?_) (fun c4 => ?_)
      · have hf := ipos c4 hf
        refine lv_iinc (v := (x3 + (1 : Int32))) (lv' := [(3, .int (x3 + (1 : Int32))), (0, .ref a_t), (1, .int x1), (2, .int x2)]) hx hb dX2_greatest_29 hl (k := 3) rfl rfl (by decide) rfl (fun ls hl => ?_)
        refine lv_goto (tgt := 4) hx hb dX2_greatest_32 (by decide) ?_
        exact ih x2 (x3 + (1 : Int32)) hf _ _ hP hD hS _ (lv_sub hl [1, 2, 3, 0] rfl)
      · have hf := ineg c4 hf
        refine lv_iload_n hx hb dX2_greatest_18 rfl (lv_at hl 2 rfl) ?_
        refine lv_aload_n hx hb dX2_greatest_19 rfl (lv_at hl 0 rfl) ?_
        refine va_get (D := D) (ci := 2) (v := .ref a_t_place) (C := RX2) (T := TX2) (N := 5) hx hb hts in_X2_greatest_X2 hown hK hP 0 rfl rfl 0 (by decide) (hts (.fieldLink RX2 9 "DivisionHall$Line" "place" "[I") (by decide +kernel)) (fun _ h9 => h9) rfl dX2_greatest_20 ?_
        refine lv_iload_n hx hb dX2_greatest_23 rfl (lv_at hl 3 rfl) ?_
        obtain ⟨hi5, hf⟩ := gin_s hf
        refine va_iald hx hb hK hP 1 0 rfl rfl hi5 dX2_greatest_24 ?_
        refine va_mmax hx hb (hml.trans hl.1.symm) hown (hts (.methodLink RX2 73 Lib.Math.max.name) (by decide +kernel)) (hts (.static Lib.Math.max.name) (by decide +kernel)) (hts (.initialized "java/lang/Math") (by decide +kernel)) (hts (.code Lib.Math.max.name Lib.Math.max.code 2 (some .int)) (by decide +kernel)) (Nat.le_of_ble_eq_true rfl) (Nat.le_of_ble_eq_true rfl) (Nat.zero_le _) (Nat.zero_le _) dX2_greatest_25 ?_
        refine lv_istore_n (lv' := [(2, .int (if x2 < (t_place_r (x3).toNatClampNeg) then (t_place_r (x3).toNatClampNeg) else x2)), (0, .ref a_t), (1, .int x1), (3, .int x3)]) hx hb dX2_greatest_28 rfl hl (by decide) rfl (fun ls hl => ?_)
        refine lv_iinc (v := (x3 + (1 : Int32))) (lv' := [(3, .int (x3 + (1 : Int32))), (2, .int (if x2 < (t_place_r (x3).toNatClampNeg) then (t_place_r (x3).toNatClampNeg) else x2)), (0, .ref a_t), (1, .int x1)]) hx hb dX2_greatest_29 hl (k := 3) rfl rfl (by decide) rfl (fun ls hl => ?_)
        refine lv_goto (tgt := 4) hx hb dX2_greatest_32 (by decide) ?_
        exact ih (if x2 < (t_place_r (x3).toNatClampNeg) then (t_place_r (x3).toNatClampNeg) else x2) (x3 + (1 : Int32)) hf _ _ hP hD hS _ (lv_sub hl [2, 3, 1, 0] rfl)
set_option maxHeartbeats 4000000 in
set_option maxRecDepth 100000 in
theorem c_X2_greatest (l : Launch) (D : va_G) (cI cZ cR : ClassId) {a_t a_t_place : Nat} {t_count : Int32} {t_bestSet : Int32} {t_bestSpan : Int32} {t_bestWeight : Int32} {t_place_r : Nat → Int32} {x1 : Int32} {sz : Nat} {out : Int32} (hf : F_X2_greatest x1 t_place_r = some out) : CI l yX2_greatest wsX2_greatest ({ frames := 1, cells := 0, slots := 0, locals := 38 } : Room) D cI cZ cR [.ref a_t, .int x1] (wd_X2_greatest cI cZ cR a_t a_t_place t_count t_bestSet t_bestSpan t_bestWeight t_place_r) sz (out) (wd_X2_greatest cI cZ cR a_t a_t_place t_count t_bestSet t_bestSpan t_bestWeight t_place_r) := by
  refine met_of (Qf := fun A => qi D cI cZ cR A (out) (wd_X2_greatest cI cZ cR a_t a_t_place t_count t_bestSet t_bestSpan t_bestWeight t_place_r)) RX2 (by decide +kernel) rfl rfl (Nat.le_of_ble_eq_true rfl) ?_
  intro p e s m below meth c A X hK hA hP hD hS ls hl
  have hl : lv_has ls 4 [(0, .ref a_t), (1, .int x1)] := hl
  obtain ⟨hx, hb, hml, hr, hown, hts, hlocks, hN⟩ := id X
  unfold F_X2_greatest at hf
  refine lv_iconst (v := (0 : Int32)) hx hb dX2_greatest_0 (by decide) ?_
  refine lv_istore_n (lv' := [(2, .int (0 : Int32)), (0, .ref a_t), (1, .int x1)]) hx hb dX2_greatest_1 rfl hl (by decide) rfl (fun ls hl => ?_)
  refine lv_iconst (v := (0 : Int32)) hx hb dX2_greatest_2 (by decide) ?_
  refine lv_istore_n (lv' := [(3, .int (0 : Int32)), (2, .int (0 : Int32)), (0, .ref a_t), (1, .int x1)]) hx hb dX2_greatest_3 rfl hl (by decide) rfl (fun ls hl => ?_)
  exact w_X2_greatest_4 X hK hA _ (0 : Int32) (0 : Int32) hf _ _ hP hD hS _ (lv_sub hl [2, 3, 1, 0] rfl)

abbrev wd_X2_smallest (cI cZ cR : ClassId) (a_t a_t_place : Nat) (t_count t_bestSet t_bestSpan t_bestWeight : Int32) (t_place_r : Nat → Int32) : va_W := [(a_t, oB 2 [.ref a_t_place, .int t_count, .int t_bestSet, .int t_bestSpan, .int t_bestWeight]), (a_t_place, aI cI 6 t_place_r)]
set_option maxRecDepth 100000 in
theorem in_X2_smallest_X2 : ∀ w ∈ wsX20, w ∈ wsX2_smallest := by decide +kernel
set_option maxHeartbeats 4000000 in
set_option maxRecDepth 100000 in
theorem w_X2_smallest_5 {p : Program} {l : Launch} {e : Env} {s : State} {m : MethodId} {args : Array Value} {below : List Frame} {meth : Method} {c : Code} {D : va_G} {cI cZ cR : ClassId} {A : Nat → Prop} {a_t a_t_place : Nat} {t_count : Int32} {t_bestSet : Int32} {t_bestSpan : Int32} {t_bestWeight : Int32} {t_place_r : Nat → Int32} {x1 : Int32} {out : Int32} (X : cx p s m args meth c cX2_smallest 4 (some .int) RX2 wsX2_smallest) (hK : va_K D vwCl (ty3 cI cZ cR) s) (hA : ∀ q, s.heap.size ≤ q → A q) : ∀ (n : Nat) (x2 : Int32) (x3 : Int32), F_X2_smallest_5 x1 t_place_r n x2 x3 = some out → ∀ (H : Heap) (locs : List Loc), va_P D vwCl (wd_X2_smallest cI cZ cR a_t a_t_place t_count t_bestSet t_bestSpan t_bestWeight t_place_r) H → va_D A (wd_X2_smallest cI cZ cR a_t a_t_place t_count t_bestSet t_bestSpan t_bestWeight t_place_r) → va_S A s.heap H locs → ∀ (ls : Array Slot), lv_has ls 4 [(0, .ref a_t), (1, .int x1), (2, .int x2), (3, .int x3)] → W p l e (headSpec wsX2_smallest ({ frames := 1, cells := 0, slots := 0, locals := 38 } : Room)).room s m args below meth c H locs 0 0 (MQ below (qi D cI cZ cR A (out) (wd_X2_smallest cI cZ cR a_t a_t_place t_count t_bestSet t_bestSpan t_bestWeight t_place_r)) args s 0 0 A) (F0 m 5 ls []) := by
  obtain ⟨hx, hb, hml, hr, hown, hts, hlocks, hN⟩ := id X
  intro n
  induction n with
  | zero =>
    intro x2 x3 hf
    cases (show (none : Option (Int32)) = some out from hf)
  | succ n ih =>
    intro x2 x3 hf H locs hP hD hS ls hl
    rw [F_X2_smallest_5] at hf
    refine lv_iload_n hx hb dX2_smallest_5 rfl (lv_at hl 3 rfl) ?_
    refine lv_bipush (v := (6 : Int32)) hx hb dX2_smallest_6 (by decide) ?_
    refine lv_icmp_ge (tgt := 36) hx hb dX2_smallest_8 (by decide) (fun c1 => ?_) (fun c1 => ?_)
    · have hf := ipos c1 hf
      refine lv_iload_n hx hb dX2_smallest_36 rfl (lv_at hl 2 rfl) ?_
      cases hf
      exact reti X hK hP hD hS dX2_smallest_37
    · have hf := ineg c1 hf
      refine lv_iload_n hx hb dX2_smallest_11 rfl (lv_at hl 1 rfl) ?_
      refine lv_iload_n hx hb dX2_smallest_12 rfl (lv_at hl 3 rfl) ?_
      obtain ⟨r2, hr3, hf⟩ := bnd hf
      refine wcalli (D := D) (cI := cI) (cZ := cZ) (cR := cR) (wc := (wd_X11_has cI cZ cR)) (w' := (wd_X11_has cI cZ cR)) [] hP hD hS hA rfl rfl rfl (rnSN (As := [.int x1, .int x3]) X [] hK hP hD rfl rfl (c_X11_has l D cI cZ cR hr3) ⟨va_cnB (host := "DivisionHall") 2 hts ggX2_smallest_X11_has rfl rfl rfl (hN.2.1 ("DivisionHall$Line", 64, yX11_has, "DivisionHall") (by decide +kernel)) (hts (.initialized RX11) (by decide +kernel)) (by decide +kernel) ⟨Nat.le_of_ble_eq_true rfl, Nat.le_of_ble_eq_true rfl⟩, hts (.static yX11_has) (by decide +kernel), trivial⟩ rfl hl.1 rfl (Nat.le_of_ble_eq_true rfl) dX2_smallest_13) (fun H locs hP hD hS => ?_)
      have hP : va_P D vwCl (wd_X2_smallest cI cZ cR a_t a_t_place t_count t_bestSet t_bestSpan t_bestWeight t_place_r) H := hP
      have hD : va_D A (wd_X2_smallest cI cZ cR a_t a_t_place t_count t_bestSet t_bestSpan t_bestWeight t_place_r) := hD
      refine lv_if_eq (tgt := 30) hx hb dX2_smallest_16 (by decide) (fun c4 => ?_) (fun c4 => ?_)
      · have hf := ipos c4 hf
        refine lv_iinc (v := (x3 + (1 : Int32))) (lv' := [(3, .int (x3 + (1 : Int32))), (0, .ref a_t), (1, .int x1), (2, .int x2)]) hx hb dX2_smallest_30 hl (k := 3) rfl rfl (by decide) rfl (fun ls hl => ?_)
        refine lv_goto (tgt := 5) hx hb dX2_smallest_33 (by decide) ?_
        exact ih x2 (x3 + (1 : Int32)) hf _ _ hP hD hS _ (lv_sub hl [1, 2, 3, 0] rfl)
      · have hf := ineg c4 hf
        refine lv_iload_n hx hb dX2_smallest_19 rfl (lv_at hl 2 rfl) ?_
        refine lv_aload_n hx hb dX2_smallest_20 rfl (lv_at hl 0 rfl) ?_
        refine va_get (D := D) (ci := 2) (v := .ref a_t_place) (C := RX2) (T := TX2) (N := 5) hx hb hts in_X2_smallest_X2 hown hK hP 0 rfl rfl 0 (by decide) (hts (.fieldLink RX2 9 "DivisionHall$Line" "place" "[I") (by decide +kernel)) (fun _ h9 => h9) rfl dX2_smallest_21 ?_
        refine lv_iload_n hx hb dX2_smallest_24 rfl (lv_at hl 3 rfl) ?_
        obtain ⟨hi5, hf⟩ := gin_s hf
        refine va_iald hx hb hK hP 1 0 rfl rfl hi5 dX2_smallest_25 ?_
        refine va_mmin hx hb (hml.trans hl.1.symm) hown (hts (.methodLink RX2 67 Lib.Math.min.name) (by decide +kernel)) (hts (.static Lib.Math.min.name) (by decide +kernel)) (hts (.initialized "java/lang/Math") (by decide +kernel)) (hts (.code Lib.Math.min.name Lib.Math.min.code 2 (some .int)) (by decide +kernel)) (Nat.le_of_ble_eq_true rfl) (Nat.le_of_ble_eq_true rfl) (Nat.zero_le _) (Nat.zero_le _) dX2_smallest_26 ?_
        refine lv_istore_n (lv' := [(2, .int (if (t_place_r (x3).toNatClampNeg) < x2 then (t_place_r (x3).toNatClampNeg) else x2)), (0, .ref a_t), (1, .int x1), (3, .int x3)]) hx hb dX2_smallest_29 rfl hl (by decide) rfl (fun ls hl => ?_)
        refine lv_iinc (v := (x3 + (1 : Int32))) (lv' := [(3, .int (x3 + (1 : Int32))), (2, .int (if (t_place_r (x3).toNatClampNeg) < x2 then (t_place_r (x3).toNatClampNeg) else x2)), (0, .ref a_t), (1, .int x1)]) hx hb dX2_smallest_30 hl (k := 3) rfl rfl (by decide) rfl (fun ls hl => ?_)
        refine lv_goto (tgt := 5) hx hb dX2_smallest_33 (by decide) ?_
        exact ih (if (t_place_r (x3).toNatClampNeg) < x2 then (t_place_r (x3).toNatClampNeg) else x2) (x3 + (1 : Int32)) hf _ _ hP hD hS _ (lv_sub hl [2, 3, 1, 0] rfl)
set_option maxHeartbeats 4000000 in
set_option maxRecDepth 100000 in
theorem c_X2_smallest (l : Launch) (D : va_G) (cI cZ cR : ClassId) {a_t a_t_place : Nat} {t_count : Int32} {t_bestSet : Int32} {t_bestSpan : Int32} {t_bestWeight : Int32} {t_place_r : Nat → Int32} {x1 : Int32} {sz : Nat} {out : Int32} (hf : F_X2_smallest x1 t_place_r = some out) : CI l yX2_smallest wsX2_smallest ({ frames := 1, cells := 0, slots := 0, locals := 38 } : Room) D cI cZ cR [.ref a_t, .int x1] (wd_X2_smallest cI cZ cR a_t a_t_place t_count t_bestSet t_bestSpan t_bestWeight t_place_r) sz (out) (wd_X2_smallest cI cZ cR a_t a_t_place t_count t_bestSet t_bestSpan t_bestWeight t_place_r) := by
  refine met_of (Qf := fun A => qi D cI cZ cR A (out) (wd_X2_smallest cI cZ cR a_t a_t_place t_count t_bestSet t_bestSpan t_bestWeight t_place_r)) RX2 (by decide +kernel) rfl rfl (Nat.le_of_ble_eq_true rfl) ?_
  intro p e s m below meth c A X hK hA hP hD hS ls hl
  have hl : lv_has ls 4 [(0, .ref a_t), (1, .int x1)] := hl
  obtain ⟨hx, hb, hml, hr, hown, hts, hlocks, hN⟩ := id X
  unfold F_X2_smallest at hf
  refine lv_bipush (v := (100 : Int32)) hx hb dX2_smallest_0 (by decide) ?_
  refine lv_istore_n (lv' := [(2, .int (100 : Int32)), (0, .ref a_t), (1, .int x1)]) hx hb dX2_smallest_2 rfl hl (by decide) rfl (fun ls hl => ?_)
  refine lv_iconst (v := (0 : Int32)) hx hb dX2_smallest_3 (by decide) ?_
  refine lv_istore_n (lv' := [(3, .int (0 : Int32)), (2, .int (100 : Int32)), (0, .ref a_t), (1, .int x1)]) hx hb dX2_smallest_4 rfl hl (by decide) rfl (fun ls hl => ?_)
  exact w_X2_smallest_5 X hK hA _ (100 : Int32) (0 : Int32) hf _ _ hP hD hS _ (lv_sub hl [2, 3, 1, 0] rfl)

abbrev wd_X2_hangsTogether (cI cZ cR : ClassId) (a_t a_t_place : Nat) (t_count t_bestSet t_bestSpan t_bestWeight : Int32) (t_place_r : Nat → Int32) : va_W := [(a_t, oB 2 [.ref a_t_place, .int t_count, .int t_bestSet, .int t_bestSpan, .int t_bestWeight]), (a_t_place, aI cI 6 t_place_r)]
set_option maxRecDepth 100000 in
theorem in_X2_hangsTogether_X2 : ∀ w ∈ wsX20, w ∈ wsX2_hangsTogether := by decide +kernel
set_option maxHeartbeats 4000000 in
set_option maxRecDepth 100000 in
theorem w_X2_hangsTogether_16 {p : Program} {l : Launch} {e : Env} {s : State} {m : MethodId} {args : Array Value} {below : List Frame} {meth : Method} {c : Code} {D : va_G} {cI cZ cR : ClassId} {A : Nat → Prop} {a_t a_t_place : Nat} {t_count : Int32} {t_bestSet : Int32} {t_bestSpan : Int32} {t_bestWeight : Int32} {t_place_r : Nat → Int32} {x1 : Int32} {x2 : Int32} {out : Int32} (X : cx p s m args meth c cX2_hangsTogether 6 (some .boolean) RX2 wsX2_hangsTogether) (hK : va_K D vwCl (ty3 cI cZ cR) s) (hA : ∀ q, s.heap.size ≤ q → A q) : ∀ (n : Nat) (x3 : Int32) (x4 : Int32) (x5 : Int32), F_X2_hangsTogether_16 x1 x2 t_place_r n x3 x4 x5 = some out → ∀ (H : Heap) (locs : List Loc), va_P D vwCl (wd_X2_hangsTogether cI cZ cR a_t a_t_place t_count t_bestSet t_bestSpan t_bestWeight t_place_r) H → va_D A (wd_X2_hangsTogether cI cZ cR a_t a_t_place t_count t_bestSet t_bestSpan t_bestWeight t_place_r) → va_S A s.heap H locs → ∀ (ls : Array Slot), lv_has ls 6 [(0, .ref a_t), (1, .int x1), (2, .int x2), (3, .int x3), (4, .int x4), (5, .int x5)] → W p l e (headSpec wsX2_hangsTogether ({ frames := 2, cells := 0, slots := 0, locals := 61 } : Room)).room s m args below meth c H locs 0 0 (MQ below (qi D cI cZ cR A (out) (wd_X2_hangsTogether cI cZ cR a_t a_t_place t_count t_bestSet t_bestSpan t_bestWeight t_place_r)) args s 0 0 A) (F0 m 16 ls []) := by
  obtain ⟨hx, hb, hml, hr, hown, hts, hlocks, hN⟩ := id X
  intro n
  induction n with
  | zero =>
    intro x3 x4 x5 hf
    cases (show (none : Option (Int32)) = some out from hf)
  | succ n ih =>
    intro x3 x4 x5 hf H locs hP hD hS ls hl
    rw [F_X2_hangsTogether_16] at hf
    refine lv_iload hx hb dX2_hangsTogether_16 (lv_at hl 5 rfl) ?_
    refine lv_bipush (v := (6 : Int32)) hx hb dX2_hangsTogether_18 (by decide) ?_
    refine lv_icmp_ge (tgt := 67) hx hb dX2_hangsTogether_20 (by decide) (fun c5 => ?_) (fun c5 => ?_)
    · have hf := ipos c5 hf
      refine lv_iconst (v := (1 : Int32)) hx hb dX2_hangsTogether_67 (by decide) ?_
      cases hf
      exact retz (Or.inr rfl) X hK hP hD hS dX2_hangsTogether_68
    · have hf := ineg c5 hf
      refine lv_iload_n hx hb dX2_hangsTogether_23 rfl (lv_at hl 2 rfl) ?_
      refine lv_iload_n hx hb dX2_hangsTogether_24 rfl (lv_at hl 1 rfl) ?_
      refine lv_iconst (v := (-1 : Int32)) hx hb dX2_hangsTogether_25 (by decide) ?_
      refine lv_ixor hx hb dX2_hangsTogether_26 ?_
      refine lv_iand hx hb dX2_hangsTogether_27 ?_
      refine lv_iload hx hb dX2_hangsTogether_28 (lv_at hl 5 rfl) ?_
      obtain ⟨r6, hr7, hf⟩ := bnd hf
      refine wcalli (D := D) (cI := cI) (cZ := cZ) (cR := cR) (wc := (wd_X11_has cI cZ cR)) (w' := (wd_X11_has cI cZ cR)) [] hP hD hS hA rfl rfl rfl (rnSN (As := [.int (x2 &&& (x1 ^^^ (-1 : Int32))), .int x5]) X [] hK hP hD rfl rfl (c_X11_has l D cI cZ cR hr7) ⟨va_cnB (host := "DivisionHall") 2 hts ggX2_hangsTogether_X11_has rfl rfl rfl (hN.2.1 ("DivisionHall$Line", 64, yX11_has, "DivisionHall") (by decide +kernel)) (hts (.initialized RX11) (by decide +kernel)) (by decide +kernel) ⟨Nat.le_of_ble_eq_true rfl, Nat.le_of_ble_eq_true rfl⟩, hts (.static yX11_has) (by decide +kernel), trivial⟩ rfl hl.1 rfl (Nat.le_of_ble_eq_true rfl) dX2_hangsTogether_30) (fun H locs hP hD hS => ?_)
      have hP : va_P D vwCl (wd_X2_hangsTogether cI cZ cR a_t a_t_place t_count t_bestSet t_bestSpan t_bestWeight t_place_r) H := hP
      have hD : va_D A (wd_X2_hangsTogether cI cZ cR a_t a_t_place t_count t_bestSet t_bestSpan t_bestWeight t_place_r) := hD
      refine lv_if_eq (tgt := 61) hx hb dX2_hangsTogether_33 (by decide) (fun c8 => ?_) (fun c8 => ?_)
      · have hf := ipos c8 hf
        refine lv_iinc (v := (x5 + (1 : Int32))) (lv' := [(5, .int (x5 + (1 : Int32))), (0, .ref a_t), (1, .int x1), (2, .int x2), (3, .int x3), (4, .int x4)]) hx hb dX2_hangsTogether_61 hl (k := 5) rfl rfl (by decide) rfl (fun ls hl => ?_)
        refine lv_goto (tgt := 16) hx hb dX2_hangsTogether_64 (by decide) ?_
        exact ih x3 x4 (x5 + (1 : Int32)) hf _ _ hP hD hS _ (lv_sub hl [1, 2, 3, 4, 5, 0] rfl)
      · have hf := ineg c8 hf
        refine lv_aload_n hx hb dX2_hangsTogether_36 rfl (lv_at hl 0 rfl) ?_
        refine va_get (D := D) (ci := 2) (v := .ref a_t_place) (C := RX2) (T := TX2) (N := 5) hx hb hts in_X2_hangsTogether_X2 hown hK hP 0 rfl rfl 0 (by decide) (hts (.fieldLink RX2 9 "DivisionHall$Line" "place" "[I") (by decide +kernel)) (fun _ h9 => h9) rfl dX2_hangsTogether_37 ?_
        refine lv_iload hx hb dX2_hangsTogether_40 (lv_at hl 5 rfl) ?_
        obtain ⟨hi9, hf⟩ := gin_s hf
        refine va_iald hx hb hK hP 1 0 rfl rfl hi9 dX2_hangsTogether_42 ?_
        refine lv_iload_n hx hb dX2_hangsTogether_43 rfl (lv_at hl 3 rfl) ?_
        refine lv_icmp_le (tgt := 61) hx hb dX2_hangsTogether_44 (by decide) (fun c10 => ?_) (fun c10 => ?_)
        · have hf := ipos c10 hf
          refine lv_iinc (v := (x5 + (1 : Int32))) (lv' := [(5, .int (x5 + (1 : Int32))), (0, .ref a_t), (1, .int x1), (2, .int x2), (3, .int x3), (4, .int x4)]) hx hb dX2_hangsTogether_61 hl (k := 5) rfl rfl (by decide) rfl (fun ls hl => ?_)
          refine lv_goto (tgt := 16) hx hb dX2_hangsTogether_64 (by decide) ?_
          exact ih x3 x4 (x5 + (1 : Int32)) hf _ _ hP hD hS _ (lv_sub hl [1, 2, 3, 4, 5, 0] rfl)
        · have hf := ineg c10 hf
          refine lv_aload_n hx hb dX2_hangsTogether_47 rfl (lv_at hl 0 rfl) ?_
          refine va_get (D := D) (ci := 2) (v := .ref a_t_place) (C := RX2) (T := TX2) (N := 5) hx hb hts in_X2_hangsTogether_X2 hown hK hP 0 rfl rfl 0 (by decide) (hts (.fieldLink RX2 9 "DivisionHall$Line" "place" "[I") (by decide +kernel)) (fun _ h9 => h9) rfl dX2_hangsTogether_48 ?_
          refine lv_iload hx hb dX2_hangsTogether_51 (lv_at hl 5 rfl) ?_
          obtain ⟨hi11, hf⟩ := gin_s hf
          refine va_iald hx hb hK hP 1 0 rfl rfl hi11 dX2_hangsTogether_53 ?_
          refine lv_iload hx hb dX2_hangsTogether_54 (lv_at hl 4 rfl) ?_
          refine lv_icmp_ge (tgt := 61) hx hb dX2_hangsTogether_56 (by decide) (fun c12 => ?_) (fun c12 => ?_)
          · have hf := ipos c12 hf
            refine lv_iinc (v := (x5 + (1 : Int32))) (lv' := [(5, .int (x5 + (1 : Int32))), (0, .ref a_t), (1, .int x1), (2, .int x2), (3, .int x3), (4, .int x4)]) hx hb dX2_hangsTogether_61 hl (k := 5) rfl rfl (by decide) rfl (fun ls hl => ?_)
            refine lv_goto (tgt := 16) hx hb dX2_hangsTogether_64 (by decide) ?_
            exact ih x3 x4 (x5 + (1 : Int32)) hf _ _ hP hD hS _ (lv_sub hl [1, 2, 3, 4, 5, 0] rfl)
          · have hf := ineg c12 hf
            refine lv_iconst (v := (0 : Int32)) hx hb dX2_hangsTogether_59 (by decide) ?_
            cases hf
            exact retz (Or.inl rfl) X hK hP hD hS dX2_hangsTogether_60
set_option maxHeartbeats 4000000 in
set_option maxRecDepth 100000 in
theorem c_X2_hangsTogether (l : Launch) (D : va_G) (cI cZ cR : ClassId) {a_t a_t_place : Nat} {t_count : Int32} {t_bestSet : Int32} {t_bestSpan : Int32} {t_bestWeight : Int32} {t_place_r : Nat → Int32} {x1 : Int32} {x2 : Int32} {sz : Nat} {out : Int32} (hf : F_X2_hangsTogether x1 x2 t_place_r = some out) : CI l yX2_hangsTogether wsX2_hangsTogether ({ frames := 2, cells := 0, slots := 0, locals := 61 } : Room) D cI cZ cR [.ref a_t, .int x1, .int x2] (wd_X2_hangsTogether cI cZ cR a_t a_t_place t_count t_bestSet t_bestSpan t_bestWeight t_place_r) sz (out) (wd_X2_hangsTogether cI cZ cR a_t a_t_place t_count t_bestSet t_bestSpan t_bestWeight t_place_r) := by
  refine met_of (Qf := fun A => qi D cI cZ cR A (out) (wd_X2_hangsTogether cI cZ cR a_t a_t_place t_count t_bestSet t_bestSpan t_bestWeight t_place_r)) RX2 (by decide +kernel) rfl rfl (Nat.le_of_ble_eq_true rfl) ?_
  intro p e s m below meth c A X hK hA hP hD hS ls hl
  have hl : lv_has ls 6 [(0, .ref a_t), (1, .int x1), (2, .int x2)] := hl
  obtain ⟨hx, hb, hml, hr, hown, hts, hlocks, hN⟩ := id X
  unfold F_X2_hangsTogether at hf
  refine lv_aload_n hx hb dX2_hangsTogether_0 rfl (lv_at hl 0 rfl) ?_
  refine lv_iload_n hx hb dX2_hangsTogether_1 rfl (lv_at hl 1 rfl) ?_
  obtain ⟨r1, hr2, hf⟩ := bnd hf
  refine wcalliA (D := D) (cI := cI) (cZ := cZ) (cR := cR) (wc := (wd_X2_smallest cI cZ cR a_t a_t_place t_count t_bestSet t_bestSpan t_bestWeight t_place_r)) (w' := (wd_X2_smallest cI cZ cR a_t a_t_place t_count t_bestSet t_bestSpan t_bestWeight t_place_r)) hP hD hS hA rfl (rnVA (As := [.int x1]) (ci := 2) (q0 := 0) X hK hP hD rfl rfl (c_X2_smallest l D cI cZ cR hr2) (cwV 1 hts gX2_hangsTogether_X2_smallest rfl rfl rfl (by decide +kernel) ⟨Nat.le_of_ble_eq_true rfl, Nat.le_of_ble_eq_true rfl⟩) rfl hl.1 rfl (Nat.le_of_ble_eq_true rfl) dX2_hangsTogether_2) (fun H locs hP hD hS => ?_)
  have hP : va_P D vwCl (wd_X2_hangsTogether cI cZ cR a_t a_t_place t_count t_bestSet t_bestSpan t_bestWeight t_place_r) H := hP
  have hD : va_D A (wd_X2_hangsTogether cI cZ cR a_t a_t_place t_count t_bestSet t_bestSpan t_bestWeight t_place_r) := hD
  refine lv_istore_n (lv' := [(3, .int r1), (0, .ref a_t), (1, .int x1), (2, .int x2)]) hx hb dX2_hangsTogether_5 rfl hl (by decide) rfl (fun ls hl => ?_)
  refine lv_aload_n hx hb dX2_hangsTogether_6 rfl (lv_at hl 1 rfl) ?_
  refine lv_iload_n hx hb dX2_hangsTogether_7 rfl (lv_at hl 2 rfl) ?_
  obtain ⟨r3, hr4, hf⟩ := bnd hf
  refine wcalliA (D := D) (cI := cI) (cZ := cZ) (cR := cR) (wc := (wd_X2_greatest cI cZ cR a_t a_t_place t_count t_bestSet t_bestSpan t_bestWeight t_place_r)) (w' := (wd_X2_greatest cI cZ cR a_t a_t_place t_count t_bestSet t_bestSpan t_bestWeight t_place_r)) hP hD hS hA rfl (rnVA (As := [.int x1]) (ci := 2) (q0 := 0) X hK hP hD rfl rfl (c_X2_greatest l D cI cZ cR hr4) (cwV 1 hts gX2_hangsTogether_X2_greatest rfl rfl rfl (by decide +kernel) ⟨Nat.le_of_ble_eq_true rfl, Nat.le_of_ble_eq_true rfl⟩) rfl hl.1 rfl (Nat.le_of_ble_eq_true rfl) dX2_hangsTogether_8) (fun H locs hP hD hS => ?_)
  have hP : va_P D vwCl (wd_X2_hangsTogether cI cZ cR a_t a_t_place t_count t_bestSet t_bestSpan t_bestWeight t_place_r) H := hP
  have hD : va_D A (wd_X2_hangsTogether cI cZ cR a_t a_t_place t_count t_bestSet t_bestSpan t_bestWeight t_place_r) := hD
  refine lv_istore (lv' := [(4, .int r3), (3, .int r1), (0, .ref a_t), (1, .int x1), (2, .int x2)]) hx hb dX2_hangsTogether_11 hl (by decide) rfl (fun ls hl => ?_)
  refine lv_iconst (v := (0 : Int32)) hx hb dX2_hangsTogether_13 (by decide) ?_
  refine lv_istore (lv' := [(5, .int (0 : Int32)), (4, .int r3), (3, .int r1), (0, .ref a_t), (1, .int x1), (2, .int x2)]) hx hb dX2_hangsTogether_14 hl (by decide) rfl (fun ls hl => ?_)
  exact w_X2_hangsTogether_16 X hK hA _ r1 r3 (0 : Int32) hf _ _ hP hD hS _ (lv_sub hl [3, 4, 5, 2, 1, 0] rfl)

abbrev wd_X2_keepBetter (cI cZ cR : ClassId) (a_t a_t_place : Nat) (t_count t_bestSet t_bestSpan t_bestWeight : Int32) : va_W := [(a_t, oB 2 [.ref a_t_place, .int t_count, .int t_bestSet, .int t_bestSpan, .int t_bestWeight])]
set_option maxRecDepth 100000 in
theorem in_X2_keepBetter_X2 : ∀ w ∈ wsX20, w ∈ wsX2_keepBetter := by decide +kernel
set_option maxHeartbeats 4000000 in
set_option maxRecDepth 100000 in
theorem w_X2_keepBetter_32 {p : Program} {l : Launch} {e : Env} {s : State} {m : MethodId} {args : Array Value} {below : List Frame} {meth : Method} {c : Code} {D : va_G} {cI cZ cR : ClassId} {A : Nat → Prop} {a_t a_t_place : Nat} {t_count : Int32} {x1 : Int32} {x2 : Int32} {x3 : Int32} {out : Int32 × Int32 × Int32} (X : cx p s m args meth c cX2_keepBetter 4 none RX2 wsX2_keepBetter) (hK : va_K D vwCl (ty3 cI cZ cR) s) (hA : ∀ q, s.heap.size ≤ q → A q) : ∀ (t_bestSet : Int32) (t_bestSpan : Int32) (t_bestWeight : Int32), F_X2_keepBetter_32 x1 x2 x3 t_bestSet t_bestSpan t_bestWeight = some out → ∀ (H : Heap) (locs : List Loc), va_P D vwCl (wd_X2_keepBetter cI cZ cR a_t a_t_place t_count t_bestSet t_bestSpan t_bestWeight) H → va_D A (wd_X2_keepBetter cI cZ cR a_t a_t_place t_count t_bestSet t_bestSpan t_bestWeight) → va_S A s.heap H locs → ∀ (ls : Array Slot), lv_has ls 4 [(0, .ref a_t), (1, .int x1), (2, .int x2), (3, .int x3)] → W p l e (headSpec wsX2_keepBetter ({ frames := 0, cells := 0, slots := 0, locals := 0 } : Room)).room s m args below meth c H locs 0 0 (MQ below (qv D cI cZ cR A (wd_X2_keepBetter cI cZ cR a_t a_t_place t_count (out.1) (out.2.1) (out.2.2))) args s 0 0 A) (F0 m 32 ls []) := by
  obtain ⟨hx, hb, hml, hr, hown, hts, hlocks, hN⟩ := id X
  intro t_bestSet t_bestSpan t_bestWeight hf H locs hP hD hS ls hl
  unfold F_X2_keepBetter_32 at hf
  refine lv_aload_n hx hb dX2_keepBetter_32 rfl (lv_at hl 0 rfl) ?_
  refine lv_iload_n hx hb dX2_keepBetter_33 rfl (lv_at hl 1 rfl) ?_
  refine va_put (D := D) (ci := 2) (v := .int x1) (ty := .int) (C := RX2) (T := TX2) (N := 5) hx hb hts in_X2_keepBetter_X2 tyX2 tyX2_ok nmX2 hown hK hP hD hS 0 rfl rfl 2 (by decide) (hts (.fieldLink RX2 25 "DivisionHall$Line" "bestSet" "I") (by decide +kernel)) (fun _ h9 => h9) rfl (by decide +kernel) rfl rfl (Nat.le_of_ble_eq_true rfl) dX2_keepBetter_34 (fun H locs hP hD hS => ?_)
  have hP : va_P D vwCl (wd_X2_keepBetter cI cZ cR a_t a_t_place t_count x1 t_bestSpan t_bestWeight) H := hP
  have hD : va_D A (wd_X2_keepBetter cI cZ cR a_t a_t_place t_count x1 t_bestSpan t_bestWeight) := hD
  refine lv_aload_n hx hb dX2_keepBetter_37 rfl (lv_at hl 0 rfl) ?_
  refine lv_iload_n hx hb dX2_keepBetter_38 rfl (lv_at hl 2 rfl) ?_
  refine va_put (D := D) (ci := 2) (v := .int x2) (ty := .int) (C := RX2) (T := TX2) (N := 5) hx hb hts in_X2_keepBetter_X2 tyX2 tyX2_ok nmX2 hown hK hP hD hS 0 rfl rfl 3 (by decide) (hts (.fieldLink RX2 28 "DivisionHall$Line" "bestSpan" "I") (by decide +kernel)) (fun _ h9 => h9) rfl (by decide +kernel) rfl rfl (Nat.le_of_ble_eq_true rfl) dX2_keepBetter_39 (fun H locs hP hD hS => ?_)
  have hP : va_P D vwCl (wd_X2_keepBetter cI cZ cR a_t a_t_place t_count x1 x2 t_bestWeight) H := hP
  have hD : va_D A (wd_X2_keepBetter cI cZ cR a_t a_t_place t_count x1 x2 t_bestWeight) := hD
  refine lv_aload_n hx hb dX2_keepBetter_42 rfl (lv_at hl 0 rfl) ?_
  refine lv_iload_n hx hb dX2_keepBetter_43 rfl (lv_at hl 3 rfl) ?_
  refine va_put (D := D) (ci := 2) (v := .int x3) (ty := .int) (C := RX2) (T := TX2) (N := 5) hx hb hts in_X2_keepBetter_X2 tyX2 tyX2_ok nmX2 hown hK hP hD hS 0 rfl rfl 4 (by decide) (hts (.fieldLink RX2 31 "DivisionHall$Line" "bestWeight" "I") (by decide +kernel)) (fun _ h9 => h9) rfl (by decide +kernel) rfl rfl (Nat.le_of_ble_eq_true rfl) dX2_keepBetter_44 (fun H locs hP hD hS => ?_)
  have hP : va_P D vwCl (wd_X2_keepBetter cI cZ cR a_t a_t_place t_count x1 x2 x3) H := hP
  have hD : va_D A (wd_X2_keepBetter cI cZ cR a_t a_t_place t_count x1 x2 x3) := hD
  cases hf
  exact retv X hK hP hD hS dX2_keepBetter_47
set_option maxHeartbeats 4000000 in
set_option maxRecDepth 100000 in
theorem c_X2_keepBetter (l : Launch) (D : va_G) (cI cZ cR : ClassId) {a_t a_t_place : Nat} {t_count : Int32} {t_bestSet : Int32} {t_bestSpan : Int32} {t_bestWeight : Int32} {x1 : Int32} {x2 : Int32} {x3 : Int32} {sz : Nat} {out : Int32 × Int32 × Int32} (hf : F_X2_keepBetter x1 x2 x3 t_bestSet t_bestSpan t_bestWeight = some out) : CV l yX2_keepBetter wsX2_keepBetter ({ frames := 0, cells := 0, slots := 0, locals := 0 } : Room) D cI cZ cR [.ref a_t, .int x1, .int x2, .int x3] (wd_X2_keepBetter cI cZ cR a_t a_t_place t_count t_bestSet t_bestSpan t_bestWeight) sz (wd_X2_keepBetter cI cZ cR a_t a_t_place t_count (out.1) (out.2.1) (out.2.2)) := by
  refine met_of (Qf := fun A => qv D cI cZ cR A (wd_X2_keepBetter cI cZ cR a_t a_t_place t_count (out.1) (out.2.1) (out.2.2))) RX2 (by decide +kernel) rfl rfl (Nat.le_of_ble_eq_true rfl) ?_
  intro p e s m below meth c A X hK hA hP hD hS ls hl
  have hl : lv_has ls 4 [(0, .ref a_t), (1, .int x1), (2, .int x2), (3, .int x3)] := hl
  obtain ⟨hx, hb, hml, hr, hown, hts, hlocks, hN⟩ := id X
  unfold F_X2_keepBetter at hf
  refine lv_aload_n hx hb dX2_keepBetter_0 rfl (lv_at hl 0 rfl) ?_
  refine va_get (D := D) (ci := 2) (v := .int t_bestSet) (C := RX2) (T := TX2) (N := 5) hx hb hts in_X2_keepBetter_X2 hown hK hP 0 rfl rfl 2 (by decide) (hts (.fieldLink RX2 25 "DivisionHall$Line" "bestSet" "I") (by decide +kernel)) (fun _ h9 => h9) rfl dX2_keepBetter_1 ?_
  refine lv_iconst (v := (-1 : Int32)) hx hb dX2_keepBetter_4 (by decide) ?_
  refine lv_icmp_eq (tgt := 32) hx hb dX2_keepBetter_5 (by decide) (fun c1 => ?_) (fun c1 => ?_)
  · have hf := ipos c1 hf
    exact w_X2_keepBetter_32 X hK hA t_bestSet t_bestSpan t_bestWeight hf _ _ hP hD hS _ (lv_sub hl [0, 1, 2, 3] rfl)
  · have hf := ineg c1 hf
    refine lv_iload_n hx hb dX2_keepBetter_8 rfl (lv_at hl 2 rfl) ?_
    refine lv_aload_n hx hb dX2_keepBetter_9 rfl (lv_at hl 0 rfl) ?_
    refine va_get (D := D) (ci := 2) (v := .int t_bestSpan) (C := RX2) (T := TX2) (N := 5) hx hb hts in_X2_keepBetter_X2 hown hK hP 0 rfl rfl 3 (by decide) (hts (.fieldLink RX2 28 "DivisionHall$Line" "bestSpan" "I") (by decide +kernel)) (fun _ h9 => h9) rfl dX2_keepBetter_10 ?_
    refine lv_icmp_lt (tgt := 32) hx hb dX2_keepBetter_13 (by decide) (fun c2 => ?_) (fun c2 => ?_)
    · have hf := ipos c2 hf
      exact w_X2_keepBetter_32 X hK hA t_bestSet t_bestSpan t_bestWeight hf _ _ hP hD hS _ (lv_sub hl [0, 1, 2, 3] rfl)
    · have hf := ineg c2 hf
      refine lv_iload_n hx hb dX2_keepBetter_16 rfl (lv_at hl 2 rfl) ?_
      refine lv_aload_n hx hb dX2_keepBetter_17 rfl (lv_at hl 0 rfl) ?_
      refine va_get (D := D) (ci := 2) (v := .int t_bestSpan) (C := RX2) (T := TX2) (N := 5) hx hb hts in_X2_keepBetter_X2 hown hK hP 0 rfl rfl 3 (by decide) (hts (.fieldLink RX2 28 "DivisionHall$Line" "bestSpan" "I") (by decide +kernel)) (fun _ h9 => h9) rfl dX2_keepBetter_18 ?_
      refine lv_icmp_ne (tgt := 47) hx hb dX2_keepBetter_21 (by decide) (fun c3 => ?_) (fun c3 => ?_)
      · have hf := ineg c3 hf
        cases hf
        exact retv X hK hP hD hS dX2_keepBetter_47
      · have hf := ipos c3 hf
        refine lv_iload_n hx hb dX2_keepBetter_24 rfl (lv_at hl 3 rfl) ?_
        refine lv_aload_n hx hb dX2_keepBetter_25 rfl (lv_at hl 0 rfl) ?_
        refine va_get (D := D) (ci := 2) (v := .int t_bestWeight) (C := RX2) (T := TX2) (N := 5) hx hb hts in_X2_keepBetter_X2 hown hK hP 0 rfl rfl 4 (by decide) (hts (.fieldLink RX2 31 "DivisionHall$Line" "bestWeight" "I") (by decide +kernel)) (fun _ h9 => h9) rfl dX2_keepBetter_26 ?_
        refine lv_icmp_ge (tgt := 47) hx hb dX2_keepBetter_29 (by decide) (fun c4 => ?_) (fun c4 => ?_)
        · have hf := ipos c4 hf
          cases hf
          exact retv X hK hP hD hS dX2_keepBetter_47
        · have hf := ineg c4 hf
          exact w_X2_keepBetter_32 X hK hA t_bestSet t_bestSpan t_bestWeight hf _ _ hP hD hS _ (lv_sub hl [0, 1, 2, 3] rfl)

abbrev wd_X2_seek (cI cZ cR : ClassId) (a_p1 a_p1_code a_p1_stack a_p1_table a_p2 a_p2_weight a_p2_membersOf a_t a_t_place a_p1_table_bits a_p1_table_trade : Nat) (p1_codes p2_in p2_all t_count t_bestSet t_bestSpan t_bestWeight p1_table_in p1_table_fresh p1_table_tradeSought : Int32) (p1_code_r : Nat → Int32) (p1_stack_r : Nat → Int32) (p2_membersOf_r : Nat → Int32) (p2_weight_r : Nat → Int32) (t_place_r : Nat → Int32) (p1_table_bits_r : Nat → Int32) : va_W := [(a_p1, oB 6 [.ref a_p1_code, .ref a_p1_stack, .ref a_p1_table, .int p1_codes]), (a_p2, oB 7 [.ref a_p2_weight, .ref a_p2_membersOf, .int p2_in, .int p2_all]), (a_t, oB 2 [.ref a_t_place, .int t_count, .int t_bestSet, .int t_bestSpan, .int t_bestWeight]), (a_p1_code, aI cI 400 p1_code_r), (a_p1_stack, aI cI 40 p1_stack_r), (a_p1_table, oB 8 [.ref a_p1_table_bits, .ref a_p1_table_trade, .int p1_table_in, .int p1_table_fresh, .int p1_table_tradeSought]), (a_p2_membersOf, aI cI 6 p2_membersOf_r), (a_p2_weight, aI cI 10 p2_weight_r), (a_t_place, aI cI 6 t_place_r), (a_p1_table_bits, aI cI 32 p1_table_bits_r)]
set_option maxRecDepth 100000 in
theorem in_X2_seek_X2 : ∀ w ∈ wsX20, w ∈ wsX2_seek := by decide +kernel
set_option maxHeartbeats 4000000 in
set_option maxRecDepth 100000 in
theorem w_X2_seek_28 {p : Program} {l : Launch} {e : Env} {s : State} {m : MethodId} {args : Array Value} {below : List Frame} {meth : Method} {c : Code} {D : va_G} {cI cZ cR : ClassId} {A : Nat → Prop} {a_p1 a_p1_code a_p1_stack a_p1_table a_p2 a_p2_weight a_p2_membersOf a_t a_t_place a_p1_table_bits a_p1_table_trade : Nat} {p1_codes : Int32} {p2_in : Int32} {p2_all : Int32} {p1_table_in : Int32} {p1_table_fresh : Int32} {p1_table_tradeSought : Int32} {p1_code_r : Nat → Int32} {p2_membersOf_r : Nat → Int32} {p2_weight_r : Nat → Int32} {t_place_r : Nat → Int32} {p1_table_bits_r : Nat → Int32} {out : (Nat → Int32) × Int32 × Int32 × Int32 × Int32} (X : cx p s m args meth c cX2_seek 6 none RX2 wsX2_seek) (hK : va_K D vwCl (ty3 cI cZ cR) s) (hA : ∀ q, s.heap.size ≤ q → A q) : ∀ (n : Nat) (x3 : Int32) (x4 : Int32) (p1_stack_r : Nat → Int32) (t_bestSet : Int32) (t_bestSpan : Int32) (t_bestWeight : Int32) (t_count : Int32), F_X2_seek_28 p1_codes p1_code_r p1_table_fresh p1_table_bits_r p2_all p2_in p2_membersOf_r p2_weight_r t_place_r n x3 x4 p1_stack_r t_bestSet t_bestSpan t_bestWeight t_count = some out → ∀ (H : Heap) (locs : List Loc), va_P D vwCl (wd_X2_seek cI cZ cR a_p1 a_p1_code a_p1_stack a_p1_table a_p2 a_p2_weight a_p2_membersOf a_t a_t_place a_p1_table_bits a_p1_table_trade p1_codes p2_in p2_all t_count t_bestSet t_bestSpan t_bestWeight p1_table_in p1_table_fresh p1_table_tradeSought p1_code_r p1_stack_r p2_membersOf_r p2_weight_r t_place_r p1_table_bits_r) H → va_D A (wd_X2_seek cI cZ cR a_p1 a_p1_code a_p1_stack a_p1_table a_p2 a_p2_weight a_p2_membersOf a_t a_t_place a_p1_table_bits a_p1_table_trade p1_codes p2_in p2_all t_count t_bestSet t_bestSpan t_bestWeight p1_table_in p1_table_fresh p1_table_tradeSought p1_code_r p1_stack_r p2_membersOf_r p2_weight_r t_place_r p1_table_bits_r) → va_S A s.heap H locs → ∀ (ls : Array Slot), lv_has ls 6 [(0, .ref a_t), (1, .ref a_p1), (2, .ref a_p2), (3, .int x3), (4, .int x4)] → W p l e (headSpec wsX2_seek ({ frames := 4, cells := 0, slots := 0, locals := 93 } : Room)).room s m args below meth c H locs 0 0 (MQ below (qv D cI cZ cR A (wd_X2_seek cI cZ cR a_p1 a_p1_code a_p1_stack a_p1_table a_p2 a_p2_weight a_p2_membersOf a_t a_t_place a_p1_table_bits a_p1_table_trade p1_codes p2_in p2_all (out.2.2.2.2) (out.2.1) (out.2.2.1) (out.2.2.2.1) p1_table_in p1_table_fresh p1_table_tradeSought p1_code_r (out.1) p2_membersOf_r p2_weight_r t_place_r p1_table_bits_r)) args s 0 0 A) (F0 m 28 ls []) := by
  obtain ⟨hx, hb, hml, hr, hown, hts, hlocks, hN⟩ := id X
  intro n
  induction n with
  | zero =>
    intro x3 x4 p1_stack_r t_bestSet t_bestSpan t_bestWeight t_count hf
    cases (show (none : Option ((Nat → Int32) × Int32 × Int32 × Int32 × Int32)) = some out from hf)
  | succ n ih =>
    intro x3 x4 p1_stack_r t_bestSet t_bestSpan t_bestWeight t_count hf H locs hP hD hS ls hl
    rw [F_X2_seek_28] at hf
    refine lv_iload hx hb dX2_seek_28 (lv_at hl 4 rfl) ?_
    refine lv_iload_n hx hb dX2_seek_30 rfl (lv_at hl 3 rfl) ?_
    refine lv_icmp_gt (tgt := 112) hx hb dX2_seek_31 (by decide) (fun c3 => ?_) (fun c3 => ?_)
    · have hf := ipos c3 hf
      cases hf
      exact retv X hK hP hD hS dX2_seek_112
    · have hf := ineg c3 hf
      refine lv_iload hx hb dX2_seek_34 (lv_at hl 4 rfl) ?_
      refine lv_iload_n hx hb dX2_seek_36 rfl (lv_at hl 3 rfl) ?_
      obtain ⟨r4, hr5, hf⟩ := bnd hf
      refine wcalli (D := D) (cI := cI) (cZ := cZ) (cR := cR) (wc := (wd_X11_isWithin cI cZ cR)) (w' := (wd_X11_isWithin cI cZ cR)) [] hP hD hS hA rfl rfl rfl (rnSN (As := [.int x4, .int x3]) X [] hK hP hD rfl rfl (c_X11_isWithin l D cI cZ cR hr5) ⟨va_cnB (host := "DivisionHall") 2 hts ggX2_seek_X11_isWithin rfl rfl rfl (hN.2.1 ("DivisionHall$Line", 34, yX11_isWithin, "DivisionHall") (by decide +kernel)) (hts (.initialized RX11) (by decide +kernel)) (by decide +kernel) ⟨Nat.le_of_ble_eq_true rfl, Nat.le_of_ble_eq_true rfl⟩, hts (.static yX11_isWithin) (by decide +kernel), trivial⟩ rfl hl.1 rfl (Nat.le_of_ble_eq_true rfl) dX2_seek_37) (fun H locs hP hD hS => ?_)
      have hP : va_P D vwCl (wd_X2_seek cI cZ cR a_p1 a_p1_code a_p1_stack a_p1_table a_p2 a_p2_weight a_p2_membersOf a_t a_t_place a_p1_table_bits a_p1_table_trade p1_codes p2_in p2_all t_count t_bestSet t_bestSpan t_bestWeight p1_table_in p1_table_fresh p1_table_tradeSought p1_code_r p1_stack_r p2_membersOf_r p2_weight_r t_place_r p1_table_bits_r) H := hP
      have hD : va_D A (wd_X2_seek cI cZ cR a_p1 a_p1_code a_p1_stack a_p1_table a_p2 a_p2_weight a_p2_membersOf a_t a_t_place a_p1_table_bits a_p1_table_trade p1_codes p2_in p2_all t_count t_bestSet t_bestSpan t_bestWeight p1_table_in p1_table_fresh p1_table_tradeSought p1_code_r p1_stack_r p2_membersOf_r p2_weight_r t_place_r p1_table_bits_r) := hD
      refine lv_if_eq (tgt := 106) hx hb dX2_seek_40 (by decide) (fun c6 => ?_) (fun c6 => ?_)
      · have hf := ipos c6 hf
        refine lv_iinc (v := (x4 + (1 : Int32))) (lv' := [(4, .int (x4 + (1 : Int32))), (0, .ref a_t), (1, .ref a_p1), (2, .ref a_p2), (3, .int x3)]) hx hb dX2_seek_106 hl (k := 4) rfl rfl (by decide) rfl (fun ls hl => ?_)
        refine lv_goto (tgt := 28) hx hb dX2_seek_109 (by decide) ?_
        exact ih x3 (x4 + (1 : Int32)) p1_stack_r t_bestSet t_bestSpan t_bestWeight t_count hf _ _ hP hD hS _ (lv_sub hl [1, 2, 3, 4, 0] rfl)
      · have hf := ineg c6 hf
        refine lv_aload_n hx hb dX2_seek_43 rfl (lv_at hl 0 rfl) ?_
        refine lv_iload hx hb dX2_seek_44 (lv_at hl 4 rfl) ?_
        refine lv_iload_n hx hb dX2_seek_46 rfl (lv_at hl 3 rfl) ?_
        obtain ⟨r7, hr8, hf⟩ := bnd hf
        refine wcalli (D := D) (cI := cI) (cZ := cZ) (cR := cR) (wc := (wd_X2_hangsTogether cI cZ cR a_t a_t_place t_count t_bestSet t_bestSpan t_bestWeight t_place_r)) (w' := (wd_X2_hangsTogether cI cZ cR a_t a_t_place t_count t_bestSet t_bestSpan t_bestWeight t_place_r)) [2, 8] hP hD hS hA rfl rfl rfl (rnV (As := [.int x4, .int x3]) (ci := 2) (q0 := 2) X [2, 8] hK hP hD rfl rfl rfl rfl (c_X2_hangsTogether l D cI cZ cR hr8) (cwV 2 hts gX2_seek_X2_hangsTogether rfl rfl rfl (by decide +kernel) ⟨Nat.le_of_ble_eq_true rfl, Nat.le_of_ble_eq_true rfl⟩) rfl hl.1 rfl (Nat.le_of_ble_eq_true rfl) dX2_seek_47) (fun H locs hP hD hS => ?_)
        have hP : va_P D vwCl (wd_X2_seek cI cZ cR a_p1 a_p1_code a_p1_stack a_p1_table a_p2 a_p2_weight a_p2_membersOf a_t a_t_place a_p1_table_bits a_p1_table_trade p1_codes p2_in p2_all t_count t_bestSet t_bestSpan t_bestWeight p1_table_in p1_table_fresh p1_table_tradeSought p1_code_r p1_stack_r p2_membersOf_r p2_weight_r t_place_r p1_table_bits_r) H := hP
        have hD : va_D A (wd_X2_seek cI cZ cR a_p1 a_p1_code a_p1_stack a_p1_table a_p2 a_p2_weight a_p2_membersOf a_t a_t_place a_p1_table_bits a_p1_table_trade p1_codes p2_in p2_all t_count t_bestSet t_bestSpan t_bestWeight p1_table_in p1_table_fresh p1_table_tradeSought p1_code_r p1_stack_r p2_membersOf_r p2_weight_r t_place_r p1_table_bits_r) := hD
        refine lv_if_eq (tgt := 106) hx hb dX2_seek_50 (by decide) (fun c9 => ?_) (fun c9 => ?_)
        · have hf := ipos c9 hf
          refine lv_iinc (v := (x4 + (1 : Int32))) (lv' := [(4, .int (x4 + (1 : Int32))), (0, .ref a_t), (1, .ref a_p1), (2, .ref a_p2), (3, .int x3)]) hx hb dX2_seek_106 hl (k := 4) rfl rfl (by decide) rfl (fun ls hl => ?_)
          refine lv_goto (tgt := 28) hx hb dX2_seek_109 (by decide) ?_
          exact ih x3 (x4 + (1 : Int32)) p1_stack_r t_bestSet t_bestSpan t_bestWeight t_count hf _ _ hP hD hS _ (lv_sub hl [1, 2, 3, 4, 0] rfl)
        · have hf := ineg c9 hf
          refine lv_aload_n hx hb dX2_seek_53 rfl (lv_at hl 2 rfl) ?_
          refine lv_iload hx hb dX2_seek_54 (lv_at hl 4 rfl) ?_
          obtain ⟨r10, hr11, hf⟩ := bnd hf
          refine wcalli (D := D) (cI := cI) (cZ := cZ) (cR := cR) (wc := (wd_X7_ofBlocs cI cZ cR a_p2 a_p2_weight a_p2_membersOf p2_in p2_all p2_membersOf_r)) (w' := (wd_X7_ofBlocs cI cZ cR a_p2 a_p2_weight a_p2_membersOf p2_in p2_all p2_membersOf_r)) [1, 6] hP hD hS hA rfl rfl rfl (rnV (As := [.int x4]) (ci := 7) (q0 := 1) X [1, 6] hK hP hD rfl rfl rfl rfl (c_X7_ofBlocs l D cI cZ cR hr11) (cwV 1 hts gX2_seek_X7_ofBlocs rfl rfl rfl (by decide +kernel) ⟨Nat.le_of_ble_eq_true rfl, Nat.le_of_ble_eq_true rfl⟩) rfl hl.1 rfl (Nat.le_of_ble_eq_true rfl) dX2_seek_56) (fun H locs hP hD hS => ?_)
          have hP : va_P D vwCl (wd_X2_seek cI cZ cR a_p1 a_p1_code a_p1_stack a_p1_table a_p2 a_p2_weight a_p2_membersOf a_t a_t_place a_p1_table_bits a_p1_table_trade p1_codes p2_in p2_all t_count t_bestSet t_bestSpan t_bestWeight p1_table_in p1_table_fresh p1_table_tradeSought p1_code_r p1_stack_r p2_membersOf_r p2_weight_r t_place_r p1_table_bits_r) H := hP
          have hD : va_D A (wd_X2_seek cI cZ cR a_p1 a_p1_code a_p1_stack a_p1_table a_p2 a_p2_weight a_p2_membersOf a_t a_t_place a_p1_table_bits a_p1_table_trade p1_codes p2_in p2_all t_count t_bestSet t_bestSpan t_bestWeight p1_table_in p1_table_fresh p1_table_tradeSought p1_code_r p1_stack_r p2_membersOf_r p2_weight_r t_place_r p1_table_bits_r) := hD
          refine lv_istore (lv' := [(5, .int r10), (0, .ref a_t), (1, .ref a_p1), (2, .ref a_p2), (3, .int x3), (4, .int x4)]) hx hb dX2_seek_59 hl (by decide) rfl (fun ls hl => ?_)
          refine lv_aload_n hx hb dX2_seek_61 rfl (lv_at hl 2 rfl) ?_
          refine lv_iload hx hb dX2_seek_62 (lv_at hl 0 rfl) ?_
          refine lv_aload_n hx hb dX2_seek_64 rfl (lv_at hl 3 rfl) ?_
          obtain ⟨r12, hr13, hf⟩ := bnd hf
          refine wcalli (D := D) (cI := cI) (cZ := cZ) (cR := cR) (wc := (wd_X6_passes cI cZ cR a_p2 a_p2_weight a_p2_membersOf a_p1 a_p1_code a_p1_stack a_p1_table a_p1_table_bits a_p1_table_trade p2_in p2_all p1_codes p1_table_in p1_table_fresh p1_table_tradeSought p2_membersOf_r p2_weight_r p1_code_r p1_stack_r p1_table_bits_r)) (w' := (wd_X6_passes cI cZ cR a_p2 a_p2_weight a_p2_membersOf a_p1 a_p1_code a_p1_stack a_p1_table a_p1_table_bits a_p1_table_trade p2_in p2_all p1_codes p1_table_in p1_table_fresh p1_table_tradeSought p2_membersOf_r p2_weight_r p1_code_r (r12.2) p1_table_bits_r)) [1, 0, 6, 7, 3, 4, 5, 9] hP hD hS hA rfl rfl rfl (rnV (As := [.int r10, .ref a_p2]) (ci := 6) (q0 := 0) X [1, 0, 6, 7, 3, 4, 5, 9] hK hP hD rfl rfl rfl rfl (c_X6_passes l D cI cZ cR hr13) (cwV 2 hts gX2_seek_X6_passes rfl rfl rfl (by decide +kernel) ⟨Nat.le_of_ble_eq_true rfl, Nat.le_of_ble_eq_true rfl⟩) rfl hl.1 rfl (Nat.le_of_ble_eq_true rfl) dX2_seek_65) (fun H locs hP hD hS => ?_)
          have hP : va_P D vwCl (wd_X2_seek cI cZ cR a_p1 a_p1_code a_p1_stack a_p1_table a_p2 a_p2_weight a_p2_membersOf a_t a_t_place a_p1_table_bits a_p1_table_trade p1_codes p2_in p2_all t_count t_bestSet t_bestSpan t_bestWeight p1_table_in p1_table_fresh p1_table_tradeSought p1_code_r (r12.2) p2_membersOf_r p2_weight_r t_place_r p1_table_bits_r) H := hP
          have hD : va_D A (wd_X2_seek cI cZ cR a_p1 a_p1_code a_p1_stack a_p1_table a_p2 a_p2_weight a_p2_membersOf a_t a_t_place a_p1_table_bits a_p1_table_trade p1_codes p2_in p2_all t_count t_bestSet t_bestSpan t_bestWeight p1_table_in p1_table_fresh p1_table_tradeSought p1_code_r (r12.2) p2_membersOf_r p2_weight_r t_place_r p1_table_bits_r) := hD
          refine lv_if_eq (tgt := 106) hx hb dX2_seek_68 (by decide) (fun c14 => ?_) (fun c14 => ?_)
          · have hf := ipos c14 hf
            refine lv_iinc (v := (x4 + (1 : Int32))) (lv' := [(4, .int (x4 + (1 : Int32))), (5, .int r10), (0, .ref a_t), (1, .ref a_p1), (2, .ref a_p2), (3, .int x3)]) hx hb dX2_seek_106 hl (k := 5) rfl rfl (by decide) rfl (fun ls hl => ?_)
            refine lv_goto (tgt := 28) hx hb dX2_seek_109 (by decide) ?_
            exact ih x3 (x4 + (1 : Int32)) (r12.2) t_bestSet t_bestSpan t_bestWeight t_count hf _ _ hP hD hS _ (lv_sub hl [2, 3, 4, 5, 0] rfl)
          · have hf := ineg c14 hf
            refine lv_aload_n hx hb dX2_seek_71 rfl (lv_at hl 1 rfl) ?_
            refine lv_dup hx hb dX2_seek_72 rfl ?_
            refine va_get (D := D) (ci := 2) (v := .int t_count) (C := RX2) (T := TX2) (N := 5) hx hb hts in_X2_seek_X2 hown hK hP 2 rfl rfl 1 (by decide) (hts (.fieldLink RX2 21 "DivisionHall$Line" "count" "I") (by decide +kernel)) (fun _ h9 => h9) rfl dX2_seek_73 ?_
            refine lv_iconst (v := (1 : Int32)) hx hb dX2_seek_76 (by decide) ?_
            refine lv_iadd hx hb dX2_seek_77 ?_
            refine va_put (D := D) (ci := 2) (v := .int (t_count + (1 : Int32))) (ty := .int) (C := RX2) (T := TX2) (N := 5) hx hb hts in_X2_seek_X2 tyX2 tyX2_ok nmX2 hown hK hP hD hS 2 rfl rfl 1 (by decide) (hts (.fieldLink RX2 21 "DivisionHall$Line" "count" "I") (by decide +kernel)) (fun _ h9 => h9) rfl (by decide +kernel) rfl rfl (Nat.le_of_ble_eq_true rfl) dX2_seek_78 (fun H locs hP hD hS => ?_)
            have hP : va_P D vwCl (wd_X2_seek cI cZ cR a_p1 a_p1_code a_p1_stack a_p1_table a_p2 a_p2_weight a_p2_membersOf a_t a_t_place a_p1_table_bits a_p1_table_trade p1_codes p2_in p2_all (t_count + (1 : Int32)) t_bestSet t_bestSpan t_bestWeight p1_table_in p1_table_fresh p1_table_tradeSought p1_code_r (r12.2) p2_membersOf_r p2_weight_r t_place_r p1_table_bits_r) H := hP
            have hD : va_D A (wd_X2_seek cI cZ cR a_p1 a_p1_code a_p1_stack a_p1_table a_p2 a_p2_weight a_p2_membersOf a_t a_t_place a_p1_table_bits a_p1_table_trade p1_codes p2_in p2_all (t_count + (1 : Int32)) t_bestSet t_bestSpan t_bestWeight p1_table_in p1_table_fresh p1_table_tradeSought p1_code_r (r12.2) p2_membersOf_r p2_weight_r t_place_r p1_table_bits_r) := hD
            refine lv_aload_n hx hb dX2_seek_81 rfl (lv_at hl 1 rfl) ?_
            refine lv_iload hx hb dX2_seek_82 (lv_at hl 5 rfl) ?_
            refine lv_aload_n hx hb dX2_seek_84 rfl (lv_at hl 1 rfl) ?_
            refine lv_iload hx hb dX2_seek_85 (lv_at hl 5 rfl) ?_
            obtain ⟨r15, hr16, hf⟩ := bnd hf
            refine wcalli (D := D) (cI := cI) (cZ := cZ) (cR := cR) (wc := (wd_X2_greatest cI cZ cR a_t a_t_place (t_count + (1 : Int32)) t_bestSet t_bestSpan t_bestWeight t_place_r)) (w' := (wd_X2_greatest cI cZ cR a_t a_t_place (t_count + (1 : Int32)) t_bestSet t_bestSpan t_bestWeight t_place_r)) [2, 8] hP hD hS hA rfl rfl rfl (rnV (As := [.int x4]) (ci := 2) (q0 := 2) X [2, 8] hK hP hD rfl rfl rfl rfl (c_X2_greatest l D cI cZ cR hr16) (cwV 1 hts gX2_seek_X2_greatest rfl rfl rfl (by decide +kernel) ⟨Nat.le_of_ble_eq_true rfl, Nat.le_of_ble_eq_true rfl⟩) rfl hl.1 rfl (Nat.le_of_ble_eq_true rfl) dX2_seek_87) (fun H locs hP hD hS => ?_)
            have hP : va_P D vwCl (wd_X2_seek cI cZ cR a_p1 a_p1_code a_p1_stack a_p1_table a_p2 a_p2_weight a_p2_membersOf a_t a_t_place a_p1_table_bits a_p1_table_trade p1_codes p2_in p2_all (t_count + (1 : Int32)) t_bestSet t_bestSpan t_bestWeight p1_table_in p1_table_fresh p1_table_tradeSought p1_code_r (r12.2) p2_membersOf_r p2_weight_r t_place_r p1_table_bits_r) H := hP
            have hD : va_D A (wd_X2_seek cI cZ cR a_p1 a_p1_code a_p1_stack a_p1_table a_p2 a_p2_weight a_p2_membersOf a_t a_t_place a_p1_table_bits a_p1_table_trade p1_codes p2_in p2_all (t_count + (1 : Int32)) t_bestSet t_bestSpan t_bestWeight p1_table_in p1_table_fresh p1_table_tradeSought p1_code_r (r12.2) p2_membersOf_r p2_weight_r t_place_r p1_table_bits_r) := hD
            refine lv_aload_n hx hb dX2_seek_90 rfl (lv_at hl 1 rfl) ?_
            refine lv_iload hx hb dX2_seek_91 (lv_at hl 5 rfl) ?_
            obtain ⟨r17, hr18, hf⟩ := bnd hf
            refine wcalli (D := D) (cI := cI) (cZ := cZ) (cR := cR) (wc := (wd_X2_smallest cI cZ cR a_t a_t_place (t_count + (1 : Int32)) t_bestSet t_bestSpan t_bestWeight t_place_r)) (w' := (wd_X2_smallest cI cZ cR a_t a_t_place (t_count + (1 : Int32)) t_bestSet t_bestSpan t_bestWeight t_place_r)) [2, 8] hP hD hS hA rfl rfl rfl (rnV (As := [.int x4]) (ci := 2) (q0 := 2) X [2, 8] hK hP hD rfl rfl rfl rfl (c_X2_smallest l D cI cZ cR hr18) (cwV 1 hts gX2_seek_X2_smallest rfl rfl rfl (by decide +kernel) ⟨Nat.le_of_ble_eq_true rfl, Nat.le_of_ble_eq_true rfl⟩) rfl hl.1 rfl (Nat.le_of_ble_eq_true rfl) dX2_seek_93) (fun H locs hP hD hS => ?_)
            have hP : va_P D vwCl (wd_X2_seek cI cZ cR a_p1 a_p1_code a_p1_stack a_p1_table a_p2 a_p2_weight a_p2_membersOf a_t a_t_place a_p1_table_bits a_p1_table_trade p1_codes p2_in p2_all (t_count + (1 : Int32)) t_bestSet t_bestSpan t_bestWeight p1_table_in p1_table_fresh p1_table_tradeSought p1_code_r (r12.2) p2_membersOf_r p2_weight_r t_place_r p1_table_bits_r) H := hP
            have hD : va_D A (wd_X2_seek cI cZ cR a_p1 a_p1_code a_p1_stack a_p1_table a_p2 a_p2_weight a_p2_membersOf a_t a_t_place a_p1_table_bits a_p1_table_trade p1_codes p2_in p2_all (t_count + (1 : Int32)) t_bestSet t_bestSpan t_bestWeight p1_table_in p1_table_fresh p1_table_tradeSought p1_code_r (r12.2) p2_membersOf_r p2_weight_r t_place_r p1_table_bits_r) := hD
            refine lv_isub hx hb dX2_seek_96 ?_
            refine lv_aload_n hx hb dX2_seek_97 rfl (lv_at hl 3 rfl) ?_
            refine lv_iload hx hb dX2_seek_98 (lv_at hl 0 rfl) ?_
            obtain ⟨r19, hr20, hf⟩ := bnd hf
            refine wcalli (D := D) (cI := cI) (cZ := cZ) (cR := cR) (wc := (wd_X7_weightOf cI cZ cR a_p2 a_p2_weight a_p2_membersOf p2_in p2_all p2_weight_r)) (w' := (wd_X7_weightOf cI cZ cR a_p2 a_p2_weight a_p2_membersOf p2_in p2_all p2_weight_r)) [1, 7] hP hD hS hA rfl rfl rfl (rnV (As := [.int r10]) (ci := 7) (q0 := 1) X [1, 7] hK hP hD rfl rfl rfl rfl (c_X7_weightOf l D cI cZ cR hr20) (cwV 1 hts gX2_seek_X7_weightOf rfl rfl rfl (by decide +kernel) ⟨Nat.le_of_ble_eq_true rfl, Nat.le_of_ble_eq_true rfl⟩) rfl hl.1 rfl (Nat.le_of_ble_eq_true rfl) dX2_seek_100) (fun H locs hP hD hS => ?_)
            have hP : va_P D vwCl (wd_X2_seek cI cZ cR a_p1 a_p1_code a_p1_stack a_p1_table a_p2 a_p2_weight a_p2_membersOf a_t a_t_place a_p1_table_bits a_p1_table_trade p1_codes p2_in p2_all (t_count + (1 : Int32)) t_bestSet t_bestSpan t_bestWeight p1_table_in p1_table_fresh p1_table_tradeSought p1_code_r (r12.2) p2_membersOf_r p2_weight_r t_place_r p1_table_bits_r) H := hP
            have hD : va_D A (wd_X2_seek cI cZ cR a_p1 a_p1_code a_p1_stack a_p1_table a_p2 a_p2_weight a_p2_membersOf a_t a_t_place a_p1_table_bits a_p1_table_trade p1_codes p2_in p2_all (t_count + (1 : Int32)) t_bestSet t_bestSpan t_bestWeight p1_table_in p1_table_fresh p1_table_tradeSought p1_code_r (r12.2) p2_membersOf_r p2_weight_r t_place_r p1_table_bits_r) := hD
            obtain ⟨r21, hr22, hf⟩ := bnd hf
            refine wcallv (D := D) (cI := cI) (cZ := cZ) (cR := cR) (wc := (wd_X2_keepBetter cI cZ cR a_t a_t_place (t_count + (1 : Int32)) t_bestSet t_bestSpan t_bestWeight)) (w' := (wd_X2_keepBetter cI cZ cR a_t a_t_place (t_count + (1 : Int32)) (r21.1) (r21.2.1) (r21.2.2))) [2] hP hD hS hA rfl rfl rfl (rnV (As := [.int x4, .int (r15 - r17), .int r19]) (ci := 2) (q0 := 2) X [2] hK hP hD rfl rfl rfl rfl (c_X2_keepBetter l D cI cZ cR hr22) (cwV 3 hts gX2_seek_X2_keepBetter rfl rfl rfl (by decide +kernel) ⟨Nat.le_of_ble_eq_true rfl, Nat.le_of_ble_eq_true rfl⟩) rfl hl.1 rfl (Nat.le_of_ble_eq_true rfl) dX2_seek_103) (fun H locs hP hD hS => ?_)
            have hP : va_P D vwCl (wd_X2_seek cI cZ cR a_p1 a_p1_code a_p1_stack a_p1_table a_p2 a_p2_weight a_p2_membersOf a_t a_t_place a_p1_table_bits a_p1_table_trade p1_codes p2_in p2_all (t_count + (1 : Int32)) (r21.1) (r21.2.1) (r21.2.2) p1_table_in p1_table_fresh p1_table_tradeSought p1_code_r (r12.2) p2_membersOf_r p2_weight_r t_place_r p1_table_bits_r) H := hP
            have hD : va_D A (wd_X2_seek cI cZ cR a_p1 a_p1_code a_p1_stack a_p1_table a_p2 a_p2_weight a_p2_membersOf a_t a_t_place a_p1_table_bits a_p1_table_trade p1_codes p2_in p2_all (t_count + (1 : Int32)) (r21.1) (r21.2.1) (r21.2.2) p1_table_in p1_table_fresh p1_table_tradeSought p1_code_r (r12.2) p2_membersOf_r p2_weight_r t_place_r p1_table_bits_r) := hD
            refine lv_iinc (v := (x4 + (1 : Int32))) (lv' := [(4, .int (x4 + (1 : Int32))), (5, .int r10), (0, .ref a_t), (1, .ref a_p1), (2, .ref a_p2), (3, .int x3)]) hx hb dX2_seek_106 hl (k := 5) rfl rfl (by decide) rfl (fun ls hl => ?_)
            refine lv_goto (tgt := 28) hx hb dX2_seek_109 (by decide) ?_
            exact ih x3 (x4 + (1 : Int32)) (r12.2) (r21.1) (r21.2.1) (r21.2.2) (t_count + (1 : Int32)) hf _ _ hP hD hS _ (lv_sub hl [2, 3, 4, 5, 0] rfl)
set_option maxHeartbeats 4000000 in
set_option maxRecDepth 100000 in
theorem c_X2_seek (l : Launch) (D : va_G) (cI cZ cR : ClassId) {a_p1 a_p1_code a_p1_stack a_p1_table a_p2 a_p2_weight a_p2_membersOf a_t a_t_place a_p1_table_bits a_p1_table_trade : Nat} {p1_codes : Int32} {p2_in : Int32} {p2_all : Int32} {t_count : Int32} {t_bestSet : Int32} {t_bestSpan : Int32} {t_bestWeight : Int32} {p1_table_in : Int32} {p1_table_fresh : Int32} {p1_table_tradeSought : Int32} {p1_code_r : Nat → Int32} {p1_stack_r : Nat → Int32} {p2_membersOf_r : Nat → Int32} {p2_weight_r : Nat → Int32} {t_place_r : Nat → Int32} {p1_table_bits_r : Nat → Int32} {sz : Nat} {out : (Nat → Int32) × Int32 × Int32 × Int32 × Int32} (hf : F_X2_seek p1_codes p1_code_r p1_stack_r p1_table_fresh p1_table_bits_r p2_all p2_in p2_membersOf_r p2_weight_r t_bestSet t_bestSpan t_bestWeight t_count t_place_r = some out) : CV l yX2_seek wsX2_seek ({ frames := 4, cells := 0, slots := 0, locals := 93 } : Room) D cI cZ cR [.ref a_t, .ref a_p1, .ref a_p2] (wd_X2_seek cI cZ cR a_p1 a_p1_code a_p1_stack a_p1_table a_p2 a_p2_weight a_p2_membersOf a_t a_t_place a_p1_table_bits a_p1_table_trade p1_codes p2_in p2_all t_count t_bestSet t_bestSpan t_bestWeight p1_table_in p1_table_fresh p1_table_tradeSought p1_code_r p1_stack_r p2_membersOf_r p2_weight_r t_place_r p1_table_bits_r) sz (wd_X2_seek cI cZ cR a_p1 a_p1_code a_p1_stack a_p1_table a_p2 a_p2_weight a_p2_membersOf a_t a_t_place a_p1_table_bits a_p1_table_trade p1_codes p2_in p2_all (out.2.2.2.2) (out.2.1) (out.2.2.1) (out.2.2.2.1) p1_table_in p1_table_fresh p1_table_tradeSought p1_code_r (out.1) p2_membersOf_r p2_weight_r t_place_r p1_table_bits_r) := by
  refine met_of (Qf := fun A => qv D cI cZ cR A (wd_X2_seek cI cZ cR a_p1 a_p1_code a_p1_stack a_p1_table a_p2 a_p2_weight a_p2_membersOf a_t a_t_place a_p1_table_bits a_p1_table_trade p1_codes p2_in p2_all (out.2.2.2.2) (out.2.1) (out.2.2.1) (out.2.2.2.1) p1_table_in p1_table_fresh p1_table_tradeSought p1_code_r (out.1) p2_membersOf_r p2_weight_r t_place_r p1_table_bits_r)) RX2 (by decide +kernel) rfl rfl (Nat.le_of_ble_eq_true rfl) ?_
  intro p e s m below meth c A X hK hA hP hD hS ls hl
  have hl : lv_has ls 6 [(0, .ref a_t), (1, .ref a_p1), (2, .ref a_p2)] := hl
  obtain ⟨hx, hb, hml, hr, hown, hts, hlocks, hN⟩ := id X
  unfold F_X2_seek at hf
  refine lv_aload_n hx hb dX2_seek_0 rfl (lv_at hl 2 rfl) ?_
  obtain ⟨r1, hr2, hf⟩ := bnd hf
  refine wcalli (D := D) (cI := cI) (cZ := cZ) (cR := cR) (wc := (wd_X7_blocs cI cZ cR a_p2 a_p2_weight a_p2_membersOf p2_in p2_all p2_membersOf_r)) (w' := (wd_X7_blocs cI cZ cR a_p2 a_p2_weight a_p2_membersOf p2_in p2_all p2_membersOf_r)) [1, 6] hP hD hS hA rfl rfl rfl (rnV (As := []) (ci := 7) (q0 := 1) X [1, 6] hK hP hD rfl rfl rfl rfl (c_X7_blocs l D cI cZ cR hr2) (cwV 0 hts gX2_seek_X7_blocs rfl rfl rfl (by decide +kernel) ⟨Nat.le_of_ble_eq_true rfl, Nat.le_of_ble_eq_true rfl⟩) rfl hl.1 rfl (Nat.le_of_ble_eq_true rfl) dX2_seek_1) (fun H locs hP hD hS => ?_)
  have hP : va_P D vwCl (wd_X2_seek cI cZ cR a_p1 a_p1_code a_p1_stack a_p1_table a_p2 a_p2_weight a_p2_membersOf a_t a_t_place a_p1_table_bits a_p1_table_trade p1_codes p2_in p2_all t_count t_bestSet t_bestSpan t_bestWeight p1_table_in p1_table_fresh p1_table_tradeSought p1_code_r p1_stack_r p2_membersOf_r p2_weight_r t_place_r p1_table_bits_r) H := hP
  have hD : va_D A (wd_X2_seek cI cZ cR a_p1 a_p1_code a_p1_stack a_p1_table a_p2 a_p2_weight a_p2_membersOf a_t a_t_place a_p1_table_bits a_p1_table_trade p1_codes p2_in p2_all t_count t_bestSet t_bestSpan t_bestWeight p1_table_in p1_table_fresh p1_table_tradeSought p1_code_r p1_stack_r p2_membersOf_r p2_weight_r t_place_r p1_table_bits_r) := hD
  refine lv_istore_n (lv' := [(3, .int r1), (0, .ref a_t), (1, .ref a_p1), (2, .ref a_p2)]) hx hb dX2_seek_4 rfl hl (by decide) rfl (fun ls hl => ?_)
  refine lv_aload_n hx hb dX2_seek_5 rfl (lv_at hl 1 rfl) ?_
  refine lv_iconst (v := (0 : Int32)) hx hb dX2_seek_6 (by decide) ?_
  refine va_put (D := D) (ci := 2) (v := .int (0 : Int32)) (ty := .int) (C := RX2) (T := TX2) (N := 5) hx hb hts in_X2_seek_X2 tyX2 tyX2_ok nmX2 hown hK hP hD hS 2 rfl rfl 1 (by decide) (hts (.fieldLink RX2 21 "DivisionHall$Line" "count" "I") (by decide +kernel)) (fun _ h9 => h9) rfl (by decide +kernel) rfl rfl (Nat.le_of_ble_eq_true rfl) dX2_seek_7 (fun H locs hP hD hS => ?_)
  have hP : va_P D vwCl (wd_X2_seek cI cZ cR a_p1 a_p1_code a_p1_stack a_p1_table a_p2 a_p2_weight a_p2_membersOf a_t a_t_place a_p1_table_bits a_p1_table_trade p1_codes p2_in p2_all (0 : Int32) t_bestSet t_bestSpan t_bestWeight p1_table_in p1_table_fresh p1_table_tradeSought p1_code_r p1_stack_r p2_membersOf_r p2_weight_r t_place_r p1_table_bits_r) H := hP
  have hD : va_D A (wd_X2_seek cI cZ cR a_p1 a_p1_code a_p1_stack a_p1_table a_p2 a_p2_weight a_p2_membersOf a_t a_t_place a_p1_table_bits a_p1_table_trade p1_codes p2_in p2_all (0 : Int32) t_bestSet t_bestSpan t_bestWeight p1_table_in p1_table_fresh p1_table_tradeSought p1_code_r p1_stack_r p2_membersOf_r p2_weight_r t_place_r p1_table_bits_r) := hD
  refine lv_aload_n hx hb dX2_seek_10 rfl (lv_at hl 1 rfl) ?_
  refine lv_iconst (v := (-1 : Int32)) hx hb dX2_seek_11 (by decide) ?_
  refine va_put (D := D) (ci := 2) (v := .int (-1 : Int32)) (ty := .int) (C := RX2) (T := TX2) (N := 5) hx hb hts in_X2_seek_X2 tyX2 tyX2_ok nmX2 hown hK hP hD hS 2 rfl rfl 2 (by decide) (hts (.fieldLink RX2 25 "DivisionHall$Line" "bestSet" "I") (by decide +kernel)) (fun _ h9 => h9) rfl (by decide +kernel) rfl rfl (Nat.le_of_ble_eq_true rfl) dX2_seek_12 (fun H locs hP hD hS => ?_)
  have hP : va_P D vwCl (wd_X2_seek cI cZ cR a_p1 a_p1_code a_p1_stack a_p1_table a_p2 a_p2_weight a_p2_membersOf a_t a_t_place a_p1_table_bits a_p1_table_trade p1_codes p2_in p2_all (0 : Int32) (-1 : Int32) t_bestSpan t_bestWeight p1_table_in p1_table_fresh p1_table_tradeSought p1_code_r p1_stack_r p2_membersOf_r p2_weight_r t_place_r p1_table_bits_r) H := hP
  have hD : va_D A (wd_X2_seek cI cZ cR a_p1 a_p1_code a_p1_stack a_p1_table a_p2 a_p2_weight a_p2_membersOf a_t a_t_place a_p1_table_bits a_p1_table_trade p1_codes p2_in p2_all (0 : Int32) (-1 : Int32) t_bestSpan t_bestWeight p1_table_in p1_table_fresh p1_table_tradeSought p1_code_r p1_stack_r p2_membersOf_r p2_weight_r t_place_r p1_table_bits_r) := hD
  refine lv_aload_n hx hb dX2_seek_15 rfl (lv_at hl 1 rfl) ?_
  refine lv_iconst (v := (-1 : Int32)) hx hb dX2_seek_16 (by decide) ?_
  refine va_put (D := D) (ci := 2) (v := .int (-1 : Int32)) (ty := .int) (C := RX2) (T := TX2) (N := 5) hx hb hts in_X2_seek_X2 tyX2 tyX2_ok nmX2 hown hK hP hD hS 2 rfl rfl 3 (by decide) (hts (.fieldLink RX2 28 "DivisionHall$Line" "bestSpan" "I") (by decide +kernel)) (fun _ h9 => h9) rfl (by decide +kernel) rfl rfl (Nat.le_of_ble_eq_true rfl) dX2_seek_17 (fun H locs hP hD hS => ?_)
  have hP : va_P D vwCl (wd_X2_seek cI cZ cR a_p1 a_p1_code a_p1_stack a_p1_table a_p2 a_p2_weight a_p2_membersOf a_t a_t_place a_p1_table_bits a_p1_table_trade p1_codes p2_in p2_all (0 : Int32) (-1 : Int32) (-1 : Int32) t_bestWeight p1_table_in p1_table_fresh p1_table_tradeSought p1_code_r p1_stack_r p2_membersOf_r p2_weight_r t_place_r p1_table_bits_r) H := hP
  have hD : va_D A (wd_X2_seek cI cZ cR a_p1 a_p1_code a_p1_stack a_p1_table a_p2 a_p2_weight a_p2_membersOf a_t a_t_place a_p1_table_bits a_p1_table_trade p1_codes p2_in p2_all (0 : Int32) (-1 : Int32) (-1 : Int32) t_bestWeight p1_table_in p1_table_fresh p1_table_tradeSought p1_code_r p1_stack_r p2_membersOf_r p2_weight_r t_place_r p1_table_bits_r) := hD
  refine lv_aload_n hx hb dX2_seek_20 rfl (lv_at hl 1 rfl) ?_
  refine lv_iconst (v := (-1 : Int32)) hx hb dX2_seek_21 (by decide) ?_
  refine va_put (D := D) (ci := 2) (v := .int (-1 : Int32)) (ty := .int) (C := RX2) (T := TX2) (N := 5) hx hb hts in_X2_seek_X2 tyX2 tyX2_ok nmX2 hown hK hP hD hS 2 rfl rfl 4 (by decide) (hts (.fieldLink RX2 31 "DivisionHall$Line" "bestWeight" "I") (by decide +kernel)) (fun _ h9 => h9) rfl (by decide +kernel) rfl rfl (Nat.le_of_ble_eq_true rfl) dX2_seek_22 (fun H locs hP hD hS => ?_)
  have hP : va_P D vwCl (wd_X2_seek cI cZ cR a_p1 a_p1_code a_p1_stack a_p1_table a_p2 a_p2_weight a_p2_membersOf a_t a_t_place a_p1_table_bits a_p1_table_trade p1_codes p2_in p2_all (0 : Int32) (-1 : Int32) (-1 : Int32) (-1 : Int32) p1_table_in p1_table_fresh p1_table_tradeSought p1_code_r p1_stack_r p2_membersOf_r p2_weight_r t_place_r p1_table_bits_r) H := hP
  have hD : va_D A (wd_X2_seek cI cZ cR a_p1 a_p1_code a_p1_stack a_p1_table a_p2 a_p2_weight a_p2_membersOf a_t a_t_place a_p1_table_bits a_p1_table_trade p1_codes p2_in p2_all (0 : Int32) (-1 : Int32) (-1 : Int32) (-1 : Int32) p1_table_in p1_table_fresh p1_table_tradeSought p1_code_r p1_stack_r p2_membersOf_r p2_weight_r t_place_r p1_table_bits_r) := hD
  refine lv_iconst (v := (1 : Int32)) hx hb dX2_seek_25 (by decide) ?_
  refine lv_istore (lv' := [(4, .int (1 : Int32)), (3, .int r1), (0, .ref a_t), (1, .ref a_p1), (2, .ref a_p2)]) hx hb dX2_seek_26 hl (by decide) rfl (fun ls hl => ?_)
  exact w_X2_seek_28 X hK hA _ r1 (1 : Int32) p1_stack_r (-1 : Int32) (-1 : Int32) (-1 : Int32) (0 : Int32) hf _ _ hP hD hS _ (lv_sub hl [2, 3, 4, 1, 0] rfl)
