set_option maxRecDepth 100000 in
theorem in_X7_init_X7 : ∀ w ∈ wsX70, w ∈ wsX7_init := by decide +kernel
abbrev wn_X7 (cI cZ cR : ClassId) (a_t q1 q2 : Nat) : va_W := [(a_t, oB 7 [.ref q1, .ref q2, .int 0, .int 0]), (q1, aI cI 10 (fun _ => 0)), (q2, aI cI 6 (fun _ => 0))]
set_option maxHeartbeats 8000000 in
set_option maxRecDepth 100000 in
theorem c_X7_init (l : Launch) (D : va_G) (cI cZ cR : ClassId) {a_t sz : Nat} : Met l yX7_init wsX7_init ({ frames := 1, cells := 2, slots := 16, locals := 12 } : Room) (pre D cI cZ cR [.ref a_t] [(a_t, oB 7 [.null, .null, .int 0, .int 0])] sz) (va_Qv (fun (_ : Nat × Nat) => True) (fun u t => va_P D vwCl (wn_X7 cI cZ cR a_t (u.1) (u.2)) t.heap ∧ va_K D vwCl (ty3 cI cZ cR) t ∧ va_D (va_A [(a_t, oB 7 [.null, .null, .int 0, .int 0])] sz) (wn_X7 cI cZ cR a_t (u.1) (u.2))) (va_A [(a_t, oB 7 [.null, .null, .int 0, .int 0])] sz)) 2 16 (va_A [(a_t, oB 7 [.null, .null, .int 0, .int 0])] sz) := by
  refine met_ofN (Qf := fun A => va_Qv (fun (_ : Nat × Nat) => True) (fun u t => va_P D vwCl (wn_X7 cI cZ cR a_t (u.1) (u.2)) t.heap ∧ va_K D vwCl (ty3 cI cZ cR) t ∧ va_D A (wn_X7 cI cZ cR a_t (u.1) (u.2))) A) RX7 (by decide +kernel) rfl rfl (Nat.le_of_ble_eq_true rfl) ?_
  intro p e s m below meth c A X hin hK hA hP hD hS ls hl
  have hl : lv_has ls 1 [(0, .ref a_t)] := hl
  obtain ⟨hx, hb, hml, hr, hown, hts, hlocks, hN⟩ := id X
  refine lv_aload_n hx hb dX7_init_0 rfl (lv_at hl 0 rfl) ?_
  refine W.objInit hx hb hown (hts (.methodLink RX7 3 objectInit) (by decide +kernel)) (hts (.instanceMethod objectInit) (by decide +kernel)) (hts (.code objectInit ⟨#[0xb1]⟩ 1 none) (by decide +kernel)) rfl (by rw [hml]; exact hl.1) rfl dX7_init_1 (Nat.le_of_ble_eq_true rfl) (Nat.le_of_ble_eq_true rfl) ?_
  refine W.eq (g2 := F0 m 4 ls []) rfl ?_
  refine lv_aload_n hx hb dX7_init_4 rfl (lv_at hl 0 rfl) ?_
  refine lv_bipush (v := (10 : Int32)) hx hb dX7_init_5 (by decide) ?_
  refine va_newa (atype := .int) (ty := .int) (N' := 10) (a0 := (10, .inl (fun _ => 0))) hx hb (hts (.arrayClass .int) (by decide +kernel)) rfl hK hP hD hS hA (fun _ => rfl) (by decide) rfl (by show 10 * 4 ≤ 536870912; omega) (Nat.le_of_ble_eq_true rfl) (Nat.le_of_ble_eq_true rfl) dX7_init_7 (fun q1 cA H hKn hP hD hS => ?_)
  obtain rfl : cI = cA := arr_sameI hKn 0 3 rfl rfl
  have hP : va_P D vwCl [(a_t, oB 7 [.null, .null, .int 0, .int 0]), (q1, aI cI 10 (fun _ => 0))] H := hP
  have hD : va_D A [(a_t, oB 7 [.null, .null, .int 0, .int 0]), (q1, aI cI 10 (fun _ => 0))] := hD
  refine va_putF (D := D) (ci := 7) (v := .ref q1) (ty := (tyX7 0)) (C := RX7) (T := TX7) (N := 4) hx hb hts in_X7_init_X7 tyX7 tyX7_ok nmX7 hown hK hP hD hS 0 rfl rfl 0 (by decide) (hts (.fieldLink RX7 9 "DivisionHall$Seats" "weight" "[I") (by decide +kernel)) (fun _ h9 => h9) rfl hin rfl (by decide +kernel) rfl rfl (Nat.le_of_ble_eq_true rfl) dX7_init_9 (fun H locs hP hD hS => ?_)
  have hP : va_P D vwCl [(a_t, oB 7 [.ref q1, .null, .int 0, .int 0]), (q1, aI cI 10 (fun _ => 0))] H := hP
  have hD : va_D A [(a_t, oB 7 [.ref q1, .null, .int 0, .int 0]), (q1, aI cI 10 (fun _ => 0))] := hD
  refine lv_aload_n hx hb dX7_init_12 rfl (lv_at hl 0 rfl) ?_
  refine lv_bipush (v := (6 : Int32)) hx hb dX7_init_13 (by decide) ?_
  refine va_newa (atype := .int) (ty := .int) (N' := 6) (a0 := (6, .inl (fun _ => 0))) hx hb (hts (.arrayClass .int) (by decide +kernel)) rfl hK hP hD hS hA (fun _ => rfl) (by decide) rfl (by show 6 * 4 ≤ 536870912; omega) (Nat.le_of_ble_eq_true rfl) (Nat.le_of_ble_eq_true rfl) dX7_init_15 (fun q2 cA H hKn hP hD hS => ?_)
  obtain rfl : cI = cA := arr_sameI hKn 0 3 rfl rfl
  have hP : va_P D vwCl [(a_t, oB 7 [.ref q1, .null, .int 0, .int 0]), (q1, aI cI 10 (fun _ => 0)), (q2, aI cI 6 (fun _ => 0))] H := hP
  have hD : va_D A [(a_t, oB 7 [.ref q1, .null, .int 0, .int 0]), (q1, aI cI 10 (fun _ => 0)), (q2, aI cI 6 (fun _ => 0))] := hD
  refine va_putF (D := D) (ci := 7) (v := .ref q2) (ty := (tyX7 1)) (C := RX7) (T := TX7) (N := 4) hx hb hts in_X7_init_X7 tyX7 tyX7_ok nmX7 hown hK hP hD hS 0 rfl rfl 1 (by decide) (hts (.fieldLink RX7 15 "DivisionHall$Seats" "membersOf" "[I") (by decide +kernel)) (fun _ h9 => h9) rfl hin rfl (by decide +kernel) rfl rfl (Nat.le_of_ble_eq_true rfl) dX7_init_17 (fun H locs hP hD hS => ?_)
  have hP : va_P D vwCl [(a_t, oB 7 [.ref q1, .ref q2, .int 0, .int 0]), (q1, aI cI 10 (fun _ => 0)), (q2, aI cI 6 (fun _ => 0))] H := hP
  have hD : va_D A [(a_t, oB 7 [.ref q1, .ref q2, .int 0, .int 0]), (q1, aI cI 10 (fun _ => 0)), (q2, aI cI 6 (fun _ => 0))] := hD
  exact W.vret hx hb hr (fun t ht hW => ⟨⟨(q1, q2), rfl, trivial, by rw [ht]; exact hP, va_K.moved hW.alike hK, hD⟩, hS.F ht⟩) hS.2.2 dX7_init_20

set_option maxRecDepth 100000 in
theorem in_X3_init_X3 : ∀ w ∈ wsX30, w ∈ wsX3_init := by decide +kernel
abbrev wn_X3 (cI cZ cR : ClassId) (a_t q1 q2 q3 q4 q5 q6 : Nat) : va_W := [(a_t, oB 3 [.ref q1, .ref q2, .ref q3, .ref q4, .ref q5, .ref q6, .int 0]), (q1, aI cI 200 (fun _ => 0)), (q2, aI cI 200 (fun _ => 0)), (q3, aI cI 200 (fun _ => 0)), (q4, aI cI 200 (fun _ => 0)), (q5, aI cI 200 (fun _ => 0)), (q6, aI cI 10 (fun _ => 0))]
set_option maxHeartbeats 8000000 in
set_option maxRecDepth 100000 in
theorem c_X3_init (l : Launch) (D : va_G) (cI cZ cR : ClassId) {a_t sz : Nat} : Met l yX3_init wsX3_init ({ frames := 1, cells := 6, slots := 1010, locals := 12 } : Room) (pre D cI cZ cR [.ref a_t] [(a_t, oB 3 [.null, .null, .null, .null, .null, .null, .int 0])] sz) (va_Qv (fun (_ : Nat × Nat × Nat × Nat × Nat × Nat) => True) (fun u t => va_P D vwCl (wn_X3 cI cZ cR a_t (u.1) (u.2.1) (u.2.2.1) (u.2.2.2.1) (u.2.2.2.2.1) (u.2.2.2.2.2)) t.heap ∧ va_K D vwCl (ty3 cI cZ cR) t ∧ va_D (va_A [(a_t, oB 3 [.null, .null, .null, .null, .null, .null, .int 0])] sz) (wn_X3 cI cZ cR a_t (u.1) (u.2.1) (u.2.2.1) (u.2.2.2.1) (u.2.2.2.2.1) (u.2.2.2.2.2))) (va_A [(a_t, oB 3 [.null, .null, .null, .null, .null, .null, .int 0])] sz)) 6 1010 (va_A [(a_t, oB 3 [.null, .null, .null, .null, .null, .null, .int 0])] sz) := by
  refine met_ofN (Qf := fun A => va_Qv (fun (_ : Nat × Nat × Nat × Nat × Nat × Nat) => True) (fun u t => va_P D vwCl (wn_X3 cI cZ cR a_t (u.1) (u.2.1) (u.2.2.1) (u.2.2.2.1) (u.2.2.2.2.1) (u.2.2.2.2.2)) t.heap ∧ va_K D vwCl (ty3 cI cZ cR) t ∧ va_D A (wn_X3 cI cZ cR a_t (u.1) (u.2.1) (u.2.2.1) (u.2.2.2.1) (u.2.2.2.2.1) (u.2.2.2.2.2))) A) RX3 (by decide +kernel) rfl rfl (Nat.le_of_ble_eq_true rfl) ?_
  intro p e s m below meth c A X hin hK hA hP hD hS ls hl
  have hl : lv_has ls 1 [(0, .ref a_t)] := hl
  obtain ⟨hx, hb, hml, hr, hown, hts, hlocks, hN⟩ := id X
  refine lv_aload_n hx hb dX3_init_0 rfl (lv_at hl 0 rfl) ?_
  refine W.objInit hx hb hown (hts (.methodLink RX3 3 objectInit) (by decide +kernel)) (hts (.instanceMethod objectInit) (by decide +kernel)) (hts (.code objectInit ⟨#[0xb1]⟩ 1 none) (by decide +kernel)) rfl (by rw [hml]; exact hl.1) rfl dX3_init_1 (Nat.le_of_ble_eq_true rfl) (Nat.le_of_ble_eq_true rfl) ?_
  refine W.eq (g2 := F0 m 4 ls []) rfl ?_
  refine lv_aload_n hx hb dX3_init_4 rfl (lv_at hl 0 rfl) ?_
  refine lv_sipush (v := (200 : Int32)) hx hb dX3_init_5 (by decide) ?_
  refine va_newa (atype := .int) (ty := .int) (N' := 200) (a0 := (200, .inl (fun _ => 0))) hx hb (hts (.arrayClass .int) (by decide +kernel)) rfl hK hP hD hS hA (fun _ => rfl) (by decide) rfl (by show 200 * 4 ≤ 536870912; omega) (Nat.le_of_ble_eq_true rfl) (Nat.le_of_ble_eq_true rfl) dX3_init_8 (fun q1 cA H hKn hP hD hS => ?_)
  obtain rfl : cI = cA := arr_sameI hKn 0 3 rfl rfl
  have hP : va_P D vwCl [(a_t, oB 3 [.null, .null, .null, .null, .null, .null, .int 0]), (q1, aI cI 200 (fun _ => 0))] H := hP
  have hD : va_D A [(a_t, oB 3 [.null, .null, .null, .null, .null, .null, .int 0]), (q1, aI cI 200 (fun _ => 0))] := hD
  refine va_putF (D := D) (ci := 3) (v := .ref q1) (ty := (tyX3 0)) (C := RX3) (T := TX3) (N := 7) hx hb hts in_X3_init_X3 tyX3 tyX3_ok nmX3 hown hK hP hD hS 0 rfl rfl 0 (by decide) (hts (.fieldLink RX3 9 "DivisionHall$Log" "member" "[I") (by decide +kernel)) (fun _ h9 => h9) rfl hin rfl (by decide +kernel) rfl rfl (Nat.le_of_ble_eq_true rfl) dX3_init_10 (fun H locs hP hD hS => ?_)
  have hP : va_P D vwCl [(a_t, oB 3 [.ref q1, .null, .null, .null, .null, .null, .int 0]), (q1, aI cI 200 (fun _ => 0))] H := hP
  have hD : va_D A [(a_t, oB 3 [.ref q1, .null, .null, .null, .null, .null, .int 0]), (q1, aI cI 200 (fun _ => 0))] := hD
  refine lv_aload_n hx hb dX3_init_13 rfl (lv_at hl 0 rfl) ?_
  refine lv_sipush (v := (200 : Int32)) hx hb dX3_init_14 (by decide) ?_
  refine va_newa (atype := .int) (ty := .int) (N' := 200) (a0 := (200, .inl (fun _ => 0))) hx hb (hts (.arrayClass .int) (by decide +kernel)) rfl hK hP hD hS hA (fun _ => rfl) (by decide) rfl (by show 200 * 4 ≤ 536870912; omega) (Nat.le_of_ble_eq_true rfl) (Nat.le_of_ble_eq_true rfl) dX3_init_17 (fun q2 cA H hKn hP hD hS => ?_)
  obtain rfl : cI = cA := arr_sameI hKn 0 3 rfl rfl
  have hP : va_P D vwCl [(a_t, oB 3 [.ref q1, .null, .null, .null, .null, .null, .int 0]), (q1, aI cI 200 (fun _ => 0)), (q2, aI cI 200 (fun _ => 0))] H := hP
  have hD : va_D A [(a_t, oB 3 [.ref q1, .null, .null, .null, .null, .null, .int 0]), (q1, aI cI 200 (fun _ => 0)), (q2, aI cI 200 (fun _ => 0))] := hD
  refine va_putF (D := D) (ci := 3) (v := .ref q2) (ty := (tyX3 1)) (C := RX3) (T := TX3) (N := 7) hx hb hts in_X3_init_X3 tyX3 tyX3_ok nmX3 hown hK hP hD hS 0 rfl rfl 1 (by decide) (hts (.fieldLink RX3 15 "DivisionHall$Log" "day" "[I") (by decide +kernel)) (fun _ h9 => h9) rfl hin rfl (by decide +kernel) rfl rfl (Nat.le_of_ble_eq_true rfl) dX3_init_19 (fun H locs hP hD hS => ?_)
  have hP : va_P D vwCl [(a_t, oB 3 [.ref q1, .ref q2, .null, .null, .null, .null, .int 0]), (q1, aI cI 200 (fun _ => 0)), (q2, aI cI 200 (fun _ => 0))] H := hP
  have hD : va_D A [(a_t, oB 3 [.ref q1, .ref q2, .null, .null, .null, .null, .int 0]), (q1, aI cI 200 (fun _ => 0)), (q2, aI cI 200 (fun _ => 0))] := hD
  refine lv_aload_n hx hb dX3_init_22 rfl (lv_at hl 0 rfl) ?_
  refine lv_sipush (v := (200 : Int32)) hx hb dX3_init_23 (by decide) ?_
  refine va_newa (atype := .int) (ty := .int) (N' := 200) (a0 := (200, .inl (fun _ => 0))) hx hb (hts (.arrayClass .int) (by decide +kernel)) rfl hK hP hD hS hA (fun _ => rfl) (by decide) rfl (by show 200 * 4 ≤ 536870912; omega) (Nat.le_of_ble_eq_true rfl) (Nat.le_of_ble_eq_true rfl) dX3_init_26 (fun q3 cA H hKn hP hD hS => ?_)
  obtain rfl : cI = cA := arr_sameI hKn 0 3 rfl rfl
  have hP : va_P D vwCl [(a_t, oB 3 [.ref q1, .ref q2, .null, .null, .null, .null, .int 0]), (q1, aI cI 200 (fun _ => 0)), (q2, aI cI 200 (fun _ => 0)), (q3, aI cI 200 (fun _ => 0))] H := hP
  have hD : va_D A [(a_t, oB 3 [.ref q1, .ref q2, .null, .null, .null, .null, .int 0]), (q1, aI cI 200 (fun _ => 0)), (q2, aI cI 200 (fun _ => 0)), (q3, aI cI 200 (fun _ => 0))] := hD
  refine va_putF (D := D) (ci := 3) (v := .ref q3) (ty := (tyX3 2)) (C := RX3) (T := TX3) (N := 7) hx hb hts in_X3_init_X3 tyX3 tyX3_ok nmX3 hown hK hP hD hS 0 rfl rfl 2 (by decide) (hts (.fieldLink RX3 18 "DivisionHall$Log" "weight" "[I") (by decide +kernel)) (fun _ h9 => h9) rfl hin rfl (by decide +kernel) rfl rfl (Nat.le_of_ble_eq_true rfl) dX3_init_28 (fun H locs hP hD hS => ?_)
  have hP : va_P D vwCl [(a_t, oB 3 [.ref q1, .ref q2, .ref q3, .null, .null, .null, .int 0]), (q1, aI cI 200 (fun _ => 0)), (q2, aI cI 200 (fun _ => 0)), (q3, aI cI 200 (fun _ => 0))] H := hP
  have hD : va_D A [(a_t, oB 3 [.ref q1, .ref q2, .ref q3, .null, .null, .null, .int 0]), (q1, aI cI 200 (fun _ => 0)), (q2, aI cI 200 (fun _ => 0)), (q3, aI cI 200 (fun _ => 0))] := hD
  refine lv_aload_n hx hb dX3_init_31 rfl (lv_at hl 0 rfl) ?_
  refine lv_sipush (v := (200 : Int32)) hx hb dX3_init_32 (by decide) ?_
  refine va_newa (atype := .int) (ty := .int) (N' := 200) (a0 := (200, .inl (fun _ => 0))) hx hb (hts (.arrayClass .int) (by decide +kernel)) rfl hK hP hD hS hA (fun _ => rfl) (by decide) rfl (by show 200 * 4 ≤ 536870912; omega) (Nat.le_of_ble_eq_true rfl) (Nat.le_of_ble_eq_true rfl) dX3_init_35 (fun q4 cA H hKn hP hD hS => ?_)
  obtain rfl : cI = cA := arr_sameI hKn 0 3 rfl rfl
  have hP : va_P D vwCl [(a_t, oB 3 [.ref q1, .ref q2, .ref q3, .null, .null, .null, .int 0]), (q1, aI cI 200 (fun _ => 0)), (q2, aI cI 200 (fun _ => 0)), (q3, aI cI 200 (fun _ => 0)), (q4, aI cI 200 (fun _ => 0))] H := hP
  have hD : va_D A [(a_t, oB 3 [.ref q1, .ref q2, .ref q3, .null, .null, .null, .int 0]), (q1, aI cI 200 (fun _ => 0)), (q2, aI cI 200 (fun _ => 0)), (q3, aI cI 200 (fun _ => 0)), (q4, aI cI 200 (fun _ => 0))] := hD
  refine va_putF (D := D) (ci := 3) (v := .ref q4) (ty := (tyX3 3)) (C := RX3) (T := TX3) (N := 7) hx hb hts in_X3_init_X3 tyX3 tyX3_ok nmX3 hown hK hP hD hS 0 rfl rfl 3 (by decide) (hts (.fieldLink RX3 21 "DivisionHall$Log" "bloc" "[I") (by decide +kernel)) (fun _ h9 => h9) rfl hin rfl (by decide +kernel) rfl rfl (Nat.le_of_ble_eq_true rfl) dX3_init_37 (fun H locs hP hD hS => ?_)
  have hP : va_P D vwCl [(a_t, oB 3 [.ref q1, .ref q2, .ref q3, .ref q4, .null, .null, .int 0]), (q1, aI cI 200 (fun _ => 0)), (q2, aI cI 200 (fun _ => 0)), (q3, aI cI 200 (fun _ => 0)), (q4, aI cI 200 (fun _ => 0))] H := hP
  have hD : va_D A [(a_t, oB 3 [.ref q1, .ref q2, .ref q3, .ref q4, .null, .null, .int 0]), (q1, aI cI 200 (fun _ => 0)), (q2, aI cI 200 (fun _ => 0)), (q3, aI cI 200 (fun _ => 0)), (q4, aI cI 200 (fun _ => 0))] := hD
  refine lv_aload_n hx hb dX3_init_40 rfl (lv_at hl 0 rfl) ?_
  refine lv_sipush (v := (200 : Int32)) hx hb dX3_init_41 (by decide) ?_
  refine va_newa (atype := .int) (ty := .int) (N' := 200) (a0 := (200, .inl (fun _ => 0))) hx hb (hts (.arrayClass .int) (by decide +kernel)) rfl hK hP hD hS hA (fun _ => rfl) (by decide) rfl (by show 200 * 4 ≤ 536870912; omega) (Nat.le_of_ble_eq_true rfl) (Nat.le_of_ble_eq_true rfl) dX3_init_44 (fun q5 cA H hKn hP hD hS => ?_)
  obtain rfl : cI = cA := arr_sameI hKn 0 3 rfl rfl
  have hP : va_P D vwCl [(a_t, oB 3 [.ref q1, .ref q2, .ref q3, .ref q4, .null, .null, .int 0]), (q1, aI cI 200 (fun _ => 0)), (q2, aI cI 200 (fun _ => 0)), (q3, aI cI 200 (fun _ => 0)), (q4, aI cI 200 (fun _ => 0)), (q5, aI cI 200 (fun _ => 0))] H := hP
  have hD : va_D A [(a_t, oB 3 [.ref q1, .ref q2, .ref q3, .ref q4, .null, .null, .int 0]), (q1, aI cI 200 (fun _ => 0)), (q2, aI cI 200 (fun _ => 0)), (q3, aI cI 200 (fun _ => 0)), (q4, aI cI 200 (fun _ => 0)), (q5, aI cI 200 (fun _ => 0))] := hD
  refine va_putF (D := D) (ci := 3) (v := .ref q5) (ty := (tyX3 4)) (C := RX3) (T := TX3) (N := 7) hx hb hts in_X3_init_X3 tyX3 tyX3_ok nmX3 hown hK hP hD hS 0 rfl rfl 4 (by decide) (hts (.fieldLink RX3 24 "DivisionHall$Log" "told" "[I") (by decide +kernel)) (fun _ h9 => h9) rfl hin rfl (by decide +kernel) rfl rfl (Nat.le_of_ble_eq_true rfl) dX3_init_46 (fun H locs hP hD hS => ?_)
  have hP : va_P D vwCl [(a_t, oB 3 [.ref q1, .ref q2, .ref q3, .ref q4, .ref q5, .null, .int 0]), (q1, aI cI 200 (fun _ => 0)), (q2, aI cI 200 (fun _ => 0)), (q3, aI cI 200 (fun _ => 0)), (q4, aI cI 200 (fun _ => 0)), (q5, aI cI 200 (fun _ => 0))] H := hP
  have hD : va_D A [(a_t, oB 3 [.ref q1, .ref q2, .ref q3, .ref q4, .ref q5, .null, .int 0]), (q1, aI cI 200 (fun _ => 0)), (q2, aI cI 200 (fun _ => 0)), (q3, aI cI 200 (fun _ => 0)), (q4, aI cI 200 (fun _ => 0)), (q5, aI cI 200 (fun _ => 0))] := hD
  refine lv_aload_n hx hb dX3_init_49 rfl (lv_at hl 0 rfl) ?_
  refine lv_bipush (v := (10 : Int32)) hx hb dX3_init_50 (by decide) ?_
  refine va_newa (atype := .int) (ty := .int) (N' := 10) (a0 := (10, .inl (fun _ => 0))) hx hb (hts (.arrayClass .int) (by decide +kernel)) rfl hK hP hD hS hA (fun _ => rfl) (by decide) rfl (by show 10 * 4 ≤ 536870912; omega) (Nat.le_of_ble_eq_true rfl) (Nat.le_of_ble_eq_true rfl) dX3_init_52 (fun q6 cA H hKn hP hD hS => ?_)
  obtain rfl : cI = cA := arr_sameI hKn 0 3 rfl rfl
  have hP : va_P D vwCl [(a_t, oB 3 [.ref q1, .ref q2, .ref q3, .ref q4, .ref q5, .null, .int 0]), (q1, aI cI 200 (fun _ => 0)), (q2, aI cI 200 (fun _ => 0)), (q3, aI cI 200 (fun _ => 0)), (q4, aI cI 200 (fun _ => 0)), (q5, aI cI 200 (fun _ => 0)), (q6, aI cI 10 (fun _ => 0))] H := hP
  have hD : va_D A [(a_t, oB 3 [.ref q1, .ref q2, .ref q3, .ref q4, .ref q5, .null, .int 0]), (q1, aI cI 200 (fun _ => 0)), (q2, aI cI 200 (fun _ => 0)), (q3, aI cI 200 (fun _ => 0)), (q4, aI cI 200 (fun _ => 0)), (q5, aI cI 200 (fun _ => 0)), (q6, aI cI 10 (fun _ => 0))] := hD
  refine va_putF (D := D) (ci := 3) (v := .ref q6) (ty := (tyX3 5)) (C := RX3) (T := TX3) (N := 7) hx hb hts in_X3_init_X3 tyX3 tyX3_ok nmX3 hown hK hP hD hS 0 rfl rfl 5 (by decide) (hts (.fieldLink RX3 27 "DivisionHall$Log" "latest" "[I") (by decide +kernel)) (fun _ h9 => h9) rfl hin rfl (by decide +kernel) rfl rfl (Nat.le_of_ble_eq_true rfl) dX3_init_54 (fun H locs hP hD hS => ?_)
  have hP : va_P D vwCl [(a_t, oB 3 [.ref q1, .ref q2, .ref q3, .ref q4, .ref q5, .ref q6, .int 0]), (q1, aI cI 200 (fun _ => 0)), (q2, aI cI 200 (fun _ => 0)), (q3, aI cI 200 (fun _ => 0)), (q4, aI cI 200 (fun _ => 0)), (q5, aI cI 200 (fun _ => 0)), (q6, aI cI 10 (fun _ => 0))] H := hP
  have hD : va_D A [(a_t, oB 3 [.ref q1, .ref q2, .ref q3, .ref q4, .ref q5, .ref q6, .int 0]), (q1, aI cI 200 (fun _ => 0)), (q2, aI cI 200 (fun _ => 0)), (q3, aI cI 200 (fun _ => 0)), (q4, aI cI 200 (fun _ => 0)), (q5, aI cI 200 (fun _ => 0)), (q6, aI cI 10 (fun _ => 0))] := hD
  exact W.vret hx hb hr (fun t ht hW => ⟨⟨(q1, q2, q3, q4, q5, q6), rfl, trivial, by rw [ht]; exact hP, va_K.moved hW.alike hK, hD⟩, hS.F ht⟩) hS.2.2 dX3_init_57

set_option maxRecDepth 100000 in
theorem in_X9_init_X9 : ∀ w ∈ wsX90, w ∈ wsX9_init := by decide +kernel
abbrev wn_X9 (cI cZ cR : ClassId) (a_t q1 q2 : Nat) : va_W := [(a_t, oB 8 [.ref q1, .ref q2, .int 0, .int 0, .int 0]), (q1, aI cI 32 (fun _ => 0)), (q2, aI cI 4 (fun _ => 0))]
set_option maxHeartbeats 8000000 in
set_option maxRecDepth 100000 in
theorem c_X9_init (l : Launch) (D : va_G) (cI cZ cR : ClassId) {a_t sz : Nat} : Met l yX9_init wsX9_init ({ frames := 1, cells := 2, slots := 36, locals := 12 } : Room) (pre D cI cZ cR [.ref a_t] [(a_t, oB 8 [.null, .null, .int 0, .int 0, .int 0])] sz) (va_Qv (fun (_ : Nat × Nat) => True) (fun u t => va_P D vwCl (wn_X9 cI cZ cR a_t (u.1) (u.2)) t.heap ∧ va_K D vwCl (ty3 cI cZ cR) t ∧ va_D (va_A [(a_t, oB 8 [.null, .null, .int 0, .int 0, .int 0])] sz) (wn_X9 cI cZ cR a_t (u.1) (u.2))) (va_A [(a_t, oB 8 [.null, .null, .int 0, .int 0, .int 0])] sz)) 2 36 (va_A [(a_t, oB 8 [.null, .null, .int 0, .int 0, .int 0])] sz) := by
  refine met_ofN (Qf := fun A => va_Qv (fun (_ : Nat × Nat) => True) (fun u t => va_P D vwCl (wn_X9 cI cZ cR a_t (u.1) (u.2)) t.heap ∧ va_K D vwCl (ty3 cI cZ cR) t ∧ va_D A (wn_X9 cI cZ cR a_t (u.1) (u.2))) A) RX9 (by decide +kernel) rfl rfl (Nat.le_of_ble_eq_true rfl) ?_
  intro p e s m below meth c A X hin hK hA hP hD hS ls hl
  have hl : lv_has ls 1 [(0, .ref a_t)] := hl
  obtain ⟨hx, hb, hml, hr, hown, hts, hlocks, hN⟩ := id X
  refine lv_aload_n hx hb dX9_init_0 rfl (lv_at hl 0 rfl) ?_
  refine W.objInit hx hb hown (hts (.methodLink RX9 3 objectInit) (by decide +kernel)) (hts (.instanceMethod objectInit) (by decide +kernel)) (hts (.code objectInit ⟨#[0xb1]⟩ 1 none) (by decide +kernel)) rfl (by rw [hml]; exact hl.1) rfl dX9_init_1 (Nat.le_of_ble_eq_true rfl) (Nat.le_of_ble_eq_true rfl) ?_
  refine W.eq (g2 := F0 m 4 ls []) rfl ?_
  refine lv_aload_n hx hb dX9_init_4 rfl (lv_at hl 0 rfl) ?_
  refine lv_bipush (v := (32 : Int32)) hx hb dX9_init_5 (by decide) ?_
  refine va_newa (atype := .int) (ty := .int) (N' := 32) (a0 := (32, .inl (fun _ => 0))) hx hb (hts (.arrayClass .int) (by decide +kernel)) rfl hK hP hD hS hA (fun _ => rfl) (by decide) rfl (by show 32 * 4 ≤ 536870912; omega) (Nat.le_of_ble_eq_true rfl) (Nat.le_of_ble_eq_true rfl) dX9_init_7 (fun q1 cA H hKn hP hD hS => ?_)
  obtain rfl : cI = cA := arr_sameI hKn 0 3 rfl rfl
  have hP : va_P D vwCl [(a_t, oB 8 [.null, .null, .int 0, .int 0, .int 0]), (q1, aI cI 32 (fun _ => 0))] H := hP
  have hD : va_D A [(a_t, oB 8 [.null, .null, .int 0, .int 0, .int 0]), (q1, aI cI 32 (fun _ => 0))] := hD
  refine va_putF (D := D) (ci := 8) (v := .ref q1) (ty := (tyX9 0)) (C := RX9) (T := TX9) (N := 5) hx hb hts in_X9_init_X9 tyX9 tyX9_ok nmX9 hown hK hP hD hS 0 rfl rfl 0 (by decide) (hts (.fieldLink RX9 9 "DivisionHall$Table" "bits" "[I") (by decide +kernel)) (fun _ h9 => h9) rfl hin rfl (by decide +kernel) rfl rfl (Nat.le_of_ble_eq_true rfl) dX9_init_9 (fun H locs hP hD hS => ?_)
  have hP : va_P D vwCl [(a_t, oB 8 [.ref q1, .null, .int 0, .int 0, .int 0]), (q1, aI cI 32 (fun _ => 0))] H := hP
  have hD : va_D A [(a_t, oB 8 [.ref q1, .null, .int 0, .int 0, .int 0]), (q1, aI cI 32 (fun _ => 0))] := hD
  refine lv_aload_n hx hb dX9_init_12 rfl (lv_at hl 0 rfl) ?_
  refine lv_iconst (v := (4 : Int32)) hx hb dX9_init_13 (by decide) ?_
  refine va_newa (atype := .int) (ty := .int) (N' := 4) (a0 := (4, .inl (fun _ => 0))) hx hb (hts (.arrayClass .int) (by decide +kernel)) rfl hK hP hD hS hA (fun _ => rfl) (by decide) rfl (by show 4 * 4 ≤ 536870912; omega) (Nat.le_of_ble_eq_true rfl) (Nat.le_of_ble_eq_true rfl) dX9_init_14 (fun q2 cA H hKn hP hD hS => ?_)
  obtain rfl : cI = cA := arr_sameI hKn 0 3 rfl rfl
  have hP : va_P D vwCl [(a_t, oB 8 [.ref q1, .null, .int 0, .int 0, .int 0]), (q1, aI cI 32 (fun _ => 0)), (q2, aI cI 4 (fun _ => 0))] H := hP
  have hD : va_D A [(a_t, oB 8 [.ref q1, .null, .int 0, .int 0, .int 0]), (q1, aI cI 32 (fun _ => 0)), (q2, aI cI 4 (fun _ => 0))] := hD
  refine va_putF (D := D) (ci := 8) (v := .ref q2) (ty := (tyX9 1)) (C := RX9) (T := TX9) (N := 5) hx hb hts in_X9_init_X9 tyX9 tyX9_ok nmX9 hown hK hP hD hS 0 rfl rfl 1 (by decide) (hts (.fieldLink RX9 15 "DivisionHall$Table" "trade" "[I") (by decide +kernel)) (fun _ h9 => h9) rfl hin rfl (by decide +kernel) rfl rfl (Nat.le_of_ble_eq_true rfl) dX9_init_16 (fun H locs hP hD hS => ?_)
  have hP : va_P D vwCl [(a_t, oB 8 [.ref q1, .ref q2, .int 0, .int 0, .int 0]), (q1, aI cI 32 (fun _ => 0)), (q2, aI cI 4 (fun _ => 0))] H := hP
  have hD : va_D A [(a_t, oB 8 [.ref q1, .ref q2, .int 0, .int 0, .int 0]), (q1, aI cI 32 (fun _ => 0)), (q2, aI cI 4 (fun _ => 0))] := hD
  exact W.vret hx hb hr (fun t ht hW => ⟨⟨(q1, q2), rfl, trivial, by rw [ht]; exact hP, va_K.moved hW.alike hK, hD⟩, hS.F ht⟩) hS.2.2 dX9_init_19

set_option maxRecDepth 100000 in
theorem in_X1_init_X1 : ∀ w ∈ wsX10, w ∈ wsX1_init := by decide +kernel
set_option maxRecDepth 100000 in
theorem in_X1_init_X9 : ∀ w ∈ wsX90, w ∈ wsX1_init := by decide +kernel
abbrev wn_X1 (cI cZ cR : ClassId) (a_t q1 q2 q3 q4 : Nat) : va_W := [(a_t, oB 1 [.ref q1, .ref q2, .int 0]), (q1, aI cI 252 (fun _ => 0)), (q2, oB 8 [.ref q3, .ref q4, .int 0, .int 0, .int 0]), (q3, aI cI 32 (fun _ => 0)), (q4, aI cI 4 (fun _ => 0))]
set_option maxHeartbeats 8000000 in
set_option maxRecDepth 100000 in
theorem c_X1_init (l : Launch) (D : va_G) (cI cZ cR : ClassId) {a_t sz : Nat} : Met l yX1_init wsX1_init ({ frames := 2, cells := 4, slots := 293, locals := 32 } : Room) (pre D cI cZ cR [.ref a_t] [(a_t, oB 1 [.null, .null, .int 0])] sz) (va_Qv (fun (_ : Nat × Nat × Nat × Nat) => True) (fun u t => va_P D vwCl (wn_X1 cI cZ cR a_t (u.1) (u.2.1) (u.2.2.1) (u.2.2.2)) t.heap ∧ va_K D vwCl (ty3 cI cZ cR) t ∧ va_D (va_A [(a_t, oB 1 [.null, .null, .int 0])] sz) (wn_X1 cI cZ cR a_t (u.1) (u.2.1) (u.2.2.1) (u.2.2.2))) (va_A [(a_t, oB 1 [.null, .null, .int 0])] sz)) 4 293 (va_A [(a_t, oB 1 [.null, .null, .int 0])] sz) := by
  refine met_ofN (Qf := fun A => va_Qv (fun (_ : Nat × Nat × Nat × Nat) => True) (fun u t => va_P D vwCl (wn_X1 cI cZ cR a_t (u.1) (u.2.1) (u.2.2.1) (u.2.2.2)) t.heap ∧ va_K D vwCl (ty3 cI cZ cR) t ∧ va_D A (wn_X1 cI cZ cR a_t (u.1) (u.2.1) (u.2.2.1) (u.2.2.2))) A) RX1 (by decide +kernel) rfl rfl (Nat.le_of_ble_eq_true rfl) ?_
  intro p e s m below meth c A X hin hK hA hP hD hS ls hl
  have hl : lv_has ls 1 [(0, .ref a_t)] := hl
  obtain ⟨hx, hb, hml, hr, hown, hts, hlocks, hN⟩ := id X
  refine lv_aload_n hx hb dX1_init_0 rfl (lv_at hl 0 rfl) ?_
  refine W.objInit hx hb hown (hts (.methodLink RX1 3 objectInit) (by decide +kernel)) (hts (.instanceMethod objectInit) (by decide +kernel)) (hts (.code objectInit ⟨#[0xb1]⟩ 1 none) (by decide +kernel)) rfl (by rw [hml]; exact hl.1) rfl dX1_init_1 (Nat.le_of_ble_eq_true rfl) (Nat.le_of_ble_eq_true rfl) ?_
  refine W.eq (g2 := F0 m 4 ls []) rfl ?_
  refine lv_aload_n hx hb dX1_init_4 rfl (lv_at hl 0 rfl) ?_
  refine lv_sipush (v := (252 : Int32)) hx hb dX1_init_5 (by decide) ?_
  refine va_newa (atype := .int) (ty := .int) (N' := 252) (a0 := (252, .inl (fun _ => 0))) hx hb (hts (.arrayClass .int) (by decide +kernel)) rfl hK hP hD hS hA (fun _ => rfl) (by decide) rfl (by show 252 * 4 ≤ 536870912; omega) (Nat.le_of_ble_eq_true rfl) (Nat.le_of_ble_eq_true rfl) dX1_init_8 (fun q1 cA H hKn hP hD hS => ?_)
  obtain rfl : cI = cA := arr_sameI hKn 0 3 rfl rfl
  have hP : va_P D vwCl [(a_t, oB 1 [.null, .null, .int 0]), (q1, aI cI 252 (fun _ => 0))] H := hP
  have hD : va_D A [(a_t, oB 1 [.null, .null, .int 0]), (q1, aI cI 252 (fun _ => 0))] := hD
  refine va_putF (D := D) (ci := 1) (v := .ref q1) (ty := (tyX1 0)) (C := RX1) (T := TX1) (N := 3) hx hb hts in_X1_init_X1 tyX1 tyX1_ok nmX1 hown hK hP hD hS 0 rfl rfl 0 (by decide) (hts (.fieldLink RX1 11 "DivisionHall$Leasts" "found" "[I") (by decide +kernel)) (fun _ h9 => h9) rfl hin rfl (by decide +kernel) rfl rfl (Nat.le_of_ble_eq_true rfl) dX1_init_10 (fun H locs hP hD hS => ?_)
  have hP : va_P D vwCl [(a_t, oB 1 [.ref q1, .null, .int 0]), (q1, aI cI 252 (fun _ => 0))] H := hP
  have hD : va_D A [(a_t, oB 1 [.ref q1, .null, .int 0]), (q1, aI cI 252 (fun _ => 0))] := hD
  refine lv_aload_n hx hb dX1_init_13 rfl (lv_at hl 0 rfl) ?_
  refine va_new (ci := 8) (fs := [.null, .null, .int 0, .int 0, .int 0]) (C := RX9) (T := TX9) (N := 5) hx hb hts in_X1_init_X9 tyX9 tyX9_ok hown (hts (.classLink RX1 15 RX9) (by decide +kernel)) (hts (.instantiable RX9 5) (by decide +kernel)) (hts (.initialized RX9) (by decide +kernel)) hK hP hD hS hA rfl (by intro j hj; rcases (show j = 0 ∨ j = 1 ∨ j = 2 ∨ j = 3 ∨ j = 4 by omega) with rfl | rfl | rfl | rfl | rfl <;> rfl) (Nat.le_of_ble_eq_true rfl) (Nat.le_of_ble_eq_true rfl) dX1_init_14 (fun q2 H hP hD hS => ?_)
  have hP : va_P D vwCl [(a_t, oB 1 [.ref q1, .null, .int 0]), (q1, aI cI 252 (fun _ => 0)), (q2, oB 8 [.null, .null, .int 0, .int 0, .int 0])] H := hP
  have hD : va_D A [(a_t, oB 1 [.ref q1, .null, .int 0]), (q1, aI cI 252 (fun _ => 0)), (q2, oB 8 [.null, .null, .int 0, .int 0, .int 0])] := hD
  refine lv_dup hx hb dX1_init_17 rfl ?_
  have hPc := hP.sub (ws' := [(q2, oB 8 [.null, .null, .int 0, .int 0, .int 0])]) [2] rfl
  have hFc := va_free (wc := [(q2, oB 8 [.null, .null, .int 0, .int 0, .int 0])]) hD hS hA [2] rfl
  refine va_callv (va_runIN (host := "DivisionHall") (As := []) (rest := [.ref q2, .ref a_t]) ⟨hx, hb, hml, hown, hts⟩ (c_X9_init l D cI cZ cR) ⟨va_cnB (host := "DivisionHall") 0 hts ggX1_init_X9_init rfl rfl rfl (hN.2.1 ("DivisionHall$Leasts", 17, yX9_init, "DivisionHall") (by decide +kernel)) (hts (.initialized RX9) (by decide +kernel)) (by decide +kernel) ⟨Nat.le_of_ble_eq_true rfl, Nat.le_of_ble_eq_true rfl⟩, rfl, hts (.instanceMethod yX9_init) (by decide +kernel)⟩ ⟨pre_blind, pre_of hK hN hP hD [2] rfl rfl⟩ rfl rfl hl.1 rfl (lv_room (Nat.le_of_ble_eq_true rfl)) dX1_init_18 ⟨Nat.le_of_ble_eq_true rfl, Nat.le_of_ble_eq_true rfl⟩) hS (fun q _ h => hFc q h) hFc (fun u3 t H1 locs ht hvm hw hB hz1 hk1 hS => ?_)
  obtain ⟨hP1, hK1, hD1⟩ := hB
  rw [ht] at hP1
  obtain ⟨hP, hD⟩ := va_join (wr := [(a_t, oB 1 [.ref q1, .null, .int 0]), (q1, aI cI 252 (fun _ => 0))]) (w1 := [(q2, oB 8 [.ref (u3.1), .ref (u3.2), .int 0, .int 0, .int 0]), ((u3.1), aI cI 32 (fun _ => 0)), ((u3.2), aI cI 4 (fun _ => 0))]) hP hD [2] [0, 1] rfl rfl (by decide) (by decide) hk1 hFc hP1 hD1
  generalize H1 = H at hP hS ⊢
  have hP : va_P D vwCl [(a_t, oB 1 [.ref q1, .null, .int 0]), (q1, aI cI 252 (fun _ => 0)), (q2, oB 8 [.ref (u3.1), .ref (u3.2), .int 0, .int 0, .int 0]), ((u3.1), aI cI 32 (fun _ => 0)), ((u3.2), aI cI 4 (fun _ => 0))] H := hP
  have hD : va_D A [(a_t, oB 1 [.ref q1, .null, .int 0]), (q1, aI cI 252 (fun _ => 0)), (q2, oB 8 [.ref (u3.1), .ref (u3.2), .int 0, .int 0, .int 0]), ((u3.1), aI cI 32 (fun _ => 0)), ((u3.2), aI cI 4 (fun _ => 0))] := hD
  refine va_putF (D := D) (ci := 1) (v := .ref q2) (ty := (tyX1 1)) (C := RX1) (T := TX1) (N := 3) hx hb hts in_X1_init_X1 tyX1 tyX1_ok nmX1 hown hK hP hD hS 0 rfl rfl 1 (by decide) (hts (.fieldLink RX1 18 "DivisionHall$Leasts" "covering" "LDivisionHall$Table;") (by decide +kernel)) (fun _ h9 => h9) rfl hin rfl (by decide +kernel) rfl rfl (Nat.le_of_ble_eq_true rfl) dX1_init_21 (fun H locs hP hD hS => ?_)
  have hP : va_P D vwCl [(a_t, oB 1 [.ref q1, .ref q2, .int 0]), (q1, aI cI 252 (fun _ => 0)), (q2, oB 8 [.ref (u3.1), .ref (u3.2), .int 0, .int 0, .int 0]), ((u3.1), aI cI 32 (fun _ => 0)), ((u3.2), aI cI 4 (fun _ => 0))] H := hP
  have hD : va_D A [(a_t, oB 1 [.ref q1, .ref q2, .int 0]), (q1, aI cI 252 (fun _ => 0)), (q2, oB 8 [.ref (u3.1), .ref (u3.2), .int 0, .int 0, .int 0]), ((u3.1), aI cI 32 (fun _ => 0)), ((u3.2), aI cI 4 (fun _ => 0))] := hD
  exact W.vret hx hb hr (fun t ht hW => ⟨⟨(q1, q2, (u3.1), (u3.2)), rfl, trivial, by rw [ht]; exact hP, va_K.moved hW.alike hK, hD⟩, hS.F ht⟩) hS.2.2 dX1_init_24

set_option maxRecDepth 100000 in
theorem in_X6_init_X6 : ∀ w ∈ wsX60, w ∈ wsX6_init := by decide +kernel
set_option maxRecDepth 100000 in
theorem in_X6_init_X9 : ∀ w ∈ wsX90, w ∈ wsX6_init := by decide +kernel
abbrev wn_X6 (cI cZ cR : ClassId) (a_t q1 q2 q3 q4 q5 : Nat) : va_W := [(a_t, oB 6 [.ref q1, .ref q2, .ref q3, .int 0]), (q1, aI cI 400 (fun _ => 0)), (q2, aI cI 40 (fun _ => 0)), (q3, oB 8 [.ref q4, .ref q5, .int 0, .int 0, .int 0]), (q4, aI cI 32 (fun _ => 0)), (q5, aI cI 4 (fun _ => 0))]
set_option maxHeartbeats 8000000 in
set_option maxRecDepth 100000 in
theorem c_X6_init (l : Launch) (D : va_G) (cI cZ cR : ClassId) {a_t sz : Nat} : Met l yX6_init wsX6_init ({ frames := 2, cells := 5, slots := 481, locals := 32 } : Room) (pre D cI cZ cR [.ref a_t] [(a_t, oB 6 [.null, .null, .null, .int 0])] sz) (va_Qv (fun (_ : Nat × Nat × Nat × Nat × Nat) => True) (fun u t => va_P D vwCl (wn_X6 cI cZ cR a_t (u.1) (u.2.1) (u.2.2.1) (u.2.2.2.1) (u.2.2.2.2)) t.heap ∧ va_K D vwCl (ty3 cI cZ cR) t ∧ va_D (va_A [(a_t, oB 6 [.null, .null, .null, .int 0])] sz) (wn_X6 cI cZ cR a_t (u.1) (u.2.1) (u.2.2.1) (u.2.2.2.1) (u.2.2.2.2))) (va_A [(a_t, oB 6 [.null, .null, .null, .int 0])] sz)) 5 481 (va_A [(a_t, oB 6 [.null, .null, .null, .int 0])] sz) := by
  refine met_ofN (Qf := fun A => va_Qv (fun (_ : Nat × Nat × Nat × Nat × Nat) => True) (fun u t => va_P D vwCl (wn_X6 cI cZ cR a_t (u.1) (u.2.1) (u.2.2.1) (u.2.2.2.1) (u.2.2.2.2)) t.heap ∧ va_K D vwCl (ty3 cI cZ cR) t ∧ va_D A (wn_X6 cI cZ cR a_t (u.1) (u.2.1) (u.2.2.1) (u.2.2.2.1) (u.2.2.2.2))) A) RX6 (by decide +kernel) rfl rfl (Nat.le_of_ble_eq_true rfl) ?_
  intro p e s m below meth c A X hin hK hA hP hD hS ls hl
  have hl : lv_has ls 1 [(0, .ref a_t)] := hl
  obtain ⟨hx, hb, hml, hr, hown, hts, hlocks, hN⟩ := id X
  refine lv_aload_n hx hb dX6_init_0 rfl (lv_at hl 0 rfl) ?_
  refine W.objInit hx hb hown (hts (.methodLink RX6 5 objectInit) (by decide +kernel)) (hts (.instanceMethod objectInit) (by decide +kernel)) (hts (.code objectInit ⟨#[0xb1]⟩ 1 none) (by decide +kernel)) rfl (by rw [hml]; exact hl.1) rfl dX6_init_1 (Nat.le_of_ble_eq_true rfl) (Nat.le_of_ble_eq_true rfl) ?_
  refine W.eq (g2 := F0 m 4 ls []) rfl ?_
  refine lv_aload_n hx hb dX6_init_4 rfl (lv_at hl 0 rfl) ?_
  refine lv_sipush (v := (400 : Int32)) hx hb dX6_init_5 (by decide) ?_
  refine va_newa (atype := .int) (ty := .int) (N' := 400) (a0 := (400, .inl (fun _ => 0))) hx hb (hts (.arrayClass .int) (by decide +kernel)) rfl hK hP hD hS hA (fun _ => rfl) (by decide) rfl (by show 400 * 4 ≤ 536870912; omega) (Nat.le_of_ble_eq_true rfl) (Nat.le_of_ble_eq_true rfl) dX6_init_8 (fun q1 cA H hKn hP hD hS => ?_)
  obtain rfl : cI = cA := arr_sameI hKn 0 3 rfl rfl
  have hP : va_P D vwCl [(a_t, oB 6 [.null, .null, .null, .int 0]), (q1, aI cI 400 (fun _ => 0))] H := hP
  have hD : va_D A [(a_t, oB 6 [.null, .null, .null, .int 0]), (q1, aI cI 400 (fun _ => 0))] := hD
  refine va_putF (D := D) (ci := 6) (v := .ref q1) (ty := (tyX6 0)) (C := RX6) (T := TX6) (N := 4) hx hb hts in_X6_init_X6 tyX6 tyX6_ok nmX6 hown hK hP hD hS 0 rfl rfl 0 (by decide) (hts (.fieldLink RX6 11 "DivisionHall$Rule" "code" "[I") (by decide +kernel)) (fun _ h9 => h9) rfl hin rfl (by decide +kernel) rfl rfl (Nat.le_of_ble_eq_true rfl) dX6_init_10 (fun H locs hP hD hS => ?_)
  have hP : va_P D vwCl [(a_t, oB 6 [.ref q1, .null, .null, .int 0]), (q1, aI cI 400 (fun _ => 0))] H := hP
  have hD : va_D A [(a_t, oB 6 [.ref q1, .null, .null, .int 0]), (q1, aI cI 400 (fun _ => 0))] := hD
  refine lv_aload_n hx hb dX6_init_13 rfl (lv_at hl 0 rfl) ?_
  refine lv_bipush (v := (40 : Int32)) hx hb dX6_init_14 (by decide) ?_
  refine va_newa (atype := .int) (ty := .int) (N' := 40) (a0 := (40, .inl (fun _ => 0))) hx hb (hts (.arrayClass .int) (by decide +kernel)) rfl hK hP hD hS hA (fun _ => rfl) (by decide) rfl (by show 40 * 4 ≤ 536870912; omega) (Nat.le_of_ble_eq_true rfl) (Nat.le_of_ble_eq_true rfl) dX6_init_16 (fun q2 cA H hKn hP hD hS => ?_)
  obtain rfl : cI = cA := arr_sameI hKn 0 3 rfl rfl
  have hP : va_P D vwCl [(a_t, oB 6 [.ref q1, .null, .null, .int 0]), (q1, aI cI 400 (fun _ => 0)), (q2, aI cI 40 (fun _ => 0))] H := hP
  have hD : va_D A [(a_t, oB 6 [.ref q1, .null, .null, .int 0]), (q1, aI cI 400 (fun _ => 0)), (q2, aI cI 40 (fun _ => 0))] := hD
  refine va_putF (D := D) (ci := 6) (v := .ref q2) (ty := (tyX6 1)) (C := RX6) (T := TX6) (N := 4) hx hb hts in_X6_init_X6 tyX6 tyX6_ok nmX6 hown hK hP hD hS 0 rfl rfl 1 (by decide) (hts (.fieldLink RX6 17 "DivisionHall$Rule" "stack" "[I") (by decide +kernel)) (fun _ h9 => h9) rfl hin rfl (by decide +kernel) rfl rfl (Nat.le_of_ble_eq_true rfl) dX6_init_18 (fun H locs hP hD hS => ?_)
  have hP : va_P D vwCl [(a_t, oB 6 [.ref q1, .ref q2, .null, .int 0]), (q1, aI cI 400 (fun _ => 0)), (q2, aI cI 40 (fun _ => 0))] H := hP
  have hD : va_D A [(a_t, oB 6 [.ref q1, .ref q2, .null, .int 0]), (q1, aI cI 400 (fun _ => 0)), (q2, aI cI 40 (fun _ => 0))] := hD
  refine lv_aload_n hx hb dX6_init_21 rfl (lv_at hl 0 rfl) ?_
  refine va_new (ci := 8) (fs := [.null, .null, .int 0, .int 0, .int 0]) (C := RX9) (T := TX9) (N := 5) hx hb hts in_X6_init_X9 tyX9 tyX9_ok hown (hts (.classLink RX6 20 RX9) (by decide +kernel)) (hts (.instantiable RX9 5) (by decide +kernel)) (hts (.initialized RX9) (by decide +kernel)) hK hP hD hS hA rfl (by intro j hj; rcases (show j = 0 ∨ j = 1 ∨ j = 2 ∨ j = 3 ∨ j = 4 by omega) with rfl | rfl | rfl | rfl | rfl <;> rfl) (Nat.le_of_ble_eq_true rfl) (Nat.le_of_ble_eq_true rfl) dX6_init_22 (fun q3 H hP hD hS => ?_)
  have hP : va_P D vwCl [(a_t, oB 6 [.ref q1, .ref q2, .null, .int 0]), (q1, aI cI 400 (fun _ => 0)), (q2, aI cI 40 (fun _ => 0)), (q3, oB 8 [.null, .null, .int 0, .int 0, .int 0])] H := hP
  have hD : va_D A [(a_t, oB 6 [.ref q1, .ref q2, .null, .int 0]), (q1, aI cI 400 (fun _ => 0)), (q2, aI cI 40 (fun _ => 0)), (q3, oB 8 [.null, .null, .int 0, .int 0, .int 0])] := hD
  refine lv_dup hx hb dX6_init_25 rfl ?_
  have hPc := hP.sub (ws' := [(q3, oB 8 [.null, .null, .int 0, .int 0, .int 0])]) [3] rfl
  have hFc := va_free (wc := [(q3, oB 8 [.null, .null, .int 0, .int 0, .int 0])]) hD hS hA [3] rfl
  refine va_callv (va_runIN (host := "DivisionHall") (As := []) (rest := [.ref q3, .ref a_t]) ⟨hx, hb, hml, hown, hts⟩ (c_X9_init l D cI cZ cR) ⟨va_cnB (host := "DivisionHall") 0 hts ggX6_init_X9_init rfl rfl rfl (hN.2.1 ("DivisionHall$Rule", 22, yX9_init, "DivisionHall") (by decide +kernel)) (hts (.initialized RX9) (by decide +kernel)) (by decide +kernel) ⟨Nat.le_of_ble_eq_true rfl, Nat.le_of_ble_eq_true rfl⟩, rfl, hts (.instanceMethod yX9_init) (by decide +kernel)⟩ ⟨pre_blind, pre_of hK hN hP hD [3] rfl rfl⟩ rfl rfl hl.1 rfl (lv_room (Nat.le_of_ble_eq_true rfl)) dX6_init_26 ⟨Nat.le_of_ble_eq_true rfl, Nat.le_of_ble_eq_true rfl⟩) hS (fun q _ h => hFc q h) hFc (fun u4 t H1 locs ht hvm hw hB hz1 hk1 hS => ?_)
  obtain ⟨hP1, hK1, hD1⟩ := hB
  rw [ht] at hP1
  obtain ⟨hP, hD⟩ := va_join (wr := [(a_t, oB 6 [.ref q1, .ref q2, .null, .int 0]), (q1, aI cI 400 (fun _ => 0)), (q2, aI cI 40 (fun _ => 0))]) (w1 := [(q3, oB 8 [.ref (u4.1), .ref (u4.2), .int 0, .int 0, .int 0]), ((u4.1), aI cI 32 (fun _ => 0)), ((u4.2), aI cI 4 (fun _ => 0))]) hP hD [3] [0, 1, 2] rfl rfl (by decide) (by decide) hk1 hFc hP1 hD1
  generalize H1 = H at hP hS ⊢
  have hP : va_P D vwCl [(a_t, oB 6 [.ref q1, .ref q2, .null, .int 0]), (q1, aI cI 400 (fun _ => 0)), (q2, aI cI 40 (fun _ => 0)), (q3, oB 8 [.ref (u4.1), .ref (u4.2), .int 0, .int 0, .int 0]), ((u4.1), aI cI 32 (fun _ => 0)), ((u4.2), aI cI 4 (fun _ => 0))] H := hP
  have hD : va_D A [(a_t, oB 6 [.ref q1, .ref q2, .null, .int 0]), (q1, aI cI 400 (fun _ => 0)), (q2, aI cI 40 (fun _ => 0)), (q3, oB 8 [.ref (u4.1), .ref (u4.2), .int 0, .int 0, .int 0]), ((u4.1), aI cI 32 (fun _ => 0)), ((u4.2), aI cI 4 (fun _ => 0))] := hD
  refine va_putF (D := D) (ci := 6) (v := .ref q3) (ty := (tyX6 2)) (C := RX6) (T := TX6) (N := 4) hx hb hts in_X6_init_X6 tyX6 tyX6_ok nmX6 hown hK hP hD hS 0 rfl rfl 2 (by decide) (hts (.fieldLink RX6 23 "DivisionHall$Rule" "table" "LDivisionHall$Table;") (by decide +kernel)) (fun _ h9 => h9) rfl hin rfl (by decide +kernel) rfl rfl (Nat.le_of_ble_eq_true rfl) dX6_init_29 (fun H locs hP hD hS => ?_)
  have hP : va_P D vwCl [(a_t, oB 6 [.ref q1, .ref q2, .ref q3, .int 0]), (q1, aI cI 400 (fun _ => 0)), (q2, aI cI 40 (fun _ => 0)), (q3, oB 8 [.ref (u4.1), .ref (u4.2), .int 0, .int 0, .int 0]), ((u4.1), aI cI 32 (fun _ => 0)), ((u4.2), aI cI 4 (fun _ => 0))] H := hP
  have hD : va_D A [(a_t, oB 6 [.ref q1, .ref q2, .ref q3, .int 0]), (q1, aI cI 400 (fun _ => 0)), (q2, aI cI 40 (fun _ => 0)), (q3, oB 8 [.ref (u4.1), .ref (u4.2), .int 0, .int 0, .int 0]), ((u4.1), aI cI 32 (fun _ => 0)), ((u4.2), aI cI 4 (fun _ => 0))] := hD
  exact W.vret hx hb hr (fun t ht hW => ⟨⟨(q1, q2, q3, (u4.1), (u4.2)), rfl, trivial, by rw [ht]; exact hP, va_K.moved hW.alike hK, hD⟩, hS.F ht⟩) hS.2.2 dX6_init_32

set_option maxRecDepth 100000 in
theorem in_X2_init_X2 : ∀ w ∈ wsX20, w ∈ wsX2_init := by decide +kernel
abbrev wn_X2 (cI cZ cR : ClassId) (a_t q1 : Nat) : va_W := [(a_t, oB 2 [.ref q1, .int 0, .int 0, .int 0, .int 0]), (q1, aI cI 6 (fun _ => 0))]
set_option maxHeartbeats 8000000 in
set_option maxRecDepth 100000 in
theorem c_X2_init (l : Launch) (D : va_G) (cI cZ cR : ClassId) {a_t sz : Nat} : Met l yX2_init wsX2_init ({ frames := 1, cells := 1, slots := 6, locals := 12 } : Room) (pre D cI cZ cR [.ref a_t] [(a_t, oB 2 [.null, .int 0, .int 0, .int 0, .int 0])] sz) (va_Qv (fun (_ : Nat) => True) (fun u t => va_P D vwCl (wn_X2 cI cZ cR a_t (u)) t.heap ∧ va_K D vwCl (ty3 cI cZ cR) t ∧ va_D (va_A [(a_t, oB 2 [.null, .int 0, .int 0, .int 0, .int 0])] sz) (wn_X2 cI cZ cR a_t (u))) (va_A [(a_t, oB 2 [.null, .int 0, .int 0, .int 0, .int 0])] sz)) 1 6 (va_A [(a_t, oB 2 [.null, .int 0, .int 0, .int 0, .int 0])] sz) := by
  refine met_ofN (Qf := fun A => va_Qv (fun (_ : Nat) => True) (fun u t => va_P D vwCl (wn_X2 cI cZ cR a_t (u)) t.heap ∧ va_K D vwCl (ty3 cI cZ cR) t ∧ va_D A (wn_X2 cI cZ cR a_t (u))) A) RX2 (by decide +kernel) rfl rfl (Nat.le_of_ble_eq_true rfl) ?_
  intro p e s m below meth c A X hin hK hA hP hD hS ls hl
  have hl : lv_has ls 1 [(0, .ref a_t)] := hl
  obtain ⟨hx, hb, hml, hr, hown, hts, hlocks, hN⟩ := id X
  refine lv_aload_n hx hb dX2_init_0 rfl (lv_at hl 0 rfl) ?_
  refine W.objInit hx hb hown (hts (.methodLink RX2 3 objectInit) (by decide +kernel)) (hts (.instanceMethod objectInit) (by decide +kernel)) (hts (.code objectInit ⟨#[0xb1]⟩ 1 none) (by decide +kernel)) rfl (by rw [hml]; exact hl.1) rfl dX2_init_1 (Nat.le_of_ble_eq_true rfl) (Nat.le_of_ble_eq_true rfl) ?_
  refine W.eq (g2 := F0 m 4 ls []) rfl ?_
  refine lv_aload_n hx hb dX2_init_4 rfl (lv_at hl 0 rfl) ?_
  refine lv_bipush (v := (6 : Int32)) hx hb dX2_init_5 (by decide) ?_
  refine va_newa (atype := .int) (ty := .int) (N' := 6) (a0 := (6, .inl (fun _ => 0))) hx hb (hts (.arrayClass .int) (by decide +kernel)) rfl hK hP hD hS hA (fun _ => rfl) (by decide) rfl (by show 6 * 4 ≤ 536870912; omega) (Nat.le_of_ble_eq_true rfl) (Nat.le_of_ble_eq_true rfl) dX2_init_7 (fun q1 cA H hKn hP hD hS => ?_)
  obtain rfl : cI = cA := arr_sameI hKn 0 3 rfl rfl
  have hP : va_P D vwCl [(a_t, oB 2 [.null, .int 0, .int 0, .int 0, .int 0]), (q1, aI cI 6 (fun _ => 0))] H := hP
  have hD : va_D A [(a_t, oB 2 [.null, .int 0, .int 0, .int 0, .int 0]), (q1, aI cI 6 (fun _ => 0))] := hD
  refine va_putF (D := D) (ci := 2) (v := .ref q1) (ty := (tyX2 0)) (C := RX2) (T := TX2) (N := 5) hx hb hts in_X2_init_X2 tyX2 tyX2_ok nmX2 hown hK hP hD hS 0 rfl rfl 0 (by decide) (hts (.fieldLink RX2 9 "DivisionHall$Line" "place" "[I") (by decide +kernel)) (fun _ h9 => h9) rfl hin rfl (by decide +kernel) rfl rfl (Nat.le_of_ble_eq_true rfl) dX2_init_9 (fun H locs hP hD hS => ?_)
  have hP : va_P D vwCl [(a_t, oB 2 [.ref q1, .int 0, .int 0, .int 0, .int 0]), (q1, aI cI 6 (fun _ => 0))] H := hP
  have hD : va_D A [(a_t, oB 2 [.ref q1, .int 0, .int 0, .int 0, .int 0]), (q1, aI cI 6 (fun _ => 0))] := hD
  exact W.vret hx hb hr (fun t ht hW => ⟨⟨q1, rfl, trivial, by rw [ht]; exact hP, va_K.moved hW.alike hK, hD⟩, hS.F ht⟩) hS.2.2 dX2_init_12

set_option maxRecDepth 100000 in
theorem in_X10_init_X10 : ∀ w ∈ wsX100, w ∈ wsX10_init := by decide +kernel
abbrev wn_X10 (cI cZ cR : ClassId) (a_t q1 q2 q3 : Nat) : va_W := [(a_t, oB 9 [.ref q1, .ref q2, .ref q3, .int 0, .int 0]), (q1, aI cI 1024 (fun _ => 0)), (q2, aI cI 1024 (fun _ => 0)), (q3, aI cI 1846 (fun _ => 0))]
set_option maxHeartbeats 8000000 in
set_option maxRecDepth 100000 in
theorem c_X10_init (l : Launch) (D : va_G) (cI cZ cR : ClassId) {a_t sz : Nat} : Met l yX10_init wsX10_init ({ frames := 1, cells := 3, slots := 3894, locals := 12 } : Room) (pre D cI cZ cR [.ref a_t] [(a_t, oB 9 [.null, .null, .null, .int 0, .int 0])] sz) (va_Qv (fun (_ : Nat × Nat × Nat) => True) (fun u t => va_P D vwCl (wn_X10 cI cZ cR a_t (u.1) (u.2.1) (u.2.2)) t.heap ∧ va_K D vwCl (ty3 cI cZ cR) t ∧ va_D (va_A [(a_t, oB 9 [.null, .null, .null, .int 0, .int 0])] sz) (wn_X10 cI cZ cR a_t (u.1) (u.2.1) (u.2.2))) (va_A [(a_t, oB 9 [.null, .null, .null, .int 0, .int 0])] sz)) 3 3894 (va_A [(a_t, oB 9 [.null, .null, .null, .int 0, .int 0])] sz) := by
  refine met_ofN (Qf := fun A => va_Qv (fun (_ : Nat × Nat × Nat) => True) (fun u t => va_P D vwCl (wn_X10 cI cZ cR a_t (u.1) (u.2.1) (u.2.2)) t.heap ∧ va_K D vwCl (ty3 cI cZ cR) t ∧ va_D A (wn_X10 cI cZ cR a_t (u.1) (u.2.1) (u.2.2))) A) RX10 (by decide +kernel) rfl rfl (Nat.le_of_ble_eq_true rfl) ?_
  intro p e s m below meth c A X hin hK hA hP hD hS ls hl
  have hl : lv_has ls 1 [(0, .ref a_t)] := hl
  obtain ⟨hx, hb, hml, hr, hown, hts, hlocks, hN⟩ := id X
  refine lv_aload_n hx hb dX10_init_0 rfl (lv_at hl 0 rfl) ?_
  refine W.objInit hx hb hown (hts (.methodLink RX10 3 objectInit) (by decide +kernel)) (hts (.instanceMethod objectInit) (by decide +kernel)) (hts (.code objectInit ⟨#[0xb1]⟩ 1 none) (by decide +kernel)) rfl (by rw [hml]; exact hl.1) rfl dX10_init_1 (Nat.le_of_ble_eq_true rfl) (Nat.le_of_ble_eq_true rfl) ?_
  refine W.eq (g2 := F0 m 4 ls []) rfl ?_
  refine lv_aload_n hx hb dX10_init_4 rfl (lv_at hl 0 rfl) ?_
  refine lv_sipush (v := (1024 : Int32)) hx hb dX10_init_5 (by decide) ?_
  refine va_newa (atype := .int) (ty := .int) (N' := 1024) (a0 := (1024, .inl (fun _ => 0))) hx hb (hts (.arrayClass .int) (by decide +kernel)) rfl hK hP hD hS hA (fun _ => rfl) (by decide) rfl (by show 1024 * 4 ≤ 536870912; omega) (Nat.le_of_ble_eq_true rfl) (Nat.le_of_ble_eq_true rfl) dX10_init_8 (fun q1 cA H hKn hP hD hS => ?_)
  obtain rfl : cI = cA := arr_sameI hKn 0 3 rfl rfl
  have hP : va_P D vwCl [(a_t, oB 9 [.null, .null, .null, .int 0, .int 0]), (q1, aI cI 1024 (fun _ => 0))] H := hP
  have hD : va_D A [(a_t, oB 9 [.null, .null, .null, .int 0, .int 0]), (q1, aI cI 1024 (fun _ => 0))] := hD
  refine va_putF (D := D) (ci := 9) (v := .ref q1) (ty := (tyX10 0)) (C := RX10) (T := TX10) (N := 5) hx hb hts in_X10_init_X10 tyX10 tyX10_ok nmX10 hown hK hP hD hS 0 rfl rfl 0 (by decide) (hts (.fieldLink RX10 9 "DivisionHall$Trader" "sets" "[I") (by decide +kernel)) (fun _ h9 => h9) rfl hin rfl (by decide +kernel) rfl rfl (Nat.le_of_ble_eq_true rfl) dX10_init_10 (fun H locs hP hD hS => ?_)
  have hP : va_P D vwCl [(a_t, oB 9 [.ref q1, .null, .null, .int 0, .int 0]), (q1, aI cI 1024 (fun _ => 0))] H := hP
  have hD : va_D A [(a_t, oB 9 [.ref q1, .null, .null, .int 0, .int 0]), (q1, aI cI 1024 (fun _ => 0))] := hD
  refine lv_aload_n hx hb dX10_init_13 rfl (lv_at hl 0 rfl) ?_
  refine lv_sipush (v := (1024 : Int32)) hx hb dX10_init_14 (by decide) ?_
  refine va_newa (atype := .int) (ty := .int) (N' := 1024) (a0 := (1024, .inl (fun _ => 0))) hx hb (hts (.arrayClass .int) (by decide +kernel)) rfl hK hP hD hS hA (fun _ => rfl) (by decide) rfl (by show 1024 * 4 ≤ 536870912; omega) (Nat.le_of_ble_eq_true rfl) (Nat.le_of_ble_eq_true rfl) dX10_init_17 (fun q2 cA H hKn hP hD hS => ?_)
  obtain rfl : cI = cA := arr_sameI hKn 0 3 rfl rfl
  have hP : va_P D vwCl [(a_t, oB 9 [.ref q1, .null, .null, .int 0, .int 0]), (q1, aI cI 1024 (fun _ => 0)), (q2, aI cI 1024 (fun _ => 0))] H := hP
  have hD : va_D A [(a_t, oB 9 [.ref q1, .null, .null, .int 0, .int 0]), (q1, aI cI 1024 (fun _ => 0)), (q2, aI cI 1024 (fun _ => 0))] := hD
  refine va_putF (D := D) (ci := 9) (v := .ref q2) (ty := (tyX10 1)) (C := RX10) (T := TX10) (N := 5) hx hb hts in_X10_init_X10 tyX10 tyX10_ok nmX10 hown hK hP hD hS 0 rfl rfl 1 (by decide) (hts (.fieldLink RX10 15 "DivisionHall$Trader" "figures" "[I") (by decide +kernel)) (fun _ h9 => h9) rfl hin rfl (by decide +kernel) rfl rfl (Nat.le_of_ble_eq_true rfl) dX10_init_19 (fun H locs hP hD hS => ?_)
  have hP : va_P D vwCl [(a_t, oB 9 [.ref q1, .ref q2, .null, .int 0, .int 0]), (q1, aI cI 1024 (fun _ => 0)), (q2, aI cI 1024 (fun _ => 0))] H := hP
  have hD : va_D A [(a_t, oB 9 [.ref q1, .ref q2, .null, .int 0, .int 0]), (q1, aI cI 1024 (fun _ => 0)), (q2, aI cI 1024 (fun _ => 0))] := hD
  refine lv_aload_n hx hb dX10_init_22 rfl (lv_at hl 0 rfl) ?_
  refine lv_sipush (v := (1846 : Int32)) hx hb dX10_init_23 (by decide) ?_
  refine va_newa (atype := .int) (ty := .int) (N' := 1846) (a0 := (1846, .inl (fun _ => 0))) hx hb (hts (.arrayClass .int) (by decide +kernel)) rfl hK hP hD hS hA (fun _ => rfl) (by decide) rfl (by show 1846 * 4 ≤ 536870912; omega) (Nat.le_of_ble_eq_true rfl) (Nat.le_of_ble_eq_true rfl) dX10_init_26 (fun q3 cA H hKn hP hD hS => ?_)
  obtain rfl : cI = cA := arr_sameI hKn 0 3 rfl rfl
  have hP : va_P D vwCl [(a_t, oB 9 [.ref q1, .ref q2, .null, .int 0, .int 0]), (q1, aI cI 1024 (fun _ => 0)), (q2, aI cI 1024 (fun _ => 0)), (q3, aI cI 1846 (fun _ => 0))] H := hP
  have hD : va_D A [(a_t, oB 9 [.ref q1, .ref q2, .null, .int 0, .int 0]), (q1, aI cI 1024 (fun _ => 0)), (q2, aI cI 1024 (fun _ => 0)), (q3, aI cI 1846 (fun _ => 0))] := hD
  refine va_putF (D := D) (ci := 9) (v := .ref q3) (ty := (tyX10 2)) (C := RX10) (T := TX10) (N := 5) hx hb hts in_X10_init_X10 tyX10 tyX10_ok nmX10 hown hK hP hD hS 0 rfl rfl 2 (by decide) (hts (.fieldLink RX10 18 "DivisionHall$Trader" "sums" "[I") (by decide +kernel)) (fun _ h9 => h9) rfl hin rfl (by decide +kernel) rfl rfl (Nat.le_of_ble_eq_true rfl) dX10_init_28 (fun H locs hP hD hS => ?_)
  have hP : va_P D vwCl [(a_t, oB 9 [.ref q1, .ref q2, .ref q3, .int 0, .int 0]), (q1, aI cI 1024 (fun _ => 0)), (q2, aI cI 1024 (fun _ => 0)), (q3, aI cI 1846 (fun _ => 0))] H := hP
  have hD : va_D A [(a_t, oB 9 [.ref q1, .ref q2, .ref q3, .int 0, .int 0]), (q1, aI cI 1024 (fun _ => 0)), (q2, aI cI 1024 (fun _ => 0)), (q3, aI cI 1846 (fun _ => 0))] := hD
  exact W.vret hx hb hr (fun t ht hW => ⟨⟨(q1, q2, q3), rfl, trivial, by rw [ht]; exact hP, va_K.moved hW.alike hK, hD⟩, hS.F ht⟩) hS.2.2 dX10_init_31

set_option maxRecDepth 100000 in
theorem in_X0_init_X0 : ∀ w ∈ wsX00, w ∈ wsX0_init := by decide +kernel
abbrev wn_X0 (cI cZ cR : ClassId) (a_t q1 q2 q3 q4 q5 q6 q7 q8 : Nat) : va_W := [(a_t, oB 0 [.ref q1, .ref q2, .ref q3, .ref q4, .ref q5, .ref q6, .ref q7, .ref q8, .int 0]), (q1, aI cI 48 (fun _ => 0)), (q2, aI cI 6 (fun _ => 0)), (q3, aI cI 6 (fun _ => 0)), (q4, aI cI 8 (fun _ => 0)), (q5, aI cI 8 (fun _ => 0)), (q6, aI cI 6 (fun _ => 0)), (q7, aI cI 256 (fun _ => 0)), (q8, aI cI 1536 (fun _ => 0))]
set_option maxHeartbeats 8000000 in
set_option maxRecDepth 100000 in
theorem c_X0_init (l : Launch) (D : va_G) (cI cZ cR : ClassId) {a_t sz : Nat} : Met l yX0_init wsX0_init ({ frames := 1, cells := 8, slots := 1874, locals := 12 } : Room) (pre D cI cZ cR [.ref a_t] [(a_t, oB 0 [.null, .null, .null, .null, .null, .null, .null, .null, .int 0])] sz) (va_Qv (fun (_ : Nat × Nat × Nat × Nat × Nat × Nat × Nat × Nat) => True) (fun u t => va_P D vwCl (wn_X0 cI cZ cR a_t (u.1) (u.2.1) (u.2.2.1) (u.2.2.2.1) (u.2.2.2.2.1) (u.2.2.2.2.2.1) (u.2.2.2.2.2.2.1) (u.2.2.2.2.2.2.2)) t.heap ∧ va_K D vwCl (ty3 cI cZ cR) t ∧ va_D (va_A [(a_t, oB 0 [.null, .null, .null, .null, .null, .null, .null, .null, .int 0])] sz) (wn_X0 cI cZ cR a_t (u.1) (u.2.1) (u.2.2.1) (u.2.2.2.1) (u.2.2.2.2.1) (u.2.2.2.2.2.1) (u.2.2.2.2.2.2.1) (u.2.2.2.2.2.2.2))) (va_A [(a_t, oB 0 [.null, .null, .null, .null, .null, .null, .null, .null, .int 0])] sz)) 8 1874 (va_A [(a_t, oB 0 [.null, .null, .null, .null, .null, .null, .null, .null, .int 0])] sz) := by
  refine met_ofN (Qf := fun A => va_Qv (fun (_ : Nat × Nat × Nat × Nat × Nat × Nat × Nat × Nat) => True) (fun u t => va_P D vwCl (wn_X0 cI cZ cR a_t (u.1) (u.2.1) (u.2.2.1) (u.2.2.2.1) (u.2.2.2.2.1) (u.2.2.2.2.2.1) (u.2.2.2.2.2.2.1) (u.2.2.2.2.2.2.2)) t.heap ∧ va_K D vwCl (ty3 cI cZ cR) t ∧ va_D A (wn_X0 cI cZ cR a_t (u.1) (u.2.1) (u.2.2.1) (u.2.2.2.1) (u.2.2.2.2.1) (u.2.2.2.2.2.1) (u.2.2.2.2.2.2.1) (u.2.2.2.2.2.2.2))) A) RX0 (by decide +kernel) rfl rfl (Nat.le_of_ble_eq_true rfl) ?_
  intro p e s m below meth c A X hin hK hA hP hD hS ls hl
  have hl : lv_has ls 1 [(0, .ref a_t)] := hl
  obtain ⟨hx, hb, hml, hr, hown, hts, hlocks, hN⟩ := id X
  refine lv_aload_n hx hb dX0_init_0 rfl (lv_at hl 0 rfl) ?_
  refine W.objInit hx hb hown (hts (.methodLink RX0 3 objectInit) (by decide +kernel)) (hts (.instanceMethod objectInit) (by decide +kernel)) (hts (.code objectInit ⟨#[0xb1]⟩ 1 none) (by decide +kernel)) rfl (by rw [hml]; exact hl.1) rfl dX0_init_1 (Nat.le_of_ble_eq_true rfl) (Nat.le_of_ble_eq_true rfl) ?_
  refine W.eq (g2 := F0 m 4 ls []) rfl ?_
  refine lv_aload_n hx hb dX0_init_4 rfl (lv_at hl 0 rfl) ?_
  refine lv_bipush (v := (48 : Int32)) hx hb dX0_init_5 (by decide) ?_
  refine va_newa (atype := .int) (ty := .int) (N' := 48) (a0 := (48, .inl (fun _ => 0))) hx hb (hts (.arrayClass .int) (by decide +kernel)) rfl hK hP hD hS hA (fun _ => rfl) (by decide) rfl (by show 48 * 4 ≤ 536870912; omega) (Nat.le_of_ble_eq_true rfl) (Nat.le_of_ble_eq_true rfl) dX0_init_7 (fun q1 cA H hKn hP hD hS => ?_)
  obtain rfl : cI = cA := arr_sameI hKn 0 3 rfl rfl
  have hP : va_P D vwCl [(a_t, oB 0 [.null, .null, .null, .null, .null, .null, .null, .null, .int 0]), (q1, aI cI 48 (fun _ => 0))] H := hP
  have hD : va_D A [(a_t, oB 0 [.null, .null, .null, .null, .null, .null, .null, .null, .int 0]), (q1, aI cI 48 (fun _ => 0))] := hD
  refine va_putF (D := D) (ci := 0) (v := .ref q1) (ty := (tyX0 0)) (C := RX0) (T := TX0) (N := 9) hx hb hts in_X0_init_X0 tyX0 tyX0_ok nmX0 hown hK hP hD hS 0 rfl rfl 0 (by decide) (hts (.fieldLink RX0 9 "DivisionHall$Dealer" "values" "[I") (by decide +kernel)) (fun _ h9 => h9) rfl hin rfl (by decide +kernel) rfl rfl (Nat.le_of_ble_eq_true rfl) dX0_init_9 (fun H locs hP hD hS => ?_)
  have hP : va_P D vwCl [(a_t, oB 0 [.ref q1, .null, .null, .null, .null, .null, .null, .null, .int 0]), (q1, aI cI 48 (fun _ => 0))] H := hP
  have hD : va_D A [(a_t, oB 0 [.ref q1, .null, .null, .null, .null, .null, .null, .null, .int 0]), (q1, aI cI 48 (fun _ => 0))] := hD
  refine lv_aload_n hx hb dX0_init_12 rfl (lv_at hl 0 rfl) ?_
  refine lv_bipush (v := (6 : Int32)) hx hb dX0_init_13 (by decide) ?_
  refine va_newa (atype := .int) (ty := .int) (N' := 6) (a0 := (6, .inl (fun _ => 0))) hx hb (hts (.arrayClass .int) (by decide +kernel)) rfl hK hP hD hS hA (fun _ => rfl) (by decide) rfl (by show 6 * 4 ≤ 536870912; omega) (Nat.le_of_ble_eq_true rfl) (Nat.le_of_ble_eq_true rfl) dX0_init_15 (fun q2 cA H hKn hP hD hS => ?_)
  obtain rfl : cI = cA := arr_sameI hKn 0 3 rfl rfl
  have hP : va_P D vwCl [(a_t, oB 0 [.ref q1, .null, .null, .null, .null, .null, .null, .null, .int 0]), (q1, aI cI 48 (fun _ => 0)), (q2, aI cI 6 (fun _ => 0))] H := hP
  have hD : va_D A [(a_t, oB 0 [.ref q1, .null, .null, .null, .null, .null, .null, .null, .int 0]), (q1, aI cI 48 (fun _ => 0)), (q2, aI cI 6 (fun _ => 0))] := hD
  refine va_putF (D := D) (ci := 0) (v := .ref q2) (ty := (tyX0 1)) (C := RX0) (T := TX0) (N := 9) hx hb hts in_X0_init_X0 tyX0 tyX0_ok nmX0 hown hK hP hD hS 0 rfl rfl 1 (by decide) (hts (.fieldLink RX0 15 "DivisionHall$Dealer" "weight" "[I") (by decide +kernel)) (fun _ h9 => h9) rfl hin rfl (by decide +kernel) rfl rfl (Nat.le_of_ble_eq_true rfl) dX0_init_17 (fun H locs hP hD hS => ?_)
  have hP : va_P D vwCl [(a_t, oB 0 [.ref q1, .ref q2, .null, .null, .null, .null, .null, .null, .int 0]), (q1, aI cI 48 (fun _ => 0)), (q2, aI cI 6 (fun _ => 0))] H := hP
  have hD : va_D A [(a_t, oB 0 [.ref q1, .ref q2, .null, .null, .null, .null, .null, .null, .int 0]), (q1, aI cI 48 (fun _ => 0)), (q2, aI cI 6 (fun _ => 0))] := hD
  refine lv_aload_n hx hb dX0_init_20 rfl (lv_at hl 0 rfl) ?_
  refine lv_bipush (v := (6 : Int32)) hx hb dX0_init_21 (by decide) ?_
  refine va_newa (atype := .int) (ty := .int) (N' := 6) (a0 := (6, .inl (fun _ => 0))) hx hb (hts (.arrayClass .int) (by decide +kernel)) rfl hK hP hD hS hA (fun _ => rfl) (by decide) rfl (by show 6 * 4 ≤ 536870912; omega) (Nat.le_of_ble_eq_true rfl) (Nat.le_of_ble_eq_true rfl) dX0_init_23 (fun q3 cA H hKn hP hD hS => ?_)
  obtain rfl : cI = cA := arr_sameI hKn 0 3 rfl rfl
  have hP : va_P D vwCl [(a_t, oB 0 [.ref q1, .ref q2, .null, .null, .null, .null, .null, .null, .int 0]), (q1, aI cI 48 (fun _ => 0)), (q2, aI cI 6 (fun _ => 0)), (q3, aI cI 6 (fun _ => 0))] H := hP
  have hD : va_D A [(a_t, oB 0 [.ref q1, .ref q2, .null, .null, .null, .null, .null, .null, .int 0]), (q1, aI cI 48 (fun _ => 0)), (q2, aI cI 6 (fun _ => 0)), (q3, aI cI 6 (fun _ => 0))] := hD
  refine va_putF (D := D) (ci := 0) (v := .ref q3) (ty := (tyX0 2)) (C := RX0) (T := TX0) (N := 9) hx hb hts in_X0_init_X0 tyX0 tyX0_ok nmX0 hown hK hP hD hS 0 rfl rfl 2 (by decide) (hts (.fieldLink RX0 18 "DivisionHall$Dealer" "choices" "[I") (by decide +kernel)) (fun _ h9 => h9) rfl hin rfl (by decide +kernel) rfl rfl (Nat.le_of_ble_eq_true rfl) dX0_init_25 (fun H locs hP hD hS => ?_)
  have hP : va_P D vwCl [(a_t, oB 0 [.ref q1, .ref q2, .ref q3, .null, .null, .null, .null, .null, .int 0]), (q1, aI cI 48 (fun _ => 0)), (q2, aI cI 6 (fun _ => 0)), (q3, aI cI 6 (fun _ => 0))] H := hP
  have hD : va_D A [(a_t, oB 0 [.ref q1, .ref q2, .ref q3, .null, .null, .null, .null, .null, .int 0]), (q1, aI cI 48 (fun _ => 0)), (q2, aI cI 6 (fun _ => 0)), (q3, aI cI 6 (fun _ => 0))] := hD
  refine lv_aload_n hx hb dX0_init_28 rfl (lv_at hl 0 rfl) ?_
  refine lv_bipush (v := (8 : Int32)) hx hb dX0_init_29 (by decide) ?_
  refine va_newa (atype := .int) (ty := .int) (N' := 8) (a0 := (8, .inl (fun _ => 0))) hx hb (hts (.arrayClass .int) (by decide +kernel)) rfl hK hP hD hS hA (fun _ => rfl) (by decide) rfl (by show 8 * 4 ≤ 536870912; omega) (Nat.le_of_ble_eq_true rfl) (Nat.le_of_ble_eq_true rfl) dX0_init_31 (fun q4 cA H hKn hP hD hS => ?_)
  obtain rfl : cI = cA := arr_sameI hKn 0 3 rfl rfl
  have hP : va_P D vwCl [(a_t, oB 0 [.ref q1, .ref q2, .ref q3, .null, .null, .null, .null, .null, .int 0]), (q1, aI cI 48 (fun _ => 0)), (q2, aI cI 6 (fun _ => 0)), (q3, aI cI 6 (fun _ => 0)), (q4, aI cI 8 (fun _ => 0))] H := hP
  have hD : va_D A [(a_t, oB 0 [.ref q1, .ref q2, .ref q3, .null, .null, .null, .null, .null, .int 0]), (q1, aI cI 48 (fun _ => 0)), (q2, aI cI 6 (fun _ => 0)), (q3, aI cI 6 (fun _ => 0)), (q4, aI cI 8 (fun _ => 0))] := hD
  refine va_putF (D := D) (ci := 0) (v := .ref q4) (ty := (tyX0 3)) (C := RX0) (T := TX0) (N := 9) hx hb hts in_X0_init_X0 tyX0 tyX0_ok nmX0 hown hK hP hD hS 0 rfl rfl 3 (by decide) (hts (.fieldLink RX0 21 "DivisionHall$Dealer" "chooser" "[I") (by decide +kernel)) (fun _ h9 => h9) rfl hin rfl (by decide +kernel) rfl rfl (Nat.le_of_ble_eq_true rfl) dX0_init_33 (fun H locs hP hD hS => ?_)
  have hP : va_P D vwCl [(a_t, oB 0 [.ref q1, .ref q2, .ref q3, .ref q4, .null, .null, .null, .null, .int 0]), (q1, aI cI 48 (fun _ => 0)), (q2, aI cI 6 (fun _ => 0)), (q3, aI cI 6 (fun _ => 0)), (q4, aI cI 8 (fun _ => 0))] H := hP
  have hD : va_D A [(a_t, oB 0 [.ref q1, .ref q2, .ref q3, .ref q4, .null, .null, .null, .null, .int 0]), (q1, aI cI 48 (fun _ => 0)), (q2, aI cI 6 (fun _ => 0)), (q3, aI cI 6 (fun _ => 0)), (q4, aI cI 8 (fun _ => 0))] := hD
  refine lv_aload_n hx hb dX0_init_36 rfl (lv_at hl 0 rfl) ?_
  refine lv_bipush (v := (8 : Int32)) hx hb dX0_init_37 (by decide) ?_
  refine va_newa (atype := .int) (ty := .int) (N' := 8) (a0 := (8, .inl (fun _ => 0))) hx hb (hts (.arrayClass .int) (by decide +kernel)) rfl hK hP hD hS hA (fun _ => rfl) (by decide) rfl (by show 8 * 4 ≤ 536870912; omega) (Nat.le_of_ble_eq_true rfl) (Nat.le_of_ble_eq_true rfl) dX0_init_39 (fun q5 cA H hKn hP hD hS => ?_)
  obtain rfl : cI = cA := arr_sameI hKn 0 3 rfl rfl
  have hP : va_P D vwCl [(a_t, oB 0 [.ref q1, .ref q2, .ref q3, .ref q4, .null, .null, .null, .null, .int 0]), (q1, aI cI 48 (fun _ => 0)), (q2, aI cI 6 (fun _ => 0)), (q3, aI cI 6 (fun _ => 0)), (q4, aI cI 8 (fun _ => 0)), (q5, aI cI 8 (fun _ => 0))] H := hP
  have hD : va_D A [(a_t, oB 0 [.ref q1, .ref q2, .ref q3, .ref q4, .null, .null, .null, .null, .int 0]), (q1, aI cI 48 (fun _ => 0)), (q2, aI cI 6 (fun _ => 0)), (q3, aI cI 6 (fun _ => 0)), (q4, aI cI 8 (fun _ => 0)), (q5, aI cI 8 (fun _ => 0))] := hD
  refine va_putF (D := D) (ci := 0) (v := .ref q5) (ty := (tyX0 4)) (C := RX0) (T := TX0) (N := 9) hx hb hts in_X0_init_X0 tyX0 tyX0_ok nmX0 hown hK hP hD hS 0 rfl rfl 4 (by decide) (hts (.fieldLink RX0 24 "DivisionHall$Dealer" "owner" "[I") (by decide +kernel)) (fun _ h9 => h9) rfl hin rfl (by decide +kernel) rfl rfl (Nat.le_of_ble_eq_true rfl) dX0_init_41 (fun H locs hP hD hS => ?_)
  have hP : va_P D vwCl [(a_t, oB 0 [.ref q1, .ref q2, .ref q3, .ref q4, .ref q5, .null, .null, .null, .int 0]), (q1, aI cI 48 (fun _ => 0)), (q2, aI cI 6 (fun _ => 0)), (q3, aI cI 6 (fun _ => 0)), (q4, aI cI 8 (fun _ => 0)), (q5, aI cI 8 (fun _ => 0))] H := hP
  have hD : va_D A [(a_t, oB 0 [.ref q1, .ref q2, .ref q3, .ref q4, .ref q5, .null, .null, .null, .int 0]), (q1, aI cI 48 (fun _ => 0)), (q2, aI cI 6 (fun _ => 0)), (q3, aI cI 6 (fun _ => 0)), (q4, aI cI 8 (fun _ => 0)), (q5, aI cI 8 (fun _ => 0))] := hD
  refine lv_aload_n hx hb dX0_init_44 rfl (lv_at hl 0 rfl) ?_
  refine lv_bipush (v := (6 : Int32)) hx hb dX0_init_45 (by decide) ?_
  refine va_newa (atype := .int) (ty := .int) (N' := 6) (a0 := (6, .inl (fun _ => 0))) hx hb (hts (.arrayClass .int) (by decide +kernel)) rfl hK hP hD hS hA (fun _ => rfl) (by decide) rfl (by show 6 * 4 ≤ 536870912; omega) (Nat.le_of_ble_eq_true rfl) (Nat.le_of_ble_eq_true rfl) dX0_init_47 (fun q6 cA H hKn hP hD hS => ?_)
  obtain rfl : cI = cA := arr_sameI hKn 0 3 rfl rfl
  have hP : va_P D vwCl [(a_t, oB 0 [.ref q1, .ref q2, .ref q3, .ref q4, .ref q5, .null, .null, .null, .int 0]), (q1, aI cI 48 (fun _ => 0)), (q2, aI cI 6 (fun _ => 0)), (q3, aI cI 6 (fun _ => 0)), (q4, aI cI 8 (fun _ => 0)), (q5, aI cI 8 (fun _ => 0)), (q6, aI cI 6 (fun _ => 0))] H := hP
  have hD : va_D A [(a_t, oB 0 [.ref q1, .ref q2, .ref q3, .ref q4, .ref q5, .null, .null, .null, .int 0]), (q1, aI cI 48 (fun _ => 0)), (q2, aI cI 6 (fun _ => 0)), (q3, aI cI 6 (fun _ => 0)), (q4, aI cI 8 (fun _ => 0)), (q5, aI cI 8 (fun _ => 0)), (q6, aI cI 6 (fun _ => 0))] := hD
  refine va_putF (D := D) (ci := 0) (v := .ref q6) (ty := (tyX0 5)) (C := RX0) (T := TX0) (N := 9) hx hb hts in_X0_init_X0 tyX0 tyX0_ok nmX0 hown hK hP hD hS 0 rfl rfl 5 (by decide) (hts (.fieldLink RX0 27 "DivisionHall$Dealer" "held" "[I") (by decide +kernel)) (fun _ h9 => h9) rfl hin rfl (by decide +kernel) rfl rfl (Nat.le_of_ble_eq_true rfl) dX0_init_49 (fun H locs hP hD hS => ?_)
  have hP : va_P D vwCl [(a_t, oB 0 [.ref q1, .ref q2, .ref q3, .ref q4, .ref q5, .ref q6, .null, .null, .int 0]), (q1, aI cI 48 (fun _ => 0)), (q2, aI cI 6 (fun _ => 0)), (q3, aI cI 6 (fun _ => 0)), (q4, aI cI 8 (fun _ => 0)), (q5, aI cI 8 (fun _ => 0)), (q6, aI cI 6 (fun _ => 0))] H := hP
  have hD : va_D A [(a_t, oB 0 [.ref q1, .ref q2, .ref q3, .ref q4, .ref q5, .ref q6, .null, .null, .int 0]), (q1, aI cI 48 (fun _ => 0)), (q2, aI cI 6 (fun _ => 0)), (q3, aI cI 6 (fun _ => 0)), (q4, aI cI 8 (fun _ => 0)), (q5, aI cI 8 (fun _ => 0)), (q6, aI cI 6 (fun _ => 0))] := hD
  refine lv_aload_n hx hb dX0_init_52 rfl (lv_at hl 0 rfl) ?_
  refine lv_sipush (v := (256 : Int32)) hx hb dX0_init_53 (by decide) ?_
  refine va_newa (atype := .int) (ty := .int) (N' := 256) (a0 := (256, .inl (fun _ => 0))) hx hb (hts (.arrayClass .int) (by decide +kernel)) rfl hK hP hD hS hA (fun _ => rfl) (by decide) rfl (by show 256 * 4 ≤ 536870912; omega) (Nat.le_of_ble_eq_true rfl) (Nat.le_of_ble_eq_true rfl) dX0_init_56 (fun q7 cA H hKn hP hD hS => ?_)
  obtain rfl : cI = cA := arr_sameI hKn 0 3 rfl rfl
  have hP : va_P D vwCl [(a_t, oB 0 [.ref q1, .ref q2, .ref q3, .ref q4, .ref q5, .ref q6, .null, .null, .int 0]), (q1, aI cI 48 (fun _ => 0)), (q2, aI cI 6 (fun _ => 0)), (q3, aI cI 6 (fun _ => 0)), (q4, aI cI 8 (fun _ => 0)), (q5, aI cI 8 (fun _ => 0)), (q6, aI cI 6 (fun _ => 0)), (q7, aI cI 256 (fun _ => 0))] H := hP
  have hD : va_D A [(a_t, oB 0 [.ref q1, .ref q2, .ref q3, .ref q4, .ref q5, .ref q6, .null, .null, .int 0]), (q1, aI cI 48 (fun _ => 0)), (q2, aI cI 6 (fun _ => 0)), (q3, aI cI 6 (fun _ => 0)), (q4, aI cI 8 (fun _ => 0)), (q5, aI cI 8 (fun _ => 0)), (q6, aI cI 6 (fun _ => 0)), (q7, aI cI 256 (fun _ => 0))] := hD
  refine va_putF (D := D) (ci := 0) (v := .ref q7) (ty := (tyX0 6)) (C := RX0) (T := TX0) (N := 9) hx hb hts in_X0_init_X0 tyX0 tyX0_ok nmX0 hown hK hP hD hS 0 rfl rfl 6 (by decide) (hts (.fieldLink RX0 30 "DivisionHall$Dealer" "pick" "[I") (by decide +kernel)) (fun _ h9 => h9) rfl hin rfl (by decide +kernel) rfl rfl (Nat.le_of_ble_eq_true rfl) dX0_init_58 (fun H locs hP hD hS => ?_)
  have hP : va_P D vwCl [(a_t, oB 0 [.ref q1, .ref q2, .ref q3, .ref q4, .ref q5, .ref q6, .ref q7, .null, .int 0]), (q1, aI cI 48 (fun _ => 0)), (q2, aI cI 6 (fun _ => 0)), (q3, aI cI 6 (fun _ => 0)), (q4, aI cI 8 (fun _ => 0)), (q5, aI cI 8 (fun _ => 0)), (q6, aI cI 6 (fun _ => 0)), (q7, aI cI 256 (fun _ => 0))] H := hP
  have hD : va_D A [(a_t, oB 0 [.ref q1, .ref q2, .ref q3, .ref q4, .ref q5, .ref q6, .ref q7, .null, .int 0]), (q1, aI cI 48 (fun _ => 0)), (q2, aI cI 6 (fun _ => 0)), (q3, aI cI 6 (fun _ => 0)), (q4, aI cI 8 (fun _ => 0)), (q5, aI cI 8 (fun _ => 0)), (q6, aI cI 6 (fun _ => 0)), (q7, aI cI 256 (fun _ => 0))] := hD
  refine lv_aload_n hx hb dX0_init_61 rfl (lv_at hl 0 rfl) ?_
  refine lv_sipush (v := (1536 : Int32)) hx hb dX0_init_62 (by decide) ?_
  refine va_newa (atype := .int) (ty := .int) (N' := 1536) (a0 := (1536, .inl (fun _ => 0))) hx hb (hts (.arrayClass .int) (by decide +kernel)) rfl hK hP hD hS hA (fun _ => rfl) (by decide) rfl (by show 1536 * 4 ≤ 536870912; omega) (Nat.le_of_ble_eq_true rfl) (Nat.le_of_ble_eq_true rfl) dX0_init_65 (fun q8 cA H hKn hP hD hS => ?_)
  obtain rfl : cI = cA := arr_sameI hKn 0 3 rfl rfl
  have hP : va_P D vwCl [(a_t, oB 0 [.ref q1, .ref q2, .ref q3, .ref q4, .ref q5, .ref q6, .ref q7, .null, .int 0]), (q1, aI cI 48 (fun _ => 0)), (q2, aI cI 6 (fun _ => 0)), (q3, aI cI 6 (fun _ => 0)), (q4, aI cI 8 (fun _ => 0)), (q5, aI cI 8 (fun _ => 0)), (q6, aI cI 6 (fun _ => 0)), (q7, aI cI 256 (fun _ => 0)), (q8, aI cI 1536 (fun _ => 0))] H := hP
  have hD : va_D A [(a_t, oB 0 [.ref q1, .ref q2, .ref q3, .ref q4, .ref q5, .ref q6, .ref q7, .null, .int 0]), (q1, aI cI 48 (fun _ => 0)), (q2, aI cI 6 (fun _ => 0)), (q3, aI cI 6 (fun _ => 0)), (q4, aI cI 8 (fun _ => 0)), (q5, aI cI 8 (fun _ => 0)), (q6, aI cI 6 (fun _ => 0)), (q7, aI cI 256 (fun _ => 0)), (q8, aI cI 1536 (fun _ => 0))] := hD
  refine va_putF (D := D) (ci := 0) (v := .ref q8) (ty := (tyX0 7)) (C := RX0) (T := TX0) (N := 9) hx hb hts in_X0_init_X0 tyX0 tyX0_ok nmX0 hown hK hP hD hS 0 rfl rfl 7 (by decide) (hts (.fieldLink RX0 33 "DivisionHall$Dealer" "gain" "[I") (by decide +kernel)) (fun _ h9 => h9) rfl hin rfl (by decide +kernel) rfl rfl (Nat.le_of_ble_eq_true rfl) dX0_init_67 (fun H locs hP hD hS => ?_)
  have hP : va_P D vwCl [(a_t, oB 0 [.ref q1, .ref q2, .ref q3, .ref q4, .ref q5, .ref q6, .ref q7, .ref q8, .int 0]), (q1, aI cI 48 (fun _ => 0)), (q2, aI cI 6 (fun _ => 0)), (q3, aI cI 6 (fun _ => 0)), (q4, aI cI 8 (fun _ => 0)), (q5, aI cI 8 (fun _ => 0)), (q6, aI cI 6 (fun _ => 0)), (q7, aI cI 256 (fun _ => 0)), (q8, aI cI 1536 (fun _ => 0))] H := hP
  have hD : va_D A [(a_t, oB 0 [.ref q1, .ref q2, .ref q3, .ref q4, .ref q5, .ref q6, .ref q7, .ref q8, .int 0]), (q1, aI cI 48 (fun _ => 0)), (q2, aI cI 6 (fun _ => 0)), (q3, aI cI 6 (fun _ => 0)), (q4, aI cI 8 (fun _ => 0)), (q5, aI cI 8 (fun _ => 0)), (q6, aI cI 6 (fun _ => 0)), (q7, aI cI 256 (fun _ => 0)), (q8, aI cI 1536 (fun _ => 0))] := hD
  exact W.vret hx hb hr (fun t ht hW => ⟨⟨(q1, q2, q3, q4, q5, q6, q7, q8), rfl, trivial, by rw [ht]; exact hP, va_K.moved hW.alike hK, hD⟩, hS.F ht⟩) hS.2.2 dX0_init_70

set_option maxRecDepth 100000 in
theorem in_X4_init_X4 : ∀ w ∈ wsX40, w ∈ wsX4_init := by decide +kernel
abbrev wn_X4 (cI cZ cR : ClassId) (a_t q1 q2 q3 q4 q5 q6 : Nat) : va_W := [(a_t, oB 4 [.ref q1, .ref q2, .ref q3, .ref q4, .ref q5, .ref q6, .int 0]), (q1, aI cI 10 (fill_row (-1 : Int32) 10 (fun _ => 0))), (q2, aI cI 60 (fun _ => 0)), (q3, aI cI 6 (fun _ => 0)), (q4, aI cI 6 (fun _ => 0)), (q5, aI cI 6 (fun _ => 0)), (q6, aI cI 6 (fun _ => 0))]
set_option maxHeartbeats 8000000 in
set_option maxRecDepth 100000 in
theorem c_X4_init (l : Launch) (D : va_G) (cI cZ cR : ClassId) {a_t sz : Nat} : Met l yX4_init wsX4_init ({ frames := 1, cells := 6, slots := 94, locals := 23 } : Room) (pre D cI cZ cR [.ref a_t] [(a_t, oB 4 [.null, .null, .null, .null, .null, .null, .int 0])] sz) (va_Qv (fun (_ : Nat × Nat × Nat × Nat × Nat × Nat) => True) (fun u t => va_P D vwCl (wn_X4 cI cZ cR a_t (u.1) (u.2.1) (u.2.2.1) (u.2.2.2.1) (u.2.2.2.2.1) (u.2.2.2.2.2)) t.heap ∧ va_K D vwCl (ty3 cI cZ cR) t ∧ va_D (va_A [(a_t, oB 4 [.null, .null, .null, .null, .null, .null, .int 0])] sz) (wn_X4 cI cZ cR a_t (u.1) (u.2.1) (u.2.2.1) (u.2.2.2.1) (u.2.2.2.2.1) (u.2.2.2.2.2))) (va_A [(a_t, oB 4 [.null, .null, .null, .null, .null, .null, .int 0])] sz)) 6 94 (va_A [(a_t, oB 4 [.null, .null, .null, .null, .null, .null, .int 0])] sz) := by
  refine met_ofN (Qf := fun A => va_Qv (fun (_ : Nat × Nat × Nat × Nat × Nat × Nat) => True) (fun u t => va_P D vwCl (wn_X4 cI cZ cR a_t (u.1) (u.2.1) (u.2.2.1) (u.2.2.2.1) (u.2.2.2.2.1) (u.2.2.2.2.2)) t.heap ∧ va_K D vwCl (ty3 cI cZ cR) t ∧ va_D A (wn_X4 cI cZ cR a_t (u.1) (u.2.1) (u.2.2.1) (u.2.2.2.1) (u.2.2.2.2.1) (u.2.2.2.2.2))) A) RX4 (by decide +kernel) rfl rfl (Nat.le_of_ble_eq_true rfl) ?_
  intro p e s m below meth c A X hin hK hA hP hD hS ls hl
  have hl : lv_has ls 1 [(0, .ref a_t)] := hl
  obtain ⟨hx, hb, hml, hr, hown, hts, hlocks, hN⟩ := id X
  refine lv_aload_n hx hb dX4_init_0 rfl (lv_at hl 0 rfl) ?_
  refine W.objInit hx hb hown (hts (.methodLink RX4 3 objectInit) (by decide +kernel)) (hts (.instanceMethod objectInit) (by decide +kernel)) (hts (.code objectInit ⟨#[0xb1]⟩ 1 none) (by decide +kernel)) rfl (by rw [hml]; exact hl.1) rfl dX4_init_1 (Nat.le_of_ble_eq_true rfl) (Nat.le_of_ble_eq_true rfl) ?_
  refine W.eq (g2 := F0 m 4 ls []) rfl ?_
  refine lv_aload_n hx hb dX4_init_4 rfl (lv_at hl 0 rfl) ?_
  refine lv_bipush (v := (10 : Int32)) hx hb dX4_init_5 (by decide) ?_
  refine va_newa (atype := .int) (ty := .int) (N' := 10) (a0 := (10, .inl (fun _ => 0))) hx hb (hts (.arrayClass .int) (by decide +kernel)) rfl hK hP hD hS hA (fun _ => rfl) (by decide) rfl (by show 10 * 4 ≤ 536870912; omega) (Nat.le_of_ble_eq_true rfl) (Nat.le_of_ble_eq_true rfl) dX4_init_7 (fun q1 cA H hKn hP hD hS => ?_)
  obtain rfl : cI = cA := arr_sameI hKn 0 3 rfl rfl
  have hP : va_P D vwCl [(a_t, oB 4 [.null, .null, .null, .null, .null, .null, .int 0]), (q1, aI cI 10 (fun _ => 0))] H := hP
  have hD : va_D A [(a_t, oB 4 [.null, .null, .null, .null, .null, .null, .int 0]), (q1, aI cI 10 (fun _ => 0))] := hD
  refine va_putF (D := D) (ci := 4) (v := .ref q1) (ty := (tyX4 0)) (C := RX4) (T := TX4) (N := 7) hx hb hts in_X4_init_X4 tyX4 tyX4_ok nmX4 hown hK hP hD hS 0 rfl rfl 0 (by decide) (hts (.fieldLink RX4 9 "DivisionHall$Motions" "first" "[I") (by decide +kernel)) (fun _ h9 => h9) rfl hin rfl (by decide +kernel) rfl rfl (Nat.le_of_ble_eq_true rfl) dX4_init_9 (fun H locs hP hD hS => ?_)
  have hP : va_P D vwCl [(a_t, oB 4 [.ref q1, .null, .null, .null, .null, .null, .int 0]), (q1, aI cI 10 (fun _ => 0))] H := hP
  have hD : va_D A [(a_t, oB 4 [.ref q1, .null, .null, .null, .null, .null, .int 0]), (q1, aI cI 10 (fun _ => 0))] := hD
  refine lv_aload_n hx hb dX4_init_12 rfl (lv_at hl 0 rfl) ?_
  refine lv_bipush (v := (60 : Int32)) hx hb dX4_init_13 (by decide) ?_
  refine va_newa (atype := .int) (ty := .int) (N' := 60) (a0 := (60, .inl (fun _ => 0))) hx hb (hts (.arrayClass .int) (by decide +kernel)) rfl hK hP hD hS hA (fun _ => rfl) (by decide) rfl (by show 60 * 4 ≤ 536870912; omega) (Nat.le_of_ble_eq_true rfl) (Nat.le_of_ble_eq_true rfl) dX4_init_15 (fun q2 cA H hKn hP hD hS => ?_)
  obtain rfl : cI = cA := arr_sameI hKn 0 3 rfl rfl
  have hP : va_P D vwCl [(a_t, oB 4 [.ref q1, .null, .null, .null, .null, .null, .int 0]), (q1, aI cI 10 (fun _ => 0)), (q2, aI cI 60 (fun _ => 0))] H := hP
  have hD : va_D A [(a_t, oB 4 [.ref q1, .null, .null, .null, .null, .null, .int 0]), (q1, aI cI 10 (fun _ => 0)), (q2, aI cI 60 (fun _ => 0))] := hD
  refine va_putF (D := D) (ci := 4) (v := .ref q2) (ty := (tyX4 1)) (C := RX4) (T := TX4) (N := 7) hx hb hts in_X4_init_X4 tyX4 tyX4_ok nmX4 hown hK hP hD hS 0 rfl rfl 1 (by decide) (hts (.fieldLink RX4 15 "DivisionHall$Motions" "rank" "[I") (by decide +kernel)) (fun _ h9 => h9) rfl hin rfl (by decide +kernel) rfl rfl (Nat.le_of_ble_eq_true rfl) dX4_init_17 (fun H locs hP hD hS => ?_)
  have hP : va_P D vwCl [(a_t, oB 4 [.ref q1, .ref q2, .null, .null, .null, .null, .int 0]), (q1, aI cI 10 (fun _ => 0)), (q2, aI cI 60 (fun _ => 0))] H := hP
  have hD : va_D A [(a_t, oB 4 [.ref q1, .ref q2, .null, .null, .null, .null, .int 0]), (q1, aI cI 10 (fun _ => 0)), (q2, aI cI 60 (fun _ => 0))] := hD
  refine lv_aload_n hx hb dX4_init_20 rfl (lv_at hl 0 rfl) ?_
  refine lv_bipush (v := (6 : Int32)) hx hb dX4_init_21 (by decide) ?_
  refine va_newa (atype := .int) (ty := .int) (N' := 6) (a0 := (6, .inl (fun _ => 0))) hx hb (hts (.arrayClass .int) (by decide +kernel)) rfl hK hP hD hS hA (fun _ => rfl) (by decide) rfl (by show 6 * 4 ≤ 536870912; omega) (Nat.le_of_ble_eq_true rfl) (Nat.le_of_ble_eq_true rfl) dX4_init_23 (fun q3 cA H hKn hP hD hS => ?_)
  obtain rfl : cI = cA := arr_sameI hKn 0 3 rfl rfl
  have hP : va_P D vwCl [(a_t, oB 4 [.ref q1, .ref q2, .null, .null, .null, .null, .int 0]), (q1, aI cI 10 (fun _ => 0)), (q2, aI cI 60 (fun _ => 0)), (q3, aI cI 6 (fun _ => 0))] H := hP
  have hD : va_D A [(a_t, oB 4 [.ref q1, .ref q2, .null, .null, .null, .null, .int 0]), (q1, aI cI 10 (fun _ => 0)), (q2, aI cI 60 (fun _ => 0)), (q3, aI cI 6 (fun _ => 0))] := hD
  refine va_putF (D := D) (ci := 4) (v := .ref q3) (ty := (tyX4 2)) (C := RX4) (T := TX4) (N := 7) hx hb hts in_X4_init_X4 tyX4 tyX4_ok nmX4 hown hK hP hD hS 0 rfl rfl 2 (by decide) (hts (.fieldLink RX4 18 "DivisionHall$Motions" "told" "[I") (by decide +kernel)) (fun _ h9 => h9) rfl hin rfl (by decide +kernel) rfl rfl (Nat.le_of_ble_eq_true rfl) dX4_init_25 (fun H locs hP hD hS => ?_)
  have hP : va_P D vwCl [(a_t, oB 4 [.ref q1, .ref q2, .ref q3, .null, .null, .null, .int 0]), (q1, aI cI 10 (fun _ => 0)), (q2, aI cI 60 (fun _ => 0)), (q3, aI cI 6 (fun _ => 0))] H := hP
  have hD : va_D A [(a_t, oB 4 [.ref q1, .ref q2, .ref q3, .null, .null, .null, .int 0]), (q1, aI cI 10 (fun _ => 0)), (q2, aI cI 60 (fun _ => 0)), (q3, aI cI 6 (fun _ => 0))] := hD
  refine lv_aload_n hx hb dX4_init_28 rfl (lv_at hl 0 rfl) ?_
  refine lv_bipush (v := (6 : Int32)) hx hb dX4_init_29 (by decide) ?_
  refine va_newa (atype := .int) (ty := .int) (N' := 6) (a0 := (6, .inl (fun _ => 0))) hx hb (hts (.arrayClass .int) (by decide +kernel)) rfl hK hP hD hS hA (fun _ => rfl) (by decide) rfl (by show 6 * 4 ≤ 536870912; omega) (Nat.le_of_ble_eq_true rfl) (Nat.le_of_ble_eq_true rfl) dX4_init_31 (fun q4 cA H hKn hP hD hS => ?_)
  obtain rfl : cI = cA := arr_sameI hKn 0 3 rfl rfl
  have hP : va_P D vwCl [(a_t, oB 4 [.ref q1, .ref q2, .ref q3, .null, .null, .null, .int 0]), (q1, aI cI 10 (fun _ => 0)), (q2, aI cI 60 (fun _ => 0)), (q3, aI cI 6 (fun _ => 0)), (q4, aI cI 6 (fun _ => 0))] H := hP
  have hD : va_D A [(a_t, oB 4 [.ref q1, .ref q2, .ref q3, .null, .null, .null, .int 0]), (q1, aI cI 10 (fun _ => 0)), (q2, aI cI 60 (fun _ => 0)), (q3, aI cI 6 (fun _ => 0)), (q4, aI cI 6 (fun _ => 0))] := hD
  refine va_putF (D := D) (ci := 4) (v := .ref q4) (ty := (tyX4 3)) (C := RX4) (T := TX4) (N := 7) hx hb hts in_X4_init_X4 tyX4 tyX4_ok nmX4 hown hK hP hD hS 0 rfl rfl 3 (by decide) (hts (.fieldLink RX4 21 "DivisionHall$Motions" "beaten" "[I") (by decide +kernel)) (fun _ h9 => h9) rfl hin rfl (by decide +kernel) rfl rfl (Nat.le_of_ble_eq_true rfl) dX4_init_33 (fun H locs hP hD hS => ?_)
  have hP : va_P D vwCl [(a_t, oB 4 [.ref q1, .ref q2, .ref q3, .ref q4, .null, .null, .int 0]), (q1, aI cI 10 (fun _ => 0)), (q2, aI cI 60 (fun _ => 0)), (q3, aI cI 6 (fun _ => 0)), (q4, aI cI 6 (fun _ => 0))] H := hP
  have hD : va_D A [(a_t, oB 4 [.ref q1, .ref q2, .ref q3, .ref q4, .null, .null, .int 0]), (q1, aI cI 10 (fun _ => 0)), (q2, aI cI 60 (fun _ => 0)), (q3, aI cI 6 (fun _ => 0)), (q4, aI cI 6 (fun _ => 0))] := hD
  refine lv_aload_n hx hb dX4_init_36 rfl (lv_at hl 0 rfl) ?_
  refine lv_bipush (v := (6 : Int32)) hx hb dX4_init_37 (by decide) ?_
  refine va_newa (atype := .int) (ty := .int) (N' := 6) (a0 := (6, .inl (fun _ => 0))) hx hb (hts (.arrayClass .int) (by decide +kernel)) rfl hK hP hD hS hA (fun _ => rfl) (by decide) rfl (by show 6 * 4 ≤ 536870912; omega) (Nat.le_of_ble_eq_true rfl) (Nat.le_of_ble_eq_true rfl) dX4_init_39 (fun q5 cA H hKn hP hD hS => ?_)
  obtain rfl : cI = cA := arr_sameI hKn 0 3 rfl rfl
  have hP : va_P D vwCl [(a_t, oB 4 [.ref q1, .ref q2, .ref q3, .ref q4, .null, .null, .int 0]), (q1, aI cI 10 (fun _ => 0)), (q2, aI cI 60 (fun _ => 0)), (q3, aI cI 6 (fun _ => 0)), (q4, aI cI 6 (fun _ => 0)), (q5, aI cI 6 (fun _ => 0))] H := hP
  have hD : va_D A [(a_t, oB 4 [.ref q1, .ref q2, .ref q3, .ref q4, .null, .null, .int 0]), (q1, aI cI 10 (fun _ => 0)), (q2, aI cI 60 (fun _ => 0)), (q3, aI cI 6 (fun _ => 0)), (q4, aI cI 6 (fun _ => 0)), (q5, aI cI 6 (fun _ => 0))] := hD
  refine va_putF (D := D) (ci := 4) (v := .ref q5) (ty := (tyX4 4)) (C := RX4) (T := TX4) (N := 7) hx hb hts in_X4_init_X4 tyX4 tyX4_ok nmX4 hown hK hP hD hS 0 rfl rfl 4 (by decide) (hts (.fieldLink RX4 24 "DivisionHall$Motions" "leads" "[I") (by decide +kernel)) (fun _ h9 => h9) rfl hin rfl (by decide +kernel) rfl rfl (Nat.le_of_ble_eq_true rfl) dX4_init_41 (fun H locs hP hD hS => ?_)
  have hP : va_P D vwCl [(a_t, oB 4 [.ref q1, .ref q2, .ref q3, .ref q4, .ref q5, .null, .int 0]), (q1, aI cI 10 (fun _ => 0)), (q2, aI cI 60 (fun _ => 0)), (q3, aI cI 6 (fun _ => 0)), (q4, aI cI 6 (fun _ => 0)), (q5, aI cI 6 (fun _ => 0))] H := hP
  have hD : va_D A [(a_t, oB 4 [.ref q1, .ref q2, .ref q3, .ref q4, .ref q5, .null, .int 0]), (q1, aI cI 10 (fun _ => 0)), (q2, aI cI 60 (fun _ => 0)), (q3, aI cI 6 (fun _ => 0)), (q4, aI cI 6 (fun _ => 0)), (q5, aI cI 6 (fun _ => 0))] := hD
  refine lv_aload_n hx hb dX4_init_44 rfl (lv_at hl 0 rfl) ?_
  refine lv_bipush (v := (6 : Int32)) hx hb dX4_init_45 (by decide) ?_
  refine va_newa (atype := .int) (ty := .int) (N' := 6) (a0 := (6, .inl (fun _ => 0))) hx hb (hts (.arrayClass .int) (by decide +kernel)) rfl hK hP hD hS hA (fun _ => rfl) (by decide) rfl (by show 6 * 4 ≤ 536870912; omega) (Nat.le_of_ble_eq_true rfl) (Nat.le_of_ble_eq_true rfl) dX4_init_47 (fun q6 cA H hKn hP hD hS => ?_)
  obtain rfl : cI = cA := arr_sameI hKn 0 3 rfl rfl
  have hP : va_P D vwCl [(a_t, oB 4 [.ref q1, .ref q2, .ref q3, .ref q4, .ref q5, .null, .int 0]), (q1, aI cI 10 (fun _ => 0)), (q2, aI cI 60 (fun _ => 0)), (q3, aI cI 6 (fun _ => 0)), (q4, aI cI 6 (fun _ => 0)), (q5, aI cI 6 (fun _ => 0)), (q6, aI cI 6 (fun _ => 0))] H := hP
  have hD : va_D A [(a_t, oB 4 [.ref q1, .ref q2, .ref q3, .ref q4, .ref q5, .null, .int 0]), (q1, aI cI 10 (fun _ => 0)), (q2, aI cI 60 (fun _ => 0)), (q3, aI cI 6 (fun _ => 0)), (q4, aI cI 6 (fun _ => 0)), (q5, aI cI 6 (fun _ => 0)), (q6, aI cI 6 (fun _ => 0))] := hD
  refine va_putF (D := D) (ci := 4) (v := .ref q6) (ty := (tyX4 5)) (C := RX4) (T := TX4) (N := 7) hx hb hts in_X4_init_X4 tyX4 tyX4_ok nmX4 hown hK hP hD hS 0 rfl rfl 5 (by decide) (hts (.fieldLink RX4 27 "DivisionHall$Motions" "order" "[I") (by decide +kernel)) (fun _ h9 => h9) rfl hin rfl (by decide +kernel) rfl rfl (Nat.le_of_ble_eq_true rfl) dX4_init_49 (fun H locs hP hD hS => ?_)
  have hP : va_P D vwCl [(a_t, oB 4 [.ref q1, .ref q2, .ref q3, .ref q4, .ref q5, .ref q6, .int 0]), (q1, aI cI 10 (fun _ => 0)), (q2, aI cI 60 (fun _ => 0)), (q3, aI cI 6 (fun _ => 0)), (q4, aI cI 6 (fun _ => 0)), (q5, aI cI 6 (fun _ => 0)), (q6, aI cI 6 (fun _ => 0))] H := hP
  have hD : va_D A [(a_t, oB 4 [.ref q1, .ref q2, .ref q3, .ref q4, .ref q5, .ref q6, .int 0]), (q1, aI cI 10 (fun _ => 0)), (q2, aI cI 60 (fun _ => 0)), (q3, aI cI 6 (fun _ => 0)), (q4, aI cI 6 (fun _ => 0)), (q5, aI cI 6 (fun _ => 0)), (q6, aI cI 6 (fun _ => 0))] := hD
  refine lv_aload_n hx hb dX4_init_52 rfl (lv_at hl 0 rfl) ?_
  refine va_get (D := D) (ci := 4) (v := .ref q1) (C := RX4) (T := TX4) (N := 7) hx hb hts in_X4_init_X4 hown hK hP 0 rfl rfl 0 (by decide) (hts (.fieldLink RX4 9 "DivisionHall$Motions" "first" "[I") (by decide +kernel)) (fun _ h9 => h9) rfl dX4_init_53 ?_
  refine lv_iconst (v := (-1 : Int32)) hx hb dX4_init_56 (by decide) ?_
  refine wcallvG (D := D) (cI := cI) (cZ := cZ) (cR := cR) (wc := (wd_J7_fill_53178 cI cZ cR q1 10 (fun _ => 0))) (w' := (wd_J7_fill_53178 cI cZ cR q1 10 (fill_row (-1 : Int32) 10 (fun _ => 0)))) [1] hP hD hS hA rfl rfl rfl (rnSG (As := [.ref q1, .int (-1 : Int32)]) ⟨Nat.le_of_ble_eq_true rfl, Nat.le_of_ble_eq_true rfl⟩ X [1] hK hP hD rfl rfl (c_J7_fill_53178 l D cI cZ cR (fill_ok (-1 : Int32) (fun _ => 0) (by decide))) ⟨callB_of 2 hts ggX4_init_J7_fill_53178 rfl rfl rfl (hts (.initialized RJ7) (by decide +kernel)) (hts (.methodLink RX4 30 yJ7_fill_53178) (by decide +kernel)) (by decide +kernel) ⟨Nat.le_of_ble_eq_true rfl, Nat.le_of_ble_eq_true rfl⟩, hts (.static yJ7_fill_53178) (by decide +kernel)⟩ rfl hl.1 rfl (Nat.le_of_ble_eq_true rfl) dX4_init_57) (fun H locs hP hD hS => ?_)
  have hP : va_P D vwCl [(a_t, oB 4 [.ref q1, .ref q2, .ref q3, .ref q4, .ref q5, .ref q6, .int 0]), (q1, aI cI 10 (fill_row (-1 : Int32) 10 (fun _ => 0))), (q2, aI cI 60 (fun _ => 0)), (q3, aI cI 6 (fun _ => 0)), (q4, aI cI 6 (fun _ => 0)), (q5, aI cI 6 (fun _ => 0)), (q6, aI cI 6 (fun _ => 0))] H := hP
  have hD : va_D A [(a_t, oB 4 [.ref q1, .ref q2, .ref q3, .ref q4, .ref q5, .ref q6, .int 0]), (q1, aI cI 10 (fill_row (-1 : Int32) 10 (fun _ => 0))), (q2, aI cI 60 (fun _ => 0)), (q3, aI cI 6 (fun _ => 0)), (q4, aI cI 6 (fun _ => 0)), (q5, aI cI 6 (fun _ => 0)), (q6, aI cI 6 (fun _ => 0))] := hD
  exact W.vret hx hb hr (fun t ht hW => ⟨⟨(q1, q2, q3, q4, q5, q6), rfl, trivial, by rw [ht]; exact hP, va_K.moved hW.alike hK, hD⟩, hS.F ht⟩) hS.2.2 dX4_init_60

set_option maxRecDepth 100000 in
theorem in_X5_init_X5 : ∀ w ∈ wsX50, w ∈ wsX5_init := by decide +kernel
abbrev wn_X5 (cI cZ cR : ClassId) (a_t q1 q2 q3 : Nat) : va_W := [(a_t, oB 5 [.ref q1, .ref q2, .ref q3, .int 0, .int 0, .int 0, .int 0, .int (-1 : Int32), .int 0, .int 0, .int 0, .int 0, .int 0, .int 0, .int 0, .int 0, .int 0]), (q1, aI cI 400 (fun _ => 0)), (q2, aI cI 400 (fun _ => 0)), (q3, aI cI 40 (fun _ => 0))]
set_option maxHeartbeats 8000000 in
set_option maxRecDepth 100000 in
theorem c_X5_init (l : Launch) (D : va_G) (cI cZ cR : ClassId) {a_t sz : Nat} : Met l yX5_init wsX5_init ({ frames := 1, cells := 3, slots := 840, locals := 12 } : Room) (pre D cI cZ cR [.ref a_t] [(a_t, oB 5 [.null, .null, .null, .int 0, .int 0, .int 0, .int 0, .int 0, .int 0, .int 0, .int 0, .int 0, .int 0, .int 0, .int 0, .int 0, .int 0])] sz) (va_Qv (fun (_ : Nat × Nat × Nat) => True) (fun u t => va_P D vwCl (wn_X5 cI cZ cR a_t (u.1) (u.2.1) (u.2.2)) t.heap ∧ va_K D vwCl (ty3 cI cZ cR) t ∧ va_D (va_A [(a_t, oB 5 [.null, .null, .null, .int 0, .int 0, .int 0, .int 0, .int 0, .int 0, .int 0, .int 0, .int 0, .int 0, .int 0, .int 0, .int 0, .int 0])] sz) (wn_X5 cI cZ cR a_t (u.1) (u.2.1) (u.2.2))) (va_A [(a_t, oB 5 [.null, .null, .null, .int 0, .int 0, .int 0, .int 0, .int 0, .int 0, .int 0, .int 0, .int 0, .int 0, .int 0, .int 0, .int 0, .int 0])] sz)) 3 840 (va_A [(a_t, oB 5 [.null, .null, .null, .int 0, .int 0, .int 0, .int 0, .int 0, .int 0, .int 0, .int 0, .int 0, .int 0, .int 0, .int 0, .int 0, .int 0])] sz) := by
  refine met_ofN (Qf := fun A => va_Qv (fun (_ : Nat × Nat × Nat) => True) (fun u t => va_P D vwCl (wn_X5 cI cZ cR a_t (u.1) (u.2.1) (u.2.2)) t.heap ∧ va_K D vwCl (ty3 cI cZ cR) t ∧ va_D A (wn_X5 cI cZ cR a_t (u.1) (u.2.1) (u.2.2))) A) RX5 (by decide +kernel) rfl rfl (Nat.le_of_ble_eq_true rfl) ?_
  intro p e s m below meth c A X hin hK hA hP hD hS ls hl
  have hl : lv_has ls 1 [(0, .ref a_t)] := hl
  obtain ⟨hx, hb, hml, hr, hown, hts, hlocks, hN⟩ := id X
  refine lv_aload_n hx hb dX5_init_0 rfl (lv_at hl 0 rfl) ?_
  refine W.objInit hx hb hown (hts (.methodLink RX5 3 objectInit) (by decide +kernel)) (hts (.instanceMethod objectInit) (by decide +kernel)) (hts (.code objectInit ⟨#[0xb1]⟩ 1 none) (by decide +kernel)) rfl (by rw [hml]; exact hl.1) rfl dX5_init_1 (Nat.le_of_ble_eq_true rfl) (Nat.le_of_ble_eq_true rfl) ?_
  refine W.eq (g2 := F0 m 4 ls []) rfl ?_
  refine lv_aload_n hx hb dX5_init_4 rfl (lv_at hl 0 rfl) ?_
  refine lv_sipush (v := (400 : Int32)) hx hb dX5_init_5 (by decide) ?_
  refine va_newa (atype := .int) (ty := .int) (N' := 400) (a0 := (400, .inl (fun _ => 0))) hx hb (hts (.arrayClass .int) (by decide +kernel)) rfl hK hP hD hS hA (fun _ => rfl) (by decide) rfl (by show 400 * 4 ≤ 536870912; omega) (Nat.le_of_ble_eq_true rfl) (Nat.le_of_ble_eq_true rfl) dX5_init_8 (fun q1 cA H hKn hP hD hS => ?_)
  obtain rfl : cI = cA := arr_sameI hKn 0 3 rfl rfl
  have hP : va_P D vwCl [(a_t, oB 5 [.null, .null, .null, .int 0, .int 0, .int 0, .int 0, .int 0, .int 0, .int 0, .int 0, .int 0, .int 0, .int 0, .int 0, .int 0, .int 0]), (q1, aI cI 400 (fun _ => 0))] H := hP
  have hD : va_D A [(a_t, oB 5 [.null, .null, .null, .int 0, .int 0, .int 0, .int 0, .int 0, .int 0, .int 0, .int 0, .int 0, .int 0, .int 0, .int 0, .int 0, .int 0]), (q1, aI cI 400 (fun _ => 0))] := hD
  refine va_putF (D := D) (ci := 5) (v := .ref q1) (ty := (tyX5 0)) (C := RX5) (T := TX5) (N := 17) hx hb hts in_X5_init_X5 tyX5 tyX5_ok nmX5 hown hK hP hD hS 0 rfl rfl 0 (by decide) (hts (.fieldLink RX5 9 "DivisionHall$Reader" "text" "[I") (by decide +kernel)) (fun _ h9 => h9) rfl hin rfl (by decide +kernel) rfl rfl (Nat.le_of_ble_eq_true rfl) dX5_init_10 (fun H locs hP hD hS => ?_)
  have hP : va_P D vwCl [(a_t, oB 5 [.ref q1, .null, .null, .int 0, .int 0, .int 0, .int 0, .int 0, .int 0, .int 0, .int 0, .int 0, .int 0, .int 0, .int 0, .int 0, .int 0]), (q1, aI cI 400 (fun _ => 0))] H := hP
  have hD : va_D A [(a_t, oB 5 [.ref q1, .null, .null, .int 0, .int 0, .int 0, .int 0, .int 0, .int 0, .int 0, .int 0, .int 0, .int 0, .int 0, .int 0, .int 0, .int 0]), (q1, aI cI 400 (fun _ => 0))] := hD
  refine lv_aload_n hx hb dX5_init_13 rfl (lv_at hl 0 rfl) ?_
  refine lv_sipush (v := (400 : Int32)) hx hb dX5_init_14 (by decide) ?_
  refine va_newa (atype := .int) (ty := .int) (N' := 400) (a0 := (400, .inl (fun _ => 0))) hx hb (hts (.arrayClass .int) (by decide +kernel)) rfl hK hP hD hS hA (fun _ => rfl) (by decide) rfl (by show 400 * 4 ≤ 536870912; omega) (Nat.le_of_ble_eq_true rfl) (Nat.le_of_ble_eq_true rfl) dX5_init_17 (fun q2 cA H hKn hP hD hS => ?_)
  obtain rfl : cI = cA := arr_sameI hKn 0 3 rfl rfl
  have hP : va_P D vwCl [(a_t, oB 5 [.ref q1, .null, .null, .int 0, .int 0, .int 0, .int 0, .int 0, .int 0, .int 0, .int 0, .int 0, .int 0, .int 0, .int 0, .int 0, .int 0]), (q1, aI cI 400 (fun _ => 0)), (q2, aI cI 400 (fun _ => 0))] H := hP
  have hD : va_D A [(a_t, oB 5 [.ref q1, .null, .null, .int 0, .int 0, .int 0, .int 0, .int 0, .int 0, .int 0, .int 0, .int 0, .int 0, .int 0, .int 0, .int 0, .int 0]), (q1, aI cI 400 (fun _ => 0)), (q2, aI cI 400 (fun _ => 0))] := hD
  refine va_putF (D := D) (ci := 5) (v := .ref q2) (ty := (tyX5 1)) (C := RX5) (T := TX5) (N := 17) hx hb hts in_X5_init_X5 tyX5 tyX5_ok nmX5 hown hK hP hD hS 0 rfl rfl 1 (by decide) (hts (.fieldLink RX5 15 "DivisionHall$Reader" "code" "[I") (by decide +kernel)) (fun _ h9 => h9) rfl hin rfl (by decide +kernel) rfl rfl (Nat.le_of_ble_eq_true rfl) dX5_init_19 (fun H locs hP hD hS => ?_)
  have hP : va_P D vwCl [(a_t, oB 5 [.ref q1, .ref q2, .null, .int 0, .int 0, .int 0, .int 0, .int 0, .int 0, .int 0, .int 0, .int 0, .int 0, .int 0, .int 0, .int 0, .int 0]), (q1, aI cI 400 (fun _ => 0)), (q2, aI cI 400 (fun _ => 0))] H := hP
  have hD : va_D A [(a_t, oB 5 [.ref q1, .ref q2, .null, .int 0, .int 0, .int 0, .int 0, .int 0, .int 0, .int 0, .int 0, .int 0, .int 0, .int 0, .int 0, .int 0, .int 0]), (q1, aI cI 400 (fun _ => 0)), (q2, aI cI 400 (fun _ => 0))] := hD
  refine lv_aload_n hx hb dX5_init_22 rfl (lv_at hl 0 rfl) ?_
  refine lv_bipush (v := (40 : Int32)) hx hb dX5_init_23 (by decide) ?_
  refine va_newa (atype := .int) (ty := .int) (N' := 40) (a0 := (40, .inl (fun _ => 0))) hx hb (hts (.arrayClass .int) (by decide +kernel)) rfl hK hP hD hS hA (fun _ => rfl) (by decide) rfl (by show 40 * 4 ≤ 536870912; omega) (Nat.le_of_ble_eq_true rfl) (Nat.le_of_ble_eq_true rfl) dX5_init_25 (fun q3 cA H hKn hP hD hS => ?_)
  obtain rfl : cI = cA := arr_sameI hKn 0 3 rfl rfl
  have hP : va_P D vwCl [(a_t, oB 5 [.ref q1, .ref q2, .null, .int 0, .int 0, .int 0, .int 0, .int 0, .int 0, .int 0, .int 0, .int 0, .int 0, .int 0, .int 0, .int 0, .int 0]), (q1, aI cI 400 (fun _ => 0)), (q2, aI cI 400 (fun _ => 0)), (q3, aI cI 40 (fun _ => 0))] H := hP
  have hD : va_D A [(a_t, oB 5 [.ref q1, .ref q2, .null, .int 0, .int 0, .int 0, .int 0, .int 0, .int 0, .int 0, .int 0, .int 0, .int 0, .int 0, .int 0, .int 0, .int 0]), (q1, aI cI 400 (fun _ => 0)), (q2, aI cI 400 (fun _ => 0)), (q3, aI cI 40 (fun _ => 0))] := hD
  refine va_putF (D := D) (ci := 5) (v := .ref q3) (ty := (tyX5 2)) (C := RX5) (T := TX5) (N := 17) hx hb hts in_X5_init_X5 tyX5 tyX5_ok nmX5 hown hK hP hD hS 0 rfl rfl 2 (by decide) (hts (.fieldLink RX5 18 "DivisionHall$Reader" "waiting" "[I") (by decide +kernel)) (fun _ h9 => h9) rfl hin rfl (by decide +kernel) rfl rfl (Nat.le_of_ble_eq_true rfl) dX5_init_27 (fun H locs hP hD hS => ?_)
  have hP : va_P D vwCl [(a_t, oB 5 [.ref q1, .ref q2, .ref q3, .int 0, .int 0, .int 0, .int 0, .int 0, .int 0, .int 0, .int 0, .int 0, .int 0, .int 0, .int 0, .int 0, .int 0]), (q1, aI cI 400 (fun _ => 0)), (q2, aI cI 400 (fun _ => 0)), (q3, aI cI 40 (fun _ => 0))] H := hP
  have hD : va_D A [(a_t, oB 5 [.ref q1, .ref q2, .ref q3, .int 0, .int 0, .int 0, .int 0, .int 0, .int 0, .int 0, .int 0, .int 0, .int 0, .int 0, .int 0, .int 0, .int 0]), (q1, aI cI 400 (fun _ => 0)), (q2, aI cI 400 (fun _ => 0)), (q3, aI cI 40 (fun _ => 0))] := hD
  refine lv_aload_n hx hb dX5_init_30 rfl (lv_at hl 0 rfl) ?_
  refine lv_iconst (v := (-1 : Int32)) hx hb dX5_init_31 (by decide) ?_
  refine va_put (D := D) (ci := 5) (v := .int (-1 : Int32)) (ty := (tyX5 7)) (C := RX5) (T := TX5) (N := 17) hx hb hts in_X5_init_X5 tyX5 tyX5_ok nmX5 hown hK hP hD hS 0 rfl rfl 7 (by decide) (hts (.fieldLink RX5 21 "DivisionHall$Reader" "faultPlace" "I") (by decide +kernel)) (fun _ h9 => h9) rfl (by decide +kernel) rfl rfl (Nat.le_of_ble_eq_true rfl) dX5_init_32 (fun H locs hP hD hS => ?_)
  have hP : va_P D vwCl [(a_t, oB 5 [.ref q1, .ref q2, .ref q3, .int 0, .int 0, .int 0, .int 0, .int (-1 : Int32), .int 0, .int 0, .int 0, .int 0, .int 0, .int 0, .int 0, .int 0, .int 0]), (q1, aI cI 400 (fun _ => 0)), (q2, aI cI 400 (fun _ => 0)), (q3, aI cI 40 (fun _ => 0))] H := hP
  have hD : va_D A [(a_t, oB 5 [.ref q1, .ref q2, .ref q3, .int 0, .int 0, .int 0, .int 0, .int (-1 : Int32), .int 0, .int 0, .int 0, .int 0, .int 0, .int 0, .int 0, .int 0, .int 0]), (q1, aI cI 400 (fun _ => 0)), (q2, aI cI 400 (fun _ => 0)), (q3, aI cI 40 (fun _ => 0))] := hD
  exact W.vret hx hb hr (fun t ht hW => ⟨⟨(q1, q2, q3), rfl, trivial, by rw [ht]; exact hP, va_K.moved hW.alike hK, hD⟩, hS.F ht⟩) hS.2.2 dX5_init_35
