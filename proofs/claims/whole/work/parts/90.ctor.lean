set_option maxRecDepth 100000 in
theorem in_X7_init_X7 : ∀ w ∈ wsX70, w ∈ wsX7_init := by decide +kernel
abbrev wn_X7 (cI cZ cR : ClassId) (a_t q1 q2 : Nat) : va_W := [(a_t, oB 7 [.ref q1, .ref q2, .int 0, .int 0]), (q1, aI cI 10 (fun _ => 0)), (q2, aI cI 6 (fun _ => 0))]
set_option maxHeartbeats 8000000 in
set_option maxRecDepth 100000 in
theorem c_X7_init (l : Launch) (D : va_G) (cI cZ cR : ClassId) {a_t sz : Nat} : Met l yX7_init wsX7_init ({ frames := 1, cells := 2, slots := 16, locals := 12 } : Room) (pre D cI cZ cR [.ref a_t] [(a_t, oB 7 [.null, .null, .int 0, .int 0])] sz) (va_Qv (fun (_ : Nat × Nat) => True) (fun u t => va_P D vwCl (wn_X7 cI cZ cR a_t (u.1) (u.2)) t.heap ∧ va_K D vwCl (ty3 cI cZ cR) t ∧ va_D (va_A [(a_t, oB 7 [.null, .null, .int 0, .int 0])] sz) (wn_X7 cI cZ cR a_t (u.1) (u.2))) (va_A [(a_t, oB 7 [.null, .null, .int 0, .int 0])] sz)) 2 16 (va_A [(a_t, oB 7 [.null, .null, .int 0, .int 0])] sz) := by
  refine met_ofN (Qf := fun A => va_Qv (fun (_ : Nat × Nat) => True) (fun u t => va_P D vwCl (wn_X7 cI cZ cR a_t (u.1) (u.2)) t.heap ∧ va_K D vwCl (ty3 cI cZ cR) t ∧ va_D A (wn_X7 cI cZ cR a_t (u.1) (u.2))) A) RX7 (by decide +kernel) rfl rfl (Nat.le_of_ble_eq_true rfl) ?_
  intro p e s m below meth c A X hin hK hA hP hD hS ls hl
  have hl : lv_has ls 1 [(0, .ref a_t)] := hl
  obtain ⟨hx, hb, hml, hr, hown, hts, hlocks, hN⟩ := id X
  refine lv_aload_n hx hb dX7_init_0 rfl (lv_at hl 0 rfl) ?_
  refine W.objInit hx hb hown (hts (.methodLink RX7 3 objectInit) (by decide +kernel)) (hts (.instanceMethod objectInit) (by decide +kernel)) (hts (.code objectInit ⟨#[0xb1]⟩ 1 none) (by decide +kernel)) rfl (by rw [hml]; exact hl.1) rfl dX7_init_1 (Nat.le_of_ble_eq_true rfl) (Nat.le_of_ble_eq_true rfl) ?_
  refine W.eq (g2 := F0 m 4 ls []) rfl ?_
  refine lv_aload_n hx hb dX7_init_4 rfl (lv_at hl 0 rfl) ?_
  refine lv_bipush (v := (10 : Int32)) hx hb dX7_init_5 (by decide) ?_
  refine va_newa (atype := .int) (ty := .int) (N' := 10) (a0 := (10, .inl (fun _ => 0))) hx hb (hts (.arrayClass .int) (by decide +kernel)) rfl hK hP hD hS hA (fun _ => rfl) (by decide) rfl (by show 10 * 4 ≤ 536870912; omega) (Nat.le_of_ble_eq_true rfl) (Nat.le_of_ble_eq_true rfl) dX7_init_7 (fun q1 cA H hKn hP hD hS => ?_)
  obtain rfl : cI = cA := arr_sameI hKn 0 3 rfl rfl
  have hP : va_P D vwCl [(a_t, oB 7 [.null, .null, .int 0, .int 0]), (q1, aI cI 10 (fun _ => 0))] H := hP
  have hD : va_D A [(a_t, oB 7 [.null, .null, .int 0, .int 0]), (q1, aI cI 10 (fun _ => 0))] := hD
  refine va_putF (D := D) (ci := 7) (v := .ref q1) (ty := (tyX7 0)) (C := RX7) (T := TX7) (N := 4) hx hb hts in_X7_init_X7 tyX7 tyX7_ok nmX7 hown hK hP hD hS 0 rfl rfl 0 (by decide) (hts (.fieldLink RX7 9 "DivisionHall$Seats" "weight" "[I") (by decide +kernel)) (fun _ h9 => h9) rfl hin rfl (by decide +kernel) rfl rfl (Nat.le_of_ble_eq_true rfl) dX7_init_9 (fun H locs hP hD hS => ?_)
  have hP : va_P D vwCl [(a_t, oB 7 [.ref q1, .null, .int 0, .int 0]), (q1, aI cI 10 (fun _ => 0))] H := hP
  have hD : va_D A [(a_t, oB 7 [.ref q1, .null, .int 0, .int 0]), (q1, aI cI 10 (fun _ => 0))] := hD
  refine lv_aload_n hx hb dX7_init_12 rfl (lv_at hl 0 rfl) ?_
  refine lv_bipush (v := (6 : Int32)) hx hb dX7_init_13 (by decide) ?_
  refine va_newa (atype := .int) (ty := .int) (N' := 6) (a0 := (6, .inl (fun _ => 0))) hx hb (hts (.arrayClass .int) (by decide +kernel)) rfl hK hP hD hS hA (fun _ => rfl) (by decide) rfl (by show 6 * 4 ≤ 536870912; omega) (Nat.le_of_ble_eq_true rfl) (Nat.le_of_ble_eq_true rfl) dX7_init_15 (fun q2 cA H hKn hP hD hS => ?_)
  obtain rfl : cI = cA := arr_sameI hKn 0 3 rfl rfl
  have hP : va_P D vwCl [(a_t, oB 7 [.ref q1, .null, .int 0, .int 0]), (q1, aI cI 10 (fun _ => 0)), (q2, aI cI 6 (fun _ => 0))] H := hP
  have hD : va_D A [(a_t, oB 7 [.ref q1, .null, .int 0, .int 0]), (q1, aI cI 10 (fun _ => 0)), (q2, aI cI 6 (fun _ => 0))] := hD
  refine va_putF (D := D) (ci := 7) (v := .ref q2) (ty := (tyX7 1)) (C := RX7) (T := TX7) (N := 4) hx hb hts in_X7_init_X7 tyX7 tyX7_ok nmX7 hown hK hP hD hS 0 rfl rfl 1 (by decide) (hts (.fieldLink RX7 15 "DivisionHall$Seats" "membersOf" "[I") (by decide +kernel)) (fun _ h9 => h9) rfl hin rfl (by decide +kernel) rfl rfl (Nat.le_of_ble_eq_true rfl) dX7_init_17 (fun H locs hP hD hS => ?_)
  have hP : va_P D vwCl [(a_t, oB 7 [.ref q1, .ref q2, .int 0, .int 0]), (q1, aI cI 10 (fun _ => 0)), (q2, aI cI 6 (fun _ => 0))] H := hP
  have hD : va_D A [(a_t, oB 7 [.ref q1, .ref q2, .int 0, .int 0]), (q1, aI cI 10 (fun _ => 0)), (q2, aI cI 6 (fun _ => 0))] := hD
  exact W.vret hx hb hr (fun t ht hW => ⟨⟨(q1, q2), rfl, trivial, by rw [ht]; exact hP, va_K.moved hW.alike hK, hD⟩, hS.F ht⟩) hS.2.2 dX7_init_20

set_option maxRecDepth 100000 in
theorem in_X3_init_X3 : ∀ w ∈ wsX30, w ∈ wsX3_init := by decide +kernel
abbrev wn_X3 (cI cZ cR : ClassId) (a_t q1 q2 q3 q4 q5 q6 : Nat) : va_W := [(a_t, oB 3 [.ref q1, .ref q2, .ref q3, .ref q4, .ref q5, .ref q6, .int 0]), (q1, aI cI 200 (fun _ => 0)), (q2, aI cI 200 (fun _ => 0)), (q3, aI cI 200 (fun _ => 0)), (q4, aI cI 200 (fun _ => 0)), (q5, aI cI 200 (fun _ => 0)), (q6, aI cI 10 (fun _ => 0))]
set_option maxHeartbeats 8000000 in
set_option maxRecDepth 100000 in
theorem c_X3_init (l : Launch) (D : va_G) (cI cZ cR : ClassId) {a_t sz : Nat} : Met l yX3_init wsX3_init ({ frames := 1, cells := 6, slots := 1010, locals := 12 } : Room) (pre D cI cZ cR [.ref a_t] [(a_t, oB 3 [.null, .null, .null, .null, .null, .null, .int 0])] sz) (va_Qv (fun (_ : Nat × Nat × Nat × Nat × Nat × Nat) => True) (fun u t => va_P D vwCl (wn_X3 cI cZ cR a_t (u.1) (u.2.1) (u.2.2.1) (u.2.2.2.1) (u.2.2.2.2.1) (u.2.2.2.2.2)) t.heap ∧ va_K D vwCl (ty3 cI cZ cR) t ∧ va_D (va_A [(a_t, oB 3 [.null, .null, .null, .null, .null, .null, .int 0])] sz) (wn_X3 cI cZ cR a_t (u.1) (u.2.1) (u.2.2.1) (u.2.2.2.1) (u.2.2.2.2.1) (u.2.2.2.2.2))) (va_A [(a_t, oB 3 [.null, .null, .null, .null, .null, .null, .int 0])] sz)) 6 1010 (va_A [(a_t, oB 3 [.null, .null, .null, .null, .null, .null, .int 0])] sz) := by
  refine met_ofN (Qf := fun A => va_Qv (fun (_ : Nat × Nat × Nat × Nat × Nat × Nat) => True) (fun u t => va_P D vwCl (wn_X3 cI cZ cR a_t (u.1) (u.2.1) (u.2.2.1) (u.2.2.2.1) (u.2.2.2.2.1) (u.2.2.2.2.2)) t.heap ∧ va_K D vwCl (ty3 cI cZ cR) t ∧ va_D A (wn_X3 cI cZ cR a_t (u.1) (u.2.1) (u.2.2.1) (u.2.2.2.1) (u.2.2.2.2.1) (u.2.2.2.2.2))) A) RX3 (by decide +kernel) rfl rfl (Nat.le_of_ble_eq_true rfl) ?_
  intro p e s m below meth c A X hin hK hA hP hD hS ls hl
  have hl : lv_has ls 1 [(0, .ref a_t)] := hl
  obtain ⟨hx, hb, hml, hr, hown, hts, hlocks, hN⟩ := id X
  refine lv_aload_n hx hb dX3_init_0 rfl (lv_at hl 0 rfl) ?_
  refine W.objInit hx hb hown (hts (.methodLink RX3 3 objectInit) (by decide +kernel)) (hts (.instanceMethod objectInit) (by decide +kernel)) (hts (.code objectInit ⟨#[0xb1]⟩ 1 none) (by decide +kernel)) rfl (by rw [hml]; exact hl.1) rfl dX3_init_1 (Nat.le_of_ble_eq_true rfl) (Nat.le_of_ble_eq_true rfl) ?_
  refine W.eq (g2 := F0 m 4 ls []) rfl ?_
  refine lv_aload_n hx hb dX3_init_4 rfl (lv_at hl 0 rfl) ?_
  refine lv_sipush (v := (200 : Int32)) hx hb dX3_init_5 (by decide) ?_
  refine va_newa (atype := .int) (ty := .int) (N' := 200) (a0 := (200, .inl (fun _ => 0))) hx hb (hts (.arrayClass .int) (by decide +kernel)) rfl hK hP hD hS hA (fun _ => rfl) (by decide) rfl (by show 200 * 4 ≤ 536870912; omega) (Nat.le_of_ble_eq_true rfl) (Nat.le_of_ble_eq_true rfl) dX3_init_8 (fun q1 cA H hKn hP hD hS => ?_)
  obtain rfl : cI = cA := arr_sameI hKn 0 3 rfl rfl
  have hP : va_P D vwCl [(a_t, oB 3 [.null, .null, .null, .null, .null, .null, .int 0]), (q1, aI cI 200 (fun _ => 0))] H := hP
  have hD : va_D A [(a_t, oB 3 [.null, .null, .null, .null, .null, .null, .int 0]), (q1, aI cI 200 (fun _ => 0))] := hD
  refine va_putF (D := D) (ci := 3) (v := .ref q1) (ty := (tyX3 0)) (C := RX3) (T := TX3) (N := 7) hx hb hts in_X3_init_X3 tyX3 tyX3_ok nmX3 hown hK hP hD hS 0 rfl rfl 0 (by decide) (hts (.fieldLink RX3 9 "DivisionHall$Log" "member" "[I") (by decide +kernel)) (fun _ h9 => h9) rfl hin rfl (by decide +kernel) rfl rfl (Nat.le_of_ble_eq_true rfl) dX3_init_10 (fun H locs hP hD hS => ?_)
  have hP : va_P D vwCl [(a_t, oB 3 [.ref q1, .null, .null, .null, .null, .null, .int 0]), (q1, aI cI 200 (fun _ => 0))] H := hP
  have hD : va_D A [(a_t, oB 3 [.ref q1, .null, .null, .null, .null, .null, .int 0]), (q1, aI cI 200 (fun _ => 0))] := hD
  refine lv_aload_n hx hb dX3_init_13 rfl (lv_at hl 0 rfl) ?_
  refine lv_sipush (v := (200 : Int32)) hx hb dX3_init_14 (by decide) ?_
  refine va_newa (atype := .int) (ty := .int) (N' := 200) (a0 := (200, .inl (fun _ => 0))) hx hb (hts (.arrayClass .int) (by decide +kernel)) rfl hK hP hD hS hA (fun _ => rfl) (by decide) rfl (by show 200 * 4 ≤ 536870912; omega) (Nat.le_of_ble_eq_true rfl) (Nat.le_of_ble_eq_true rfl) dX3_init_17 (fun q2 cA H hKn hP hD hS => ?_)
  obtain rfl : cI = cA := arr_sameI hKn 0 3 rfl rfl
  have hP : va_P D vwCl [(a_t, oB 3 [.ref q1, .null, .null, .null, .null, .null, .int 0]), (q1, aI cI 200 (fun _ => 0)), (q2, aI cI 200 (fun _ => 0))] H := hP
  have hD : va_D A [(a_t, oB 3 [.ref q1, .null, .null, .null, .null, .null, .int 0]), (q1, aI cI 200 (fun _ => 0)), (q2, aI cI 200 (fun _ => 0))] := hD
  refine va_putF (D := D) (ci := 3) (v := .ref q2) (ty := (tyX3 1)) (C := RX3) (T := TX3) (N := 7) hx hb hts in_X3_init_X3 tyX3 tyX3_ok nmX3 hown hK hP hD hS 0 rfl rfl 1 (by decide) (hts (.fieldLink RX3 15 "DivisionHall$Log" "day" "[I") (by decide +kernel)) (fun _ h9 => h9) rfl hin rfl (by decide +kernel) rfl rfl (Nat.le_of_ble_eq_true rfl) dX3_init_19 (fun H locs hP hD hS => ?_)
  have hP : va_P D vwCl [(a_t, oB 3 [.ref q1, .ref q2, .null, .null, .null, .null, .int 0]), (q1, aI cI 200 (fun _ => 0)), (q2, aI cI 200 (fun _ => 0))] H := hP
  have hD : va_D A [(a_t, oB 3 [.ref q1, .ref q2, .null, .null, .null, .null, .int 0]), (q1, aI cI 200 (fun _ => 0)), (q2, aI cI 200 (fun _ => 0))] := hD
  refine lv_aload_n hx hb dX3_init_22 rfl (lv_at hl 0 rfl) ?_
  refine lv_sipush (v := (200 : Int32)) hx hb dX3_init_23 (by decide) ?_
  refine va_newa (atype := .int) (ty := .int) (N' := 200) (a0 := (200, .inl (fun _ => 0))) hx hb (hts (.arrayClass .int) (by decide +kernel)) rfl hK hP hD hS hA (fun _ => rfl) (by decide) rfl (by show 200 * 4 ≤ 536870912; omega) (Nat.le_of_ble_eq_true rfl) (Nat.le_of_ble_eq_true rfl) dX3_init_26 (fun q3 cA H hKn hP hD hS => ?_)
  obtain rfl : cI = cA := arr_sameI hKn 0 3 rfl rfl
  have hP : va_P D vwCl [(a_t, oB 3 [.ref q1, .ref q2, .null, .null, .null, .null, .int 0]), (q1, aI cI 200 (fun _ => 0)), (q2, aI cI 200 (fun _ => 0)), (q3, aI cI 200 (fun _ => 0))] H := hP
  have hD : va_D A [(a_t, oB 3 [.ref q1, .ref q2, .null, .null, .null, .null, .int 0]), (q1, aI cI 200 (fun _ => 0)), (q2, aI cI 200 (fun _ => 0)), (q3, aI cI 200 (fun _ => 0))] := hD
  refine va_putF (D := D) (ci := 3) (v := .ref q3) (ty := (tyX3 2)) (C := RX3) (T := TX3) (N := 7) hx hb hts in_X3_init_X3 tyX3 tyX3_ok nmX3 hown hK hP hD hS 0 rfl rfl 2 (by decide) (hts (.fieldLink RX3 18 "DivisionHall$Log" "weight" "[I") (by decide +kernel)) (fun _ h9 => h9) rfl hin rfl (by decide +kernel) rfl rfl (Nat.le_of_ble_eq_true rfl) dX3_init_28 (fun H locs hP hD hS => ?_)
  have hP : va_P D vwCl [(a_t, oB 3 [.ref q1, .ref q2, .ref q3, .null, .null, .null, .int 0]), (q1, aI cI 200 (fun _ => 0)), (q2, aI cI 200 (fun _ => 0)), (q3, aI cI 200 (fun _ => 0))] H := hP
  have hD : va_D A [(a_t, oB 3 [.ref q1, .ref q2, .ref q3, .null, .null, .null, .int 0]), (q1, aI cI 200 (fun _ => 0)), (q2, aI cI 200 (fun _ => 0)), (q3, aI cI 200 (fun _ => 0))] := hD
  refine lv_aload_n hx hb dX3_init_31 rfl (lv_at hl 0 rfl) ?_
  refine lv_sipush (v := (200 : Int32)) hx hb dX3_init_32 (by decide) ?_
  refine va_newa (atype := .int) (ty := .int) (N' := 200) (a0 := (200, .inl (fun _ => 0))) hx hb (hts (.arrayClass .int) (by decide +kernel)) rfl hK hP hD hS hA (fun _ => rfl) (by decide) rfl (by show 200 * 4 ≤ 536870912; omega) (Nat.le_of_ble_eq_true rfl) (Nat.le_of_ble_eq_true rfl) dX3_init_35 (fun q4 cA H hKn hP hD hS => ?_)
  obtain rfl : cI = cA := arr_sameI hKn 0 3 rfl rfl
  have hP : va_P D vwCl [(a_t, oB 3 [.ref q1, .ref q2, .ref q3, .null, .null, .null, .int 0]), (q1, aI cI 200 (fun _ => 0)), (q2, aI cI 200 (fun _ => 0)), (q3, aI cI 200 (fun _ => 0)), (q4, aI cI 200 (fun _ => 0))] H := hP
  have hD : va_D A [(a_t, oB 3 [.ref q1, .ref q2, .ref q3, .null, .null, .null, .int 0]), (q1, aI cI 200 (fun _ => 0)), (q2, aI cI 200 (fun _ => 0)), (q3, aI cI 200 (fun _ => 0)), (q4, aI cI 200 (fun _ => 0))] := hD
  refine va_putF (D := D) (ci := 3) (v := .ref q4) (ty := (tyX3 3)) (C := RX3) (T := TX3) (N := 7) hx hb hts in_X3_init_X3 tyX3 tyX3_ok nmX3 hown hK hP hD hS 0 rfl rfl 3 (by decide) (hts (.fieldLink RX3 21 "DivisionHall$Log" "bloc" "[I") (by decide +kernel)) (fun _ h9 => h9) rfl hin rfl (by decide +kernel) rfl rfl (Nat.le_of_ble_eq_true rfl) dX3_init_37 (fun H locs hP hD hS => ?_)
  have hP : va_P D vwCl [(a_t, oB 3 [.ref q1, .ref q2, .ref q3, .ref q4, .null, .null, .int 0]), (q1, aI cI 200 (fun _ => 0)), (q2, aI cI 200 (fun _ => 0)), (q3, aI cI 200 (fun _ => 0)), (q4, aI cI 200 (fun _ => 0))] H := hP
  have hD : va_D A [(a_t, oB 3 [.ref q1, .ref q2, .ref q3, .ref q4, .null, .null, .int 0]), (q1, aI cI 200 (fun _ => 0)), (q2, aI cI 200 (fun _ => 0)), (q3, aI cI 200 (fun _ => 0)), (q4, aI cI 200 (fun _ => 0))] := hD
  refine lv_aload_n hx hb dX3_init_40 rfl (lv_at hl 0 rfl) ?_
  refine lv_sipush (v := (200 : Int32)) hx hb dX3_init_41 (by decide) ?_
  refine va_newa (atype := .int) (ty := .int) (N' := 200) (a0 := (200, .inl (fun _ => 0))) hx hb (hts (.arrayClass .int) (by decide +kernel)) rfl hK hP hD hS hA (fun _ => rfl) (by decide) rfl (by show 200 * 4 ≤ 536870912; omega) (Nat.le_of_ble_eq_true rfl) (Nat.le_of_ble_eq_true rfl) dX3_init_44 (fun q5 cA H hKn hP hD hS => ?_)
  obtain rfl : cI = cA := arr_sameI hKn 0 3 rfl rfl
  have hP : va_P D vwCl [(a_t, oB 3 [.ref q1, .ref q2, .ref q3, .ref q4, .null, .null, .int 0]), (q1, aI cI 200 (fun _ => 0)), (q2, aI cI 200 (fun _ => 0)), (q3, aI cI 200 (fun _ => 0)), (q4, aI cI 200 (fun _ => 0)), (q5, aI cI 200 (fun _ => 0))] H := hP
  have hD : va_D A [(a_t, oB 3 [.ref q1, .ref q2, .ref q3, .ref q4, .null, .null, .int 0]), (q1, aI cI 200 (fun _ => 0)), (q2, aI cI 200 (fun _ => 0)), (q3, aI cI 200 (fun _ => 0)), (q4, aI cI 200 (fun _ => 0)), (q5, aI cI 200 (fun _ => 0))] := hD
  refine va_putF (D := D) (ci := 3) (v := .ref q5) (ty := (tyX3 4)) (C := RX3) (T := TX3) (N := 7) hx hb hts in_X3_init_X3 tyX3 tyX3_ok nmX3 hown hK hP hD hS 0 rfl rfl 4 (by decide) (hts (.fieldLink RX3 24 "DivisionHall$Log" "told" "[I") (by decide +kernel)) (fun _ h9 => h9) rfl hin rfl (by decide +kernel) rfl rfl (Nat.le_of_ble_eq_true rfl) dX3_init_46 (fun H locs hP hD hS => ?_)
  have hP : va_P D vwCl [(a_t, oB 3 [.ref q1, .ref q2, .ref q3, .ref q4, .ref q5, .null, .int 0]), (q1, aI cI 200 (fun _ => 0)), (q2, aI cI 200 (fun _ => 0)), (q3, aI cI 200 (fun _ => 0)), (q4, aI cI 200 (fun _ => 0)), (q5, aI cI 200 (fun _ => 0))] H := hP
  have hD : va_D A [(a_t, oB 3 [.ref q1, .ref q2, .ref q3, .ref q4, .ref q5, .null, .int 0]), (q1, aI cI 200 (fun _ => 0)), (q2, aI cI 200 (fun _ => 0)), (q3, aI cI 200 (fun _ => 0)), (q4, aI cI 200 (fun _ => 0)), (q5, aI cI 200 (fun _ => 0))] := hD
  refine lv_aload_n hx hb dX3_init_49 rfl (lv_at hl 0 rfl) ?_
  refine lv_bipush (v := (10 : Int32)) hx hb dX3_init_50 (by decide) ?_
  refine va_newa (atype := .int) (ty := .int) (N' := 10) (a0 := (10, .inl (fun _ => 0))) hx hb (hts (.arrayClass .int) (by decide +kernel)) rfl hK hP hD hS hA (fun _ => rfl) (by decide) rfl (by show 10 * 4 ≤ 536870912; omega) (Nat.le_of_ble_eq_true rfl) (Nat.le_of_ble_eq_true rfl) dX3_init_52 (fun q6 cA H hKn hP hD hS => ?_)
  obtain rfl : cI = cA := arr_sameI hKn 0 3 rfl rfl
  have hP : va_P D vwCl [(a_t, oB 3 [.ref q1, .ref q2, .ref q3, .ref q4, .ref q5, .null, .int 0]), (q1, aI cI 200 (fun _ => 0)), (q2, aI cI 200 (fun _ => 0)), (q3, aI cI 200 (fun _ => 0)), (q4, aI cI 200 (fun _ => 0)), (q5, aI cI 200 (fun _ => 0)), (q6, aI cI 10 (fun _ => 0))] H := hP
  have hD : va_D A [(a_t, oB 3 [.ref q1, .ref q2, .ref q3, .ref q4, .ref q5, .null, .int 0]), (q1, aI cI 200 (fun _ => 0)), (q2, aI cI 200 (fun _ => 0)), (q3, aI cI 200 (fun _ => 0)), (q4, aI cI 200 (fun _ => 0)), (q5, aI cI 200 (fun _ => 0)), (q6, aI cI 10 (fun _ => 0))] := hD
  refine va_putF (D := D) (ci := 3) (v := .ref q6) (ty := (tyX3 5)) (C := RX3) (T := TX3) (N := 7) hx hb hts in_X3_init_X3 tyX3 tyX3_ok nmX3 hown hK hP hD hS 0 rfl rfl 5 (by decide) (hts (.fieldLink RX3 27 "DivisionHall$Log" "latest" "[I") (by decide +kernel)) (fun _ h9 => h9) rfl hin rfl (by decide +kernel) rfl rfl (Nat.le_of_ble_eq_true rfl) dX3_init_54 (fun H locs hP hD hS => ?_)
  have hP : va_P D vwCl [(a_t, oB 3 [.ref q1, .ref q2, .ref q3, .ref q4, .ref q5, .ref q6, .int 0]), (q1, aI cI 200 (fun _ => 0)), (q2, aI cI 200 (fun _ => 0)), (q3, aI cI 200 (fun _ => 0)), (q4, aI cI 200 (fun _ => 0)), (q5, aI cI 200 (fun _ => 0)), (q6, aI cI 10 (fun _ => 0))] H := hP
  have hD : va_D A [(a_t, oB 3 [.ref q1, .ref q2, .ref q3, .ref q4, .ref q5, .ref q6, .int 0]), (q1, aI cI 200 (fun _ => 0)), (q2, aI cI 200 (fun _ => 0)), (q3, aI cI 200 (fun _ => 0)), (q4, aI cI 200 (fun _ => 0)), (q5, aI cI 200 (fun _ => 0)), (q6, aI cI 10 (fun _ => 0))] := hD
  exact W.vret hx hb hr (fun t ht hW => ⟨⟨(q1, q2, q3, q4, q5, q6), rfl, trivial, by rw [ht]; exact hP, va_K.moved hW.alike hK, hD⟩, hS.F ht⟩) hS.2.2 dX3_init_57

set_option maxRecDepth 100000 in
theorem in_X9_init_X9 : ∀ w ∈ wsX90, w ∈ wsX9_init := by decide +kernel
abbrev wn_X9 (cI cZ cR : ClassId) (a_t q1 q2 : Nat) : va_W := [(a_t, oB 8 [.ref q1, .ref q2, .int 0, .int 0, .int 0]), (q1, aI cI 32 (fun _ => 0)), (q2, aI cI 4 (fun _ => 0))]
set_option maxHeartbeats 8000000 in
set_option maxRecDepth 100000 in
theorem c_X9_init (l : Launch) (D : va_G) (cI cZ cR : ClassId) {a_t sz : Nat} : Met l yX9_init wsX9_init ({ frames := 1, cells := 2, slots := 36, locals := 12 } : Room) (pre D cI cZ cR [.ref a_t] [(a_t, oB 8 [.null, .null, .int 0, .int 0, .int 0])] sz) (va_Qv (fun (_ : Nat × Nat) => True) (fun u t => va_P D vwCl (wn_X9 cI cZ cR a_t (u.1) (u.2)) t.heap ∧ va_K D vwCl (ty3 cI cZ cR) t ∧ va_D (va_A [(a_t, oB 8 [.null, .null, .int 0, .int 0, .int 0])] sz) (wn_X9 cI cZ cR a_t (u.1) (u.2))) (va_A [(a_t, oB 8 [.null, .null, .int 0, .int 0, .int 0])] sz)) 2 36 (va_A [(a_t, oB 8 [.null, .null, .int 0, .int 0, .int 0])] sz) := by
  refine met_ofN (Qf := fun A => va_Qv (fun (_ : Nat × Nat) => True) (fun u t => va_P D vwCl (wn_X9 cI cZ cR a_t (u.1) (u.2)) t.heap ∧ va_K D vwCl (ty3 cI cZ cR) t ∧ va_D A (wn_X9 cI cZ cR a_t (u.1) (u.2))) A) RX9 (by decide +kernel) rfl rfl (Nat.le_of_ble_eq_true rfl) ?_
  intro p e s m below meth c A X hin hK hA hP hD hS ls hl
  have hl : lv_has ls 1 [(0, .ref a_t)] := hl
  obtain ⟨hx, hb, hml, hr, hown, hts, hlocks, hN⟩ := id X
  refine lv_aload_n hx hb dX9_init_0 rfl (lv_at hl 0 rfl) ?_
  refine W.objInit hx hb hown (hts (.methodLink RX9 3 objectInit) (by decide +kernel)) (hts (.instanceMethod objectInit) (by decide +kernel)) (hts (.code objectInit ⟨#[0xb1]⟩ 1 none) (by decide +kernel)) rfl (by rw [hml]; exact hl.1) rfl dX9_init_1 (Nat.le_of_ble_eq_true rfl) (Nat.le_of_ble_eq_true rfl) ?_
  refine W.eq (g2 := F0 m 4 ls []) rfl ?_
  refine lv_aload_n hx hb dX9_init_4 rfl (lv_at hl 0 rfl) ?_
  refine lv_bipush (v := (32 : Int32)) hx hb dX9_init_5 (by decide) ?_
  refine va_newa (atype := .int) (ty := .int) (N' := 32) (a0 := (32, .inl (fun _ => 0))) hx hb (hts (.arrayClass .int) (by decide +kernel)) rfl hK hP hD hS hA (fun _ => rfl) (by decide) rfl (by show 32 * 4 ≤ 536870912; omega) (Nat.le_of_ble_eq_true rfl) (Nat.le_of_ble_eq_true rfl) dX9_init_7 (fun q1 cA H hKn hP hD hS => ?_)
  obtain rfl : cI = cA := arr_sameI hKn 0 3 rfl rfl
  have hP : va_P D vwCl [(a_t, oB 8 [.null, .null, .int 0, .int 0, .int 0]), (q1, aI cI 32 (fun _ => 0))] H := hP
  have hD : va_D A [(a_t, oB 8 [.null, .null, .int 0, .int 0, .int 0]), (q1, aI cI 32 (fun _ => 0))] := hD
  refine va_putF (D := D) (ci := 8) (v := .ref q1) (ty := (tyX9 0)) (C := RX9) (T := TX9) (N := 5) hx hb hts in_X9_init_X9 tyX9 tyX9_ok nmX9 hown hK hP hD hS 0 rfl rfl 0 (by decide) (hts (.fieldLink RX9 9 "DivisionHall$Table" "bits" "[I") (by decide +kernel)) (fun _ h9 => h9) rfl hin rfl (by decide +kernel) rfl rfl (Nat.le_of_ble_eq_true rfl) dX9_init_9 (fun H locs hP hD hS => ?_)
  have hP : va_P D vwCl [(a_t, oB 8 [.ref q1, .null, .int 0, .int 0, .int 0]), (q1, aI cI 32 (fun _ => 0))] H := hP
  have hD : va_D A [(a_t, oB 8 [.ref q1, .null, .int 0, .int 0, .int 0]), (q1, aI cI 32 (fun _ => 0))] := hD
  refine lv_aload_n hx hb dX9_init_12 rfl (lv_at hl 0 rfl) ?_
  refine lv_iconst (v := (4 : Int32)) hx hb dX9_init_13 (by decide) ?_
  refine va_newa (atype := .int) (ty := .int) (N' := 4) (a0 := (4, .inl (fun _ => 0))) hx hb (hts (.arrayClass .int) (by decide +kernel)) rfl hK hP hD hS hA (fun _ => rfl) (by decide) rfl (by show 4 * 4 ≤ 536870912; omega) (Nat.le_of_ble_eq_true rfl) (Nat.le_of_ble_eq_true rfl) dX9_init_14 (fun q2 cA H hKn hP hD hS => ?_)
  obtain rfl : cI = cA := arr_sameI hKn 0 3 rfl rfl
  have hP : va_P D vwCl [(a_t, oB 8 [.ref q1, .null, .int 0, .int 0, .int 0]), (q1, aI cI 32 (fun _ => 0)), (q2, aI cI 4 (fun _ => 0))] H := hP
  have hD : va_D A [(a_t, oB 8 [.ref q1, .null, .int 0, .int 0, .int 0]), (q1, aI cI 32 (fun _ => 0)), (q2, aI cI 4 (fun _ => 0))] := hD
  refine va_putF (D := D) (ci := 8) (v := .ref q2) (ty := (tyX9 1)) (C := RX9) (T := TX9) (N := 5) hx hb hts in_X9_init_X9 tyX9 tyX9_ok nmX9 hown hK hP hD hS 0 rfl rfl 1 (by decide) (hts (.fieldLink RX9 15 "DivisionHall$Table" "trade" "[I") (by decide +kernel)) (fun _ h9 => h9) rfl hin rfl (by decide +kernel) rfl rfl (Nat.le_of_ble_eq_true rfl) dX9_init_16 (fun H locs hP hD hS => ?_)
  have hP : va_P D vwCl [(a_t, oB 8 [.ref q1, .ref q2, .int 0, .int 0, .int 0]), (q1, aI cI 32 (fun _ => 0)), (q2, aI cI 4 (fun _ => 0))] H := hP
  have hD : va_D A [(a_t, oB 8 [.ref q1, .ref q2, .int 0, .int 0, .int 0]), (q1, aI cI 32 (fun _ => 0)), (q2, aI cI 4 (fun _ => 0))] := hD
  exact W.vret hx hb hr (fun t ht hW => ⟨⟨(q1, q2), rfl, trivial, by rw [ht]; exact hP, va_K.moved hW.alike hK, hD⟩, hS.F ht⟩) hS.2.2 dX9_init_19
