abbrev wd_X6_become (cI cZ cR : ClassId) (a_p1 a_p1_text a_p1_code a_p1_waiting a_t a_t_code a_t_stack a_t_table a_t_table_bits a_t_table_trade : Nat) (p1_length p1_codes p1_waits p1_fault p1_faultPlace p1_at p1_place p1_sign p1_number p1_state p1_name p1_compared p1_open p1_parentheses t_codes t_table_in t_table_fresh t_table_tradeSought : Int32) (p1_code_r : Nat → Int32) (t_code_r : Nat → Int32) : va_W := [(a_p1, oB 5 [.ref a_p1_text, .ref a_p1_code, .ref a_p1_waiting, .int p1_length, .int p1_codes, .int p1_waits, .int p1_fault, .int p1_faultPlace, .int p1_at, .int p1_place, .int p1_sign, .int p1_number, .int p1_state, .int p1_name, .int p1_compared, .int p1_open, .int p1_parentheses]), (a_t, oB 6 [.ref a_t_code, .ref a_t_stack, .ref a_t_table, .int t_codes]), (a_p1_code, aI cI 400 p1_code_r), (a_t_code, aI cI 400 t_code_r), (a_t_table, oB 8 [.ref a_t_table_bits, .ref a_t_table_trade, .int t_table_in, .int t_table_fresh, .int t_table_tradeSought])]
set_option maxRecDepth 100000 in
theorem in_X6_become_X5 : ∀ w ∈ wsX50, w ∈ wsX6_become := by decide +kernel
set_option maxRecDepth 100000 in
theorem in_X6_become_X6 : ∀ w ∈ wsX60, w ∈ wsX6_become := by decide +kernel
set_option maxRecDepth 100000 in
theorem in_X6_become_X9 : ∀ w ∈ wsX90, w ∈ wsX6_become := by decide +kernel
set_option maxHeartbeats 4000000 in
set_option maxRecDepth 100000 in
theorem c_X6_become (l : Launch) (D : va_G) (cI cZ cR : ClassId) {a_p1 a_p1_text a_p1_code a_p1_waiting a_t a_t_code a_t_stack a_t_table a_t_table_bits a_t_table_trade : Nat} {p1_length : Int32} {p1_codes : Int32} {p1_waits : Int32} {p1_fault : Int32} {p1_faultPlace : Int32} {p1_at : Int32} {p1_place : Int32} {p1_sign : Int32} {p1_number : Int32} {p1_state : Int32} {p1_name : Int32} {p1_compared : Int32} {p1_open : Int32} {p1_parentheses : Int32} {t_codes : Int32} {t_table_in : Int32} {t_table_fresh : Int32} {t_table_tradeSought : Int32} {p1_code_r : Nat → Int32} {t_code_r : Nat → Int32} {sz : Nat} {out : Int32 × (Nat → Int32) × Int32} (hf : F_X6_become p1_codes p1_code_r t_codes t_code_r t_table_fresh = some out) : CV l yX6_become wsX6_become ({ frames := 1, cells := 0, slots := 0, locals := 38 } : Room) D cI cZ cR [.ref a_t, .ref a_p1] (wd_X6_become cI cZ cR a_p1 a_p1_text a_p1_code a_p1_waiting a_t a_t_code a_t_stack a_t_table a_t_table_bits a_t_table_trade p1_length p1_codes p1_waits p1_fault p1_faultPlace p1_at p1_place p1_sign p1_number p1_state p1_name p1_compared p1_open p1_parentheses t_codes t_table_in t_table_fresh t_table_tradeSought p1_code_r t_code_r) sz (wd_X6_become cI cZ cR a_p1 a_p1_text a_p1_code a_p1_waiting a_t a_t_code a_t_stack a_t_table a_t_table_bits a_t_table_trade p1_length p1_codes p1_waits p1_fault p1_faultPlace p1_at p1_place p1_sign p1_number p1_state p1_name p1_compared p1_open p1_parentheses (out.1) t_table_in (out.2.2) t_table_tradeSought p1_code_r (out.2.1)) := by
  refine met_of (Qf := fun A => qv D cI cZ cR A (wd_X6_become cI cZ cR a_p1 a_p1_text a_p1_code a_p1_waiting a_t a_t_code a_t_stack a_t_table a_t_table_bits a_t_table_trade p1_length p1_codes p1_waits p1_fault p1_faultPlace p1_at p1_place p1_sign p1_number p1_state p1_name p1_compared p1_open p1_parentheses (out.1) t_table_in (out.2.2) t_table_tradeSought p1_code_r (out.2.1))) RX6 (by decide +kernel) rfl rfl (Nat.le_of_ble_eq_true rfl) ?_
  intro p e s m below meth c A X hK hA hP hD hS ls hl
  have hl : lv_has ls 2 [(0, .ref a_t), (1, .ref a_p1)] := hl
  obtain ⟨hx, hb, hml, hr, hown, hts, hlocks, hN⟩ := id X
  unfold F_X6_become at hf
  refine lv_aload_n hx hb dX6_become_0 rfl (lv_at hl 0 rfl) ?_
  refine lv_aload_n hx hb dX6_become_1 rfl (lv_at hl 1 rfl) ?_
  refine va_getN (D := D) (ci := 5) (v := .int p1_codes) (C := RX5) (T := TX5) (N := 17) hx hb hts in_X6_become_X5 hown hK hP 0 rfl rfl 4 (by decide) (va_Nw.use rfl (hN.1 ("DivisionHall$Rule", 27, "DivisionHall$Reader", "codes", "I", "DivisionHall") (by decide +kernel))) (fun _ h9 => h9) rfl dX6_become_2 ?_
  refine va_put (D := D) (ci := 6) (v := .int p1_codes) (ty := .int) (C := RX6) (T := TX6) (N := 4) hx hb hts in_X6_become_X6 tyX6 tyX6_ok nmX6 hown hK hP hD hS 1 rfl rfl 3 (by decide) (hts (.fieldLink RX6 31 "DivisionHall$Rule" "codes" "I") (by decide +kernel)) (fun _ h9 => h9) rfl (by decide +kernel) rfl rfl (Nat.le_of_ble_eq_true rfl) dX6_become_5 (fun H locs hP hD hS => ?_)
  have hP : va_P D vwCl (wd_X6_become cI cZ cR a_p1 a_p1_text a_p1_code a_p1_waiting a_t a_t_code a_t_stack a_t_table a_t_table_bits a_t_table_trade p1_length p1_codes p1_waits p1_fault p1_faultPlace p1_at p1_place p1_sign p1_number p1_state p1_name p1_compared p1_open p1_parentheses p1_codes t_table_in t_table_fresh t_table_tradeSought p1_code_r t_code_r) H := hP
  have hD : va_D A (wd_X6_become cI cZ cR a_p1 a_p1_text a_p1_code a_p1_waiting a_t a_t_code a_t_stack a_t_table a_t_table_bits a_t_table_trade p1_length p1_codes p1_waits p1_fault p1_faultPlace p1_at p1_place p1_sign p1_number p1_state p1_name p1_compared p1_open p1_parentheses p1_codes t_table_in t_table_fresh t_table_tradeSought p1_code_r t_code_r) := hD
  refine lv_aload_n hx hb dX6_become_8 rfl (lv_at hl 1 rfl) ?_
  refine va_getN (D := D) (ci := 5) (v := .ref a_p1_code) (C := RX5) (T := TX5) (N := 17) hx hb hts in_X6_become_X5 hown hK hP 0 rfl rfl 1 (by decide) (va_Nw.use rfl (hN.1 ("DivisionHall$Rule", 32, "DivisionHall$Reader", "code", "[I", "DivisionHall") (by decide +kernel))) (fun _ h9 => h9) rfl dX6_become_9 ?_
  refine lv_iconst (v := (0 : Int32)) hx hb dX6_become_12 (by decide) ?_
  refine lv_aload_n hx hb dX6_become_13 rfl (lv_at hl 0 rfl) ?_
  refine va_get (D := D) (ci := 6) (v := .ref a_t_code) (C := RX6) (T := TX6) (N := 4) hx hb hts in_X6_become_X6 hown hK hP 1 rfl rfl 0 (by decide) (hts (.fieldLink RX6 11 "DivisionHall$Rule" "code" "[I") (by decide +kernel)) (fun _ h9 => h9) rfl dX6_become_14 ?_
  refine lv_iconst (v := (0 : Int32)) hx hb dX6_become_17 (by decide) ?_
  refine lv_sipush (v := (400 : Int32)) hx hb dX6_become_18 (by decide) ?_
  obtain ⟨⟨hk1, hk2, hk3, hk4, hk5⟩, hf⟩ := gcp_s hf
  refine va_copyi (ty := .int) hx hb (hml.trans hl.1.symm) hown (hts (.methodLink RX6 33 arraycopyName) (by decide +kernel)) (hts (.native arraycopyName) (by decide +kernel)) (hts (.static arraycopyName) (by decide +kernel)) (hts (.initialized "java/lang/System") (by decide +kernel)) hK hP hD hS 2 3 0 0 rfl rfl rfl rfl rfl hk1 hk2 hk3 hk4 hk5 (fun _ _ => rfl) (Nat.le_of_ble_eq_true rfl) (Nat.le_of_ble_eq_true rfl) dX6_become_21 (fun H locs hP hD hS => ?_)
  have hP : va_P D vwCl (wd_X6_become cI cZ cR a_p1 a_p1_text a_p1_code a_p1_waiting a_t a_t_code a_t_stack a_t_table a_t_table_bits a_t_table_trade p1_length p1_codes p1_waits p1_fault p1_faultPlace p1_at p1_place p1_sign p1_number p1_state p1_name p1_compared p1_open p1_parentheses p1_codes t_table_in t_table_fresh t_table_tradeSought p1_code_r (va_cpy p1_code_r t_code_r ((0 : Int32)).toNatClampNeg ((0 : Int32)).toNatClampNeg ((400 : Int32)).toNatClampNeg)) H := hP
  have hD : va_D A (wd_X6_become cI cZ cR a_p1 a_p1_text a_p1_code a_p1_waiting a_t a_t_code a_t_stack a_t_table a_t_table_bits a_t_table_trade p1_length p1_codes p1_waits p1_fault p1_faultPlace p1_at p1_place p1_sign p1_number p1_state p1_name p1_compared p1_open p1_parentheses p1_codes t_table_in t_table_fresh t_table_tradeSought p1_code_r (va_cpy p1_code_r t_code_r ((0 : Int32)).toNatClampNeg ((0 : Int32)).toNatClampNeg ((400 : Int32)).toNatClampNeg)) := hD
  refine lv_aload_n hx hb dX6_become_24 rfl (lv_at hl 0 rfl) ?_
  refine va_get (D := D) (ci := 6) (v := .ref a_t_table) (C := RX6) (T := TX6) (N := 4) hx hb hts in_X6_become_X6 hown hK hP 1 rfl rfl 2 (by decide) (hts (.fieldLink RX6 23 "DivisionHall$Rule" "table" "LDivisionHall$Table;") (by decide +kernel)) (fun _ h9 => h9) rfl dX6_become_25 ?_
  refine lv_iconst (v := (0 : Int32)) hx hb dX6_become_28 (by decide) ?_
  refine va_putN (D := D) (ci := 8) (v := .int (0 : Int32)) (ty := .boolean) (C := RX9) (T := TX9) (N := 5) hx hb hts in_X6_become_X9 tyX9 tyX9_ok nmX9 hown hK hP hD hS 4 rfl rfl 3 (by decide) (va_Nw.use rfl (hN.1 ("DivisionHall$Rule", 39, "DivisionHall$Table", "fresh", "Z", "DivisionHall") (by decide +kernel))) (fun _ h9 => h9) rfl (by decide +kernel) rfl rfl (Nat.le_of_ble_eq_true rfl) dX6_become_29 (fun H locs hP hD hS => ?_)
  have hP : va_P D vwCl (wd_X6_become cI cZ cR a_p1 a_p1_text a_p1_code a_p1_waiting a_t a_t_code a_t_stack a_t_table a_t_table_bits a_t_table_trade p1_length p1_codes p1_waits p1_fault p1_faultPlace p1_at p1_place p1_sign p1_number p1_state p1_name p1_compared p1_open p1_parentheses p1_codes t_table_in (0 : Int32) t_table_tradeSought p1_code_r (va_cpy p1_code_r t_code_r ((0 : Int32)).toNatClampNeg ((0 : Int32)).toNatClampNeg ((400 : Int32)).toNatClampNeg)) H := hP
  have hD : va_D A (wd_X6_become cI cZ cR a_p1 a_p1_text a_p1_code a_p1_waiting a_t a_t_code a_t_stack a_t_table a_t_table_bits a_t_table_trade p1_length p1_codes p1_waits p1_fault p1_faultPlace p1_at p1_place p1_sign p1_number p1_state p1_name p1_compared p1_open p1_parentheses p1_codes t_table_in (0 : Int32) t_table_tradeSought p1_code_r (va_cpy p1_code_r t_code_r ((0 : Int32)).toNatClampNeg ((0 : Int32)).toNatClampNeg ((400 : Int32)).toNatClampNeg)) := hD
  cases hf
  exact retv X hK hP hD hS dX6_become_32

abbrev wd_X6_ask (cI cZ cR : ClassId) (a_p3 a_p3_weight a_p3_membersOf : Nat) (p3_in p3_all : Int32) (p3_membersOf_r : Nat → Int32) (p3_weight_r : Nat → Int32) : va_W := [(a_p3, oB 7 [.ref a_p3_weight, .ref a_p3_membersOf, .int p3_in, .int p3_all]), (a_p3_membersOf, aI cI 6 p3_membersOf_r), (a_p3_weight, aI cI 10 p3_weight_r)]
set_option maxRecDepth 100000 in
theorem in_X6_ask_X7 : ∀ w ∈ wsX70, w ∈ wsX6_ask := by decide +kernel
set_option maxHeartbeats 4000000 in
set_option maxRecDepth 100000 in
theorem c_X6_ask (l : Launch) (D : va_G) (cI cZ cR : ClassId) {a_p3 a_p3_weight a_p3_membersOf : Nat} {p3_in : Int32} {p3_all : Int32} {p3_membersOf_r : Nat → Int32} {p3_weight_r : Nat → Int32} {x0 : Int32} {x1 : Int32} {x2 : Int32} {sz : Nat} {out : Int32} (hf : F_X6_ask x0 x1 x2 p3_all p3_in p3_membersOf_r p3_weight_r = some out) : CI l yX6_ask wsX6_ask ({ frames := 1, cells := 0, slots := 0, locals := 23 } : Room) D cI cZ cR [.int x0, .int x1, .int x2, .ref a_p3] (wd_X6_ask cI cZ cR a_p3 a_p3_weight a_p3_membersOf p3_in p3_all p3_membersOf_r p3_weight_r) sz (out) (wd_X6_ask cI cZ cR a_p3 a_p3_weight a_p3_membersOf p3_in p3_all p3_membersOf_r p3_weight_r) := by
  refine met_of (Qf := fun A => qi D cI cZ cR A (out) (wd_X6_ask cI cZ cR a_p3 a_p3_weight a_p3_membersOf p3_in p3_all p3_membersOf_r p3_weight_r)) RX6 (by decide +kernel) rfl rfl (Nat.le_of_ble_eq_true rfl) ?_
  intro p e s m below meth c A X hK hA hP hD hS ls hl
  have hl : lv_has ls 4 [(0, .int x0), (1, .int x1), (2, .int x2), (3, .ref a_p3)] := hl
  obtain ⟨hx, hb, hml, hr, hown, hts, hlocks, hN⟩ := id X
  unfold F_X6_ask at hf
  refine lv_iload_n hx hb dX6_ask_0 rfl (lv_at hl 0 rfl) ?_
  by_cases c1 : x0 = (7 : Int32)
  · have hf := ipos c1 hf
    refine lv_tableIn (tgt := 44) hx hb dX6_ask_1 (by rw [c1]; decide) (by rw [c1]; decide) (by rw [c1]; rfl) (by decide) ?_
    refine lv_iload_n hx hb dX6_ask_44 rfl (lv_at hl 2 rfl) ?_
    obtain ⟨r2, hr3, hf⟩ := bnd hf
    refine wcalli (D := D) (cI := cI) (cZ := cZ) (cR := cR) (wc := (wd_J6_bitCount_0f7a4 cI cZ cR)) (w' := (wd_J6_bitCount_0f7a4 cI cZ cR)) [] hP hD hS hA rfl rfl rfl (rnS (As := [.int x2]) X [] hK hP hD rfl rfl (c_J6_bitCount_0f7a4 l D cI cZ cR hr3) ⟨callB_of 1 hts ggX6_ask_J6_bitCount_0f7a4 rfl rfl rfl (hts (.initialized RJ6) (by decide +kernel)) (hts (.methodLink RX6 57 yJ6_bitCount_0f7a4) (by decide +kernel)) (by decide +kernel) ⟨Nat.le_of_ble_eq_true rfl, Nat.le_of_ble_eq_true rfl⟩, hts (.static yJ6_bitCount_0f7a4) (by decide +kernel)⟩ rfl hl.1 rfl (Nat.le_of_ble_eq_true rfl) dX6_ask_45) (fun H locs hP hD hS => ?_)
    have hP : va_P D vwCl (wd_X6_ask cI cZ cR a_p3 a_p3_weight a_p3_membersOf p3_in p3_all p3_membersOf_r p3_weight_r) H := hP
    have hD : va_D A (wd_X6_ask cI cZ cR a_p3 a_p3_weight a_p3_membersOf p3_in p3_all p3_membersOf_r p3_weight_r) := hD
    cases hf
    exact reti X hK hP hD hS dX6_ask_48
  have hf := ineg c1 hf
  by_cases c4 : x0 = (8 : Int32)
  · have hf := ipos c4 hf
    refine lv_tableIn (tgt := 49) hx hb dX6_ask_1 (by rw [c4]; decide) (by rw [c4]; decide) (by rw [c4]; rfl) (by decide) ?_
    refine lv_aload_n hx hb dX6_ask_49 rfl (lv_at hl 3 rfl) ?_
    refine lv_iload_n hx hb dX6_ask_50 rfl (lv_at hl 2 rfl) ?_
    obtain ⟨r5, hr6, hf⟩ := bnd hf
    refine wcalli (D := D) (cI := cI) (cZ := cZ) (cR := cR) (wc := (wd_X7_weightOf cI cZ cR a_p3 a_p3_weight a_p3_membersOf p3_in p3_all p3_weight_r)) (w' := (wd_X7_weightOf cI cZ cR a_p3 a_p3_weight a_p3_membersOf p3_in p3_all p3_weight_r)) [0, 2] hP hD hS hA rfl rfl rfl (rnV (As := [.int x2]) (ci := 7) (q0 := 0) X [0, 2] hK hP hD rfl rfl rfl rfl (c_X7_weightOf l D cI cZ cR hr6) (cwV 1 hts gX6_ask_X7_weightOf rfl rfl rfl (by decide +kernel) ⟨Nat.le_of_ble_eq_true rfl, Nat.le_of_ble_eq_true rfl⟩) rfl hl.1 rfl (Nat.le_of_ble_eq_true rfl) dX6_ask_51) (fun H locs hP hD hS => ?_)
    have hP : va_P D vwCl (wd_X6_ask cI cZ cR a_p3 a_p3_weight a_p3_membersOf p3_in p3_all p3_membersOf_r p3_weight_r) H := hP
    have hD : va_D A (wd_X6_ask cI cZ cR a_p3 a_p3_weight a_p3_membersOf p3_in p3_all p3_membersOf_r p3_weight_r) := hD
    cases hf
    exact reti X hK hP hD hS dX6_ask_54
  have hf := ineg c4 hf
  by_cases c7 : x0 = (9 : Int32)
  · have hf := ipos c7 hf
    refine lv_tableIn (tgt := 55) hx hb dX6_ask_1 (by rw [c7]; decide) (by rw [c7]; decide) (by rw [c7]; rfl) (by decide) ?_
    refine lv_aload_n hx hb dX6_ask_55 rfl (lv_at hl 3 rfl) ?_
    refine va_getN (D := D) (ci := 7) (v := .int p3_in) (C := RX7) (T := TX7) (N := 4) hx hb hts in_X6_ask_X7 hown hK hP 0 rfl rfl 2 (by decide) (va_Nw.use rfl (hN.1 ("DivisionHall$Rule", 68, "DivisionHall$Seats", "in", "I", "DivisionHall") (by decide +kernel))) (fun _ h9 => h9) rfl dX6_ask_56 ?_
    obtain ⟨r8, hr9, hf⟩ := bnd hf
    refine wcalli (D := D) (cI := cI) (cZ := cZ) (cR := cR) (wc := (wd_J6_bitCount_0f7a4 cI cZ cR)) (w' := (wd_J6_bitCount_0f7a4 cI cZ cR)) [] hP hD hS hA rfl rfl rfl (rnS (As := [.int p3_in]) X [] hK hP hD rfl rfl (c_J6_bitCount_0f7a4 l D cI cZ cR hr9) ⟨callB_of 1 hts ggX6_ask_J6_bitCount_0f7a4 rfl rfl rfl (hts (.initialized RJ6) (by decide +kernel)) (hts (.methodLink RX6 57 yJ6_bitCount_0f7a4) (by decide +kernel)) (by decide +kernel) ⟨Nat.le_of_ble_eq_true rfl, Nat.le_of_ble_eq_true rfl⟩, hts (.static yJ6_bitCount_0f7a4) (by decide +kernel)⟩ rfl hl.1 rfl (Nat.le_of_ble_eq_true rfl) dX6_ask_59) (fun H locs hP hD hS => ?_)
    have hP : va_P D vwCl (wd_X6_ask cI cZ cR a_p3 a_p3_weight a_p3_membersOf p3_in p3_all p3_membersOf_r p3_weight_r) H := hP
    have hD : va_D A (wd_X6_ask cI cZ cR a_p3 a_p3_weight a_p3_membersOf p3_in p3_all p3_membersOf_r p3_weight_r) := hD
    cases hf
    exact reti X hK hP hD hS dX6_ask_62
  have hf := ineg c7 hf
  by_cases c10 : x0 = (10 : Int32)
  · have hf := ipos c10 hf
    refine lv_tableIn (tgt := 63) hx hb dX6_ask_1 (by rw [c10]; decide) (by rw [c10]; decide) (by rw [c10]; rfl) (by decide) ?_
    refine lv_aload_n hx hb dX6_ask_63 rfl (lv_at hl 3 rfl) ?_
    refine va_getN (D := D) (ci := 7) (v := .int p3_all) (C := RX7) (T := TX7) (N := 4) hx hb hts in_X6_ask_X7 hown hK hP 0 rfl rfl 3 (by decide) (va_Nw.use rfl (hN.1 ("DivisionHall$Rule", 71, "DivisionHall$Seats", "all", "I", "DivisionHall") (by decide +kernel))) (fun _ h9 => h9) rfl dX6_ask_64 ?_
    cases hf
    exact reti X hK hP hD hS dX6_ask_67
  have hf := ineg c10 hf
  by_cases c11 : x0 = (11 : Int32)
  · have hf := ipos c11 hf
    refine lv_tableIn (tgt := 68) hx hb dX6_ask_1 (by rw [c11]; decide) (by rw [c11]; decide) (by rw [c11]; rfl) (by decide) ?_
    refine lv_iload_n hx hb dX6_ask_68 rfl (lv_at hl 2 rfl) ?_
    refine lv_iload_n hx hb dX6_ask_69 rfl (lv_at hl 1 rfl) ?_
    refine lv_ishr hx hb dX6_ask_70 ?_
    refine lv_iconst (v := (1 : Int32)) hx hb dX6_ask_71 (by decide) ?_
    refine lv_iand hx hb dX6_ask_72 ?_
    cases hf
    exact reti X hK hP hD hS dX6_ask_73
  have hf := ineg c11 hf
  by_cases c12 : x0 = (12 : Int32)
  · have hf := ipos c12 hf
    refine lv_tableIn (tgt := 74) hx hb dX6_ask_1 (by rw [c12]; decide) (by rw [c12]; decide) (by rw [c12]; rfl) (by decide) ?_
    refine lv_iload_n hx hb dX6_ask_74 rfl (lv_at hl 2 rfl) ?_
    refine lv_aload_n hx hb dX6_ask_75 rfl (lv_at hl 3 rfl) ?_
    refine lv_iload_n hx hb dX6_ask_76 rfl (lv_at hl 1 rfl) ?_
    obtain ⟨r13, hr14, hf⟩ := bnd hf
    refine wcalli (D := D) (cI := cI) (cZ := cZ) (cR := cR) (wc := (wd_X7_ofBloc cI cZ cR a_p3 a_p3_weight a_p3_membersOf p3_in p3_all p3_membersOf_r)) (w' := (wd_X7_ofBloc cI cZ cR a_p3 a_p3_weight a_p3_membersOf p3_in p3_all p3_membersOf_r)) [0, 1] hP hD hS hA rfl rfl rfl (rnV (As := [.int x1]) (ci := 7) (q0 := 0) X [0, 1] hK hP hD rfl rfl rfl rfl (c_X7_ofBloc l D cI cZ cR hr14) (cwV 1 hts gX6_ask_X7_ofBloc rfl rfl rfl (by decide +kernel) ⟨Nat.le_of_ble_eq_true rfl, Nat.le_of_ble_eq_true rfl⟩) rfl hl.1 rfl (Nat.le_of_ble_eq_true rfl) dX6_ask_77) (fun H locs hP hD hS => ?_)
    have hP : va_P D vwCl (wd_X6_ask cI cZ cR a_p3 a_p3_weight a_p3_membersOf p3_in p3_all p3_membersOf_r p3_weight_r) H := hP
    have hD : va_D A (wd_X6_ask cI cZ cR a_p3 a_p3_weight a_p3_membersOf p3_in p3_all p3_membersOf_r p3_weight_r) := hD
    refine lv_iand hx hb dX6_ask_80 ?_
    obtain ⟨r15, hr16, hf⟩ := bnd hf
    refine wcalli (D := D) (cI := cI) (cZ := cZ) (cR := cR) (wc := (wd_J6_bitCount_0f7a4 cI cZ cR)) (w' := (wd_J6_bitCount_0f7a4 cI cZ cR)) [] hP hD hS hA rfl rfl rfl (rnS (As := [.int (x2 &&& r13)]) X [] hK hP hD rfl rfl (c_J6_bitCount_0f7a4 l D cI cZ cR hr16) ⟨callB_of 1 hts ggX6_ask_J6_bitCount_0f7a4 rfl rfl rfl (hts (.initialized RJ6) (by decide +kernel)) (hts (.methodLink RX6 57 yJ6_bitCount_0f7a4) (by decide +kernel)) (by decide +kernel) ⟨Nat.le_of_ble_eq_true rfl, Nat.le_of_ble_eq_true rfl⟩, hts (.static yJ6_bitCount_0f7a4) (by decide +kernel)⟩ rfl hl.1 rfl (Nat.le_of_ble_eq_true rfl) dX6_ask_81) (fun H locs hP hD hS => ?_)
    have hP : va_P D vwCl (wd_X6_ask cI cZ cR a_p3 a_p3_weight a_p3_membersOf p3_in p3_all p3_membersOf_r p3_weight_r) H := hP
    have hD : va_D A (wd_X6_ask cI cZ cR a_p3 a_p3_weight a_p3_membersOf p3_in p3_all p3_membersOf_r p3_weight_r) := hD
    cases hf
    exact reti X hK hP hD hS dX6_ask_84
  have hf := ineg c12 hf
  by_cases c17 : x0 = (13 : Int32)
  · have hf := ipos c17 hf
    refine lv_tableIn (tgt := 85) hx hb dX6_ask_1 (by rw [c17]; decide) (by rw [c17]; decide) (by rw [c17]; rfl) (by decide) ?_
    refine lv_aload_n hx hb dX6_ask_85 rfl (lv_at hl 3 rfl) ?_
    refine lv_iload_n hx hb dX6_ask_86 rfl (lv_at hl 2 rfl) ?_
    refine lv_aload_n hx hb dX6_ask_87 rfl (lv_at hl 3 rfl) ?_
    refine lv_iload_n hx hb dX6_ask_88 rfl (lv_at hl 1 rfl) ?_
    obtain ⟨r18, hr19, hf⟩ := bnd hf
    refine wcalli (D := D) (cI := cI) (cZ := cZ) (cR := cR) (wc := (wd_X7_ofBloc cI cZ cR a_p3 a_p3_weight a_p3_membersOf p3_in p3_all p3_membersOf_r)) (w' := (wd_X7_ofBloc cI cZ cR a_p3 a_p3_weight a_p3_membersOf p3_in p3_all p3_membersOf_r)) [0, 1] hP hD hS hA rfl rfl rfl (rnV (As := [.int x1]) (ci := 7) (q0 := 0) X [0, 1] hK hP hD rfl rfl rfl rfl (c_X7_ofBloc l D cI cZ cR hr19) (cwV 1 hts gX6_ask_X7_ofBloc rfl rfl rfl (by decide +kernel) ⟨Nat.le_of_ble_eq_true rfl, Nat.le_of_ble_eq_true rfl⟩) rfl hl.1 rfl (Nat.le_of_ble_eq_true rfl) dX6_ask_89) (fun H locs hP hD hS => ?_)
    have hP : va_P D vwCl (wd_X6_ask cI cZ cR a_p3 a_p3_weight a_p3_membersOf p3_in p3_all p3_membersOf_r p3_weight_r) H := hP
    have hD : va_D A (wd_X6_ask cI cZ cR a_p3 a_p3_weight a_p3_membersOf p3_in p3_all p3_membersOf_r p3_weight_r) := hD
    refine lv_iand hx hb dX6_ask_92 ?_
    obtain ⟨r20, hr21, hf⟩ := bnd hf
    refine wcalli (D := D) (cI := cI) (cZ := cZ) (cR := cR) (wc := (wd_X7_weightOf cI cZ cR a_p3 a_p3_weight a_p3_membersOf p3_in p3_all p3_weight_r)) (w' := (wd_X7_weightOf cI cZ cR a_p3 a_p3_weight a_p3_membersOf p3_in p3_all p3_weight_r)) [0, 2] hP hD hS hA rfl rfl rfl (rnV (As := [.int (x2 &&& r18)]) (ci := 7) (q0 := 0) X [0, 2] hK hP hD rfl rfl rfl rfl (c_X7_weightOf l D cI cZ cR hr21) (cwV 1 hts gX6_ask_X7_weightOf rfl rfl rfl (by decide +kernel) ⟨Nat.le_of_ble_eq_true rfl, Nat.le_of_ble_eq_true rfl⟩) rfl hl.1 rfl (Nat.le_of_ble_eq_true rfl) dX6_ask_93) (fun H locs hP hD hS => ?_)
    have hP : va_P D vwCl (wd_X6_ask cI cZ cR a_p3 a_p3_weight a_p3_membersOf p3_in p3_all p3_membersOf_r p3_weight_r) H := hP
    have hD : va_D A (wd_X6_ask cI cZ cR a_p3 a_p3_weight a_p3_membersOf p3_in p3_all p3_membersOf_r p3_weight_r) := hD
    cases hf
    exact reti X hK hP hD hS dX6_ask_96
  have hf := ineg c17 hf
  refine lv_tableOut (tgt := 97) hx hb dX6_ask_1 (tout 7 6 (fun k hk => by match k, hk with | 0, _ => exact c1 | 1, _ => exact c4 | 2, _ => exact c7 | 3, _ => exact c10 | 4, _ => exact c11 | 5, _ => exact c12 | 6, _ => exact c17 | (q + 7), hk => exact absurd hk (by omega)) rfl rfl (by decide)) (by decide) ?_
  refine lv_iload_n hx hb dX6_ask_97 rfl (lv_at hl 1 rfl) ?_
  cases hf
  exact reti X hK hP hD hS dX6_ask_98

abbrev wd_X6_join (cI cZ cR : ClassId) : va_W := []
set_option maxHeartbeats 4000000 in
set_option maxRecDepth 100000 in
theorem c_X6_join (l : Launch) (D : va_G) (cI cZ cR : ClassId) {x0 : Int32} {x1 : Int32} {x2 : Int32} {sz : Nat} {out : Int32} (hf : F_X6_join x0 x1 x2 = some out) : CI l yX6_join wsX6_join ({ frames := 0, cells := 0, slots := 0, locals := 0 } : Room) D cI cZ cR [.int x0, .int x1, .int x2] (wd_X6_join cI cZ cR) sz (out) (wd_X6_join cI cZ cR) := by
  refine met_of (Qf := fun A => qi D cI cZ cR A (out) (wd_X6_join cI cZ cR)) RX6 (by decide +kernel) rfl rfl (Nat.le_of_ble_eq_true rfl) ?_
  intro p e s m below meth c A X hK hA hP hD hS ls hl
  have hl : lv_has ls 3 [(0, .int x0), (1, .int x1), (2, .int x2)] := hl
  obtain ⟨hx, hb, hml, hr, hown, hts, hlocks, hN⟩ := id X
  unfold F_X6_join at hf
  refine lv_iload_n hx hb dX6_join_0 rfl (lv_at hl 0 rfl) ?_
  by_cases c1 : x0 = (15 : Int32)
  · have hf := ipos c1 hf
    refine lv_tableIn (tgt := 44) hx hb dX6_join_1 (by rw [c1]; decide) (by rw [c1]; decide) (by rw [c1]; rfl) (by decide) ?_
    refine lv_iload_n hx hb dX6_join_44 rfl (lv_at hl 1 rfl) ?_
    refine lv_iload_n hx hb dX6_join_45 rfl (lv_at hl 2 rfl) ?_
    refine lv_iadd hx hb dX6_join_46 ?_
    cases hf
    exact reti X hK hP hD hS dX6_join_47
  have hf := ineg c1 hf
  by_cases c2 : x0 = (16 : Int32)
  · have hf := ipos c2 hf
    refine lv_tableIn (tgt := 48) hx hb dX6_join_1 (by rw [c2]; decide) (by rw [c2]; decide) (by rw [c2]; rfl) (by decide) ?_
    refine lv_iload_n hx hb dX6_join_48 rfl (lv_at hl 1 rfl) ?_
    refine lv_iload_n hx hb dX6_join_49 rfl (lv_at hl 2 rfl) ?_
    refine lv_isub hx hb dX6_join_50 ?_
    cases hf
    exact reti X hK hP hD hS dX6_join_51
  have hf := ineg c2 hf
  by_cases c3 : x0 = (17 : Int32)
  · have hf := ipos c3 hf
    refine lv_tableIn (tgt := 52) hx hb dX6_join_1 (by rw [c3]; decide) (by rw [c3]; decide) (by rw [c3]; rfl) (by decide) ?_
    refine lv_iload_n hx hb dX6_join_52 rfl (lv_at hl 1 rfl) ?_
    refine lv_iload_n hx hb dX6_join_53 rfl (lv_at hl 2 rfl) ?_
    refine lv_imul hx hb dX6_join_54 ?_
    cases hf
    exact reti X hK hP hD hS dX6_join_55
  have hf := ineg c3 hf
  by_cases c4 : x0 = (18 : Int32)
  · have hf := ipos c4 hf
    refine lv_tableIn (tgt := 56) hx hb dX6_join_1 (by rw [c4]; decide) (by rw [c4]; decide) (by rw [c4]; rfl) (by decide) ?_
    refine lv_iload_n hx hb dX6_join_56 rfl (lv_at hl 1 rfl) ?_
    refine lv_iload_n hx hb dX6_join_57 rfl (lv_at hl 2 rfl) ?_
    refine lv_icmp_ge (tgt := 65) hx hb dX6_join_58 (by decide) (fun c5 => ?_) (fun c5 => ?_)
    · have hf := ipos c5 hf
      refine lv_iconst (v := (0 : Int32)) hx hb dX6_join_65 (by decide) ?_
      cases hf
      exact reti X hK hP hD hS dX6_join_66
    · have hf := ineg c5 hf
      refine lv_iconst (v := (1 : Int32)) hx hb dX6_join_61 (by decide) ?_
      refine lv_goto (tgt := 66) hx hb dX6_join_62 (by decide) ?_
      cases hf
      exact reti X hK hP hD hS dX6_join_66
  have hf := ineg c4 hf
  by_cases c6 : x0 = (19 : Int32)
  · have hf := ipos c6 hf
    refine lv_tableIn (tgt := 67) hx hb dX6_join_1 (by rw [c6]; decide) (by rw [c6]; decide) (by rw [c6]; rfl) (by decide) ?_
    refine lv_iload_n hx hb dX6_join_67 rfl (lv_at hl 1 rfl) ?_
    refine lv_iload_n hx hb dX6_join_68 rfl (lv_at hl 2 rfl) ?_
    refine lv_icmp_ne (tgt := 76) hx hb dX6_join_69 (by decide) (fun c7 => ?_) (fun c7 => ?_)
    · have hf := ineg c7 hf
      refine lv_iconst (v := (0 : Int32)) hx hb dX6_join_76 (by decide) ?_
      cases hf
      exact reti X hK hP hD hS dX6_join_77
    · have hf := ipos c7 hf
      refine lv_iconst (v := (1 : Int32)) hx hb dX6_join_72 (by decide) ?_
      refine lv_goto (tgt := 77) hx hb dX6_join_73 (by decide) ?_
      cases hf
      exact reti X hK hP hD hS dX6_join_77
  have hf := ineg c6 hf
  by_cases c8 : x0 = (20 : Int32)
  · have hf := ipos c8 hf
    refine lv_tableIn (tgt := 78) hx hb dX6_join_1 (by rw [c8]; decide) (by rw [c8]; decide) (by rw [c8]; rfl) (by decide) ?_
    refine lv_iload_n hx hb dX6_join_78 rfl (lv_at hl 1 rfl) ?_
    refine lv_iload_n hx hb dX6_join_79 rfl (lv_at hl 2 rfl) ?_
    refine lv_icmp_le (tgt := 87) hx hb dX6_join_80 (by decide) (fun c9 => ?_) (fun c9 => ?_)
    · have hf := ipos c9 hf
      refine lv_iconst (v := (0 : Int32)) hx hb dX6_join_87 (by decide) ?_
      cases hf
      exact reti X hK hP hD hS dX6_join_88
    · have hf := ineg c9 hf
      refine lv_iconst (v := (1 : Int32)) hx hb dX6_join_83 (by decide) ?_
      refine lv_goto (tgt := 88) hx hb dX6_join_84 (by decide) ?_
      cases hf
      exact reti X hK hP hD hS dX6_join_88
  have hf := ineg c8 hf
  by_cases c10 : x0 = (21 : Int32)
  · have hf := ipos c10 hf
    refine lv_tableIn (tgt := 89) hx hb dX6_join_1 (by rw [c10]; decide) (by rw [c10]; decide) (by rw [c10]; rfl) (by decide) ?_
    refine lv_iload_n hx hb dX6_join_89 rfl (lv_at hl 1 rfl) ?_
    refine lv_iload_n hx hb dX6_join_90 rfl (lv_at hl 2 rfl) ?_
    refine lv_iand hx hb dX6_join_91 ?_
    cases hf
    exact reti X hK hP hD hS dX6_join_92
  have hf := ineg c10 hf
  refine lv_tableOut (tgt := 93) hx hb dX6_join_1 (tout 15 6 (fun k hk => by match k, hk with | 0, _ => exact c1 | 1, _ => exact c2 | 2, _ => exact c3 | 3, _ => exact c4 | 4, _ => exact c6 | 5, _ => exact c8 | 6, _ => exact c10 | (q + 7), hk => exact absurd hk (by omega)) rfl rfl (by decide)) (by decide) ?_
  refine lv_iload_n hx hb dX6_join_93 rfl (lv_at hl 1 rfl) ?_
  refine lv_iload_n hx hb dX6_join_94 rfl (lv_at hl 2 rfl) ?_
  refine lv_ior hx hb dX6_join_95 ?_
  cases hf
  exact reti X hK hP hD hS dX6_join_96

abbrev wd_X6_holds (cI cZ cR : ClassId) (a_p2 a_p2_weight a_p2_membersOf a_t a_t_code a_t_stack a_t_table : Nat) (p2_in p2_all t_codes : Int32) (p2_membersOf_r : Nat → Int32) (p2_weight_r : Nat → Int32) (t_code_r : Nat → Int32) (t_stack_r : Nat → Int32) : va_W := [(a_p2, oB 7 [.ref a_p2_weight, .ref a_p2_membersOf, .int p2_in, .int p2_all]), (a_t, oB 6 [.ref a_t_code, .ref a_t_stack, .ref a_t_table, .int t_codes]), (a_p2_membersOf, aI cI 6 p2_membersOf_r), (a_p2_weight, aI cI 10 p2_weight_r), (a_t_code, aI cI 400 t_code_r), (a_t_stack, aI cI 40 t_stack_r)]
set_option maxRecDepth 100000 in
theorem in_X6_holds_X6 : ∀ w ∈ wsX60, w ∈ wsX6_holds := by decide +kernel
set_option maxHeartbeats 4000000 in
set_option maxRecDepth 100000 in
theorem w_X6_holds_182 {p : Program} {l : Launch} {e : Env} {s : State} {m : MethodId} {args : Array Value} {below : List Frame} {meth : Method} {c : Code} {D : va_G} {cI cZ cR : ClassId} {A : Nat → Prop} {a_p2 a_p2_weight a_p2_membersOf a_t a_t_code a_t_stack a_t_table : Nat} {p2_in : Int32} {p2_all : Int32} {t_codes : Int32} {p2_membersOf_r : Nat → Int32} {p2_weight_r : Nat → Int32} {t_code_r : Nat → Int32} {out : Int32 × (Nat → Int32)} (X : cx p s m args meth c cX6_holds 6 (some .boolean) RX6 wsX6_holds) (hK : va_K D vwCl (ty3 cI cZ cR) s) (hA : ∀ q, s.heap.size ≤ q → A q) : ∀ (x3 : Int32) (t_stack_r : Nat → Int32), F_X6_holds_182 p2_all p2_in p2_membersOf_r p2_weight_r t_codes t_code_r x3 t_stack_r = some out → ∀ (H : Heap) (locs : List Loc), va_P D vwCl (wd_X6_holds cI cZ cR a_p2 a_p2_weight a_p2_membersOf a_t a_t_code a_t_stack a_t_table p2_in p2_all t_codes p2_membersOf_r p2_weight_r t_code_r t_stack_r) H → va_D A (wd_X6_holds cI cZ cR a_p2 a_p2_weight a_p2_membersOf a_t a_t_code a_t_stack a_t_table p2_in p2_all t_codes p2_membersOf_r p2_weight_r t_code_r t_stack_r) → va_S A s.heap H locs → ∀ (ls : Array Slot), lv_has ls 6 [(0, .ref a_t), (3, .int x3)] → W p l e (headSpec wsX6_holds ({ frames := 2, cells := 0, slots := 0, locals := 46 } : Room)).room s m args below meth c H locs 0 0 (MQ below (qi D cI cZ cR A (out.1) (wd_X6_holds cI cZ cR a_p2 a_p2_weight a_p2_membersOf a_t a_t_code a_t_stack a_t_table p2_in p2_all t_codes p2_membersOf_r p2_weight_r t_code_r (out.2))) args s 0 0 A) (F0 m 182 ls []) := by
  obtain ⟨hx, hb, hml, hr, hown, hts, hlocks, hN⟩ := id X
  intro x3 t_stack_r hf H locs hP hD hS ls hl
  unfold F_X6_holds_182 at hf
  refine lv_iload_n hx hb dX6_holds_182 rfl (lv_at hl 1 rfl) ?_
  refine lv_if_le (tgt := 199) hx hb dX6_holds_183 (by decide) (fun c27 => ?_) (fun c27 => ?_)
  · have hf := ipos c27 hf
    refine lv_iconst (v := (0 : Int32)) hx hb dX6_holds_199 (by decide) ?_
    cases hf
    exact retz (Or.inl rfl) X hK hP hD hS dX6_holds_200
  · have hf := ineg c27 hf
    refine lv_aload_n hx hb dX6_holds_186 rfl (lv_at hl 0 rfl) ?_
    refine va_get (D := D) (ci := 6) (v := .ref a_t_stack) (C := RX6) (T := TX6) (N := 4) hx hb hts in_X6_holds_X6 hown hK hP 1 rfl rfl 1 (by decide) (hts (.fieldLink RX6 17 "DivisionHall$Rule" "stack" "[I") (by decide +kernel)) (fun _ h9 => h9) rfl dX6_holds_187 ?_
    refine lv_iconst (v := (0 : Int32)) hx hb dX6_holds_190 (by decide) ?_
    obtain ⟨hi28, hf⟩ := gin_s hf
    refine va_iald hx hb hK hP 5 0 rfl rfl hi28 dX6_holds_191 ?_
    refine lv_if_eq (tgt := 199) hx hb dX6_holds_192 (by decide) (fun c29 => ?_) (fun c29 => ?_)
    · have hf := ipos c29 hf
      refine lv_iconst (v := (0 : Int32)) hx hb dX6_holds_199 (by decide) ?_
      cases hf
      exact retz (Or.inl rfl) X hK hP hD hS dX6_holds_200
    · have hf := ineg c29 hf
      refine lv_iconst (v := (1 : Int32)) hx hb dX6_holds_195 (by decide) ?_
      refine lv_goto (tgt := 200) hx hb dX6_holds_196 (by decide) ?_
      cases hf
      exact retz (Or.inr rfl) X hK hP hD hS dX6_holds_200
set_option maxHeartbeats 4000000 in
set_option maxRecDepth 100000 in
theorem w_X6_holds_5 {p : Program} {l : Launch} {e : Env} {s : State} {m : MethodId} {args : Array Value} {below : List Frame} {meth : Method} {c : Code} {D : va_G} {cI cZ cR : ClassId} {A : Nat → Prop} {a_p2 a_p2_weight a_p2_membersOf a_t a_t_code a_t_stack a_t_table : Nat} {p2_in : Int32} {p2_all : Int32} {t_codes : Int32} {p2_membersOf_r : Nat → Int32} {p2_weight_r : Nat → Int32} {t_code_r : Nat → Int32} {x1 : Int32} {out : Int32 × (Nat → Int32)} (X : cx p s m args meth c cX6_holds 6 (some .boolean) RX6 wsX6_holds) (hK : va_K D vwCl (ty3 cI cZ cR) s) (hA : ∀ q, s.heap.size ≤ q → A q) : ∀ (n : Nat) (x3 : Int32) (x4 : Int32) (t_stack_r : Nat → Int32), F_X6_holds_5 x1 p2_all p2_in p2_membersOf_r p2_weight_r t_codes t_code_r n x3 x4 t_stack_r = some out → ∀ (H : Heap) (locs : List Loc), va_P D vwCl (wd_X6_holds cI cZ cR a_p2 a_p2_weight a_p2_membersOf a_t a_t_code a_t_stack a_t_table p2_in p2_all t_codes p2_membersOf_r p2_weight_r t_code_r t_stack_r) H → va_D A (wd_X6_holds cI cZ cR a_p2 a_p2_weight a_p2_membersOf a_t a_t_code a_t_stack a_t_table p2_in p2_all t_codes p2_membersOf_r p2_weight_r t_code_r t_stack_r) → va_S A s.heap H locs → ∀ (ls : Array Slot), lv_has ls 6 [(0, .ref a_t), (1, .int x1), (2, .ref a_p2), (3, .int x3), (4, .int x4)] → W p l e (headSpec wsX6_holds ({ frames := 2, cells := 0, slots := 0, locals := 46 } : Room)).room s m args below meth c H locs 0 0 (MQ below (qi D cI cZ cR A (out.1) (wd_X6_holds cI cZ cR a_p2 a_p2_weight a_p2_membersOf a_t a_t_code a_t_stack a_t_table p2_in p2_all t_codes p2_membersOf_r p2_weight_r t_code_r (out.2))) args s 0 0 A) (F0 m 5 ls []) := by
  obtain ⟨hx, hb, hml, hr, hown, hts, hlocks, hN⟩ := id X
  intro n
  induction n with
  | zero =>
    intro x3 x4 t_stack_r hf
    cases (show (none : Option (Int32 × (Nat → Int32))) = some out from hf)
  | succ n ih =>
    intro x3 x4 t_stack_r hf H locs hP hD hS ls hl
    rw [F_X6_holds_5] at hf
    refine lv_iload hx hb dX6_holds_5 (lv_at hl 4 rfl) ?_
    refine lv_aload_n hx hb dX6_holds_7 rfl (lv_at hl 0 rfl) ?_
    refine va_get (D := D) (ci := 6) (v := .int t_codes) (C := RX6) (T := TX6) (N := 4) hx hb hts in_X6_holds_X6 hown hK hP 1 rfl rfl 3 (by decide) (hts (.fieldLink RX6 31 "DivisionHall$Rule" "codes" "I") (by decide +kernel)) (fun _ h9 => h9) rfl dX6_holds_8 ?_
    refine lv_icmp_ge (tgt := 182) hx hb dX6_holds_11 (by decide) (fun c1 => ?_) (fun c1 => ?_)
    · have hf := ipos c1 hf
      exact w_X6_holds_182 X hK hA x3 t_stack_r hf _ _ hP hD hS _ (lv_sub hl [0, 3] rfl)
    · have hf := ineg c1 hf
      refine lv_iload hx hb dX6_holds_14 (lv_at hl 4 rfl) ?_
      refine lv_sipush (v := (400 : Int32)) hx hb dX6_holds_16 (by decide) ?_
      refine lv_icmp_ge (tgt := 182) hx hb dX6_holds_19 (by decide) (fun c2 => ?_) (fun c2 => ?_)
      · have hf := ipos c2 hf
        exact w_X6_holds_182 X hK hA x3 t_stack_r hf _ _ hP hD hS _ (lv_sub hl [0, 3] rfl)
      · have hf := ineg c2 hf
        refine lv_aload_n hx hb dX6_holds_22 rfl (lv_at hl 0 rfl) ?_
        refine va_get (D := D) (ci := 6) (v := .ref a_t_code) (C := RX6) (T := TX6) (N := 4) hx hb hts in_X6_holds_X6 hown hK hP 1 rfl rfl 0 (by decide) (hts (.fieldLink RX6 11 "DivisionHall$Rule" "code" "[I") (by decide +kernel)) (fun _ h9 => h9) rfl dX6_holds_23 ?_
        refine lv_iload hx hb dX6_holds_26 (lv_at hl 4 rfl) ?_
        obtain ⟨hi3, hf⟩ := gin_s hf
        refine va_iald hx hb hK hP 4 0 rfl rfl hi3 dX6_holds_28 ?_
        refine lv_bipush (v := (14 : Int32)) hx hb dX6_holds_29 (by decide) ?_
        refine lv_ishr hx hb dX6_holds_31 ?_
        refine lv_istore (lv' := [(5, .int ((t_code_r (x4).toNatClampNeg) >>> ((14 : Int32) &&& 31))), (0, .ref a_t), (1, .int x1), (2, .ref a_p2), (3, .int x3), (4, .int x4)]) hx hb dX6_holds_32 hl (by decide) rfl (fun ls hl => ?_)
        refine lv_iload hx hb dX6_holds_34 (lv_at hl 0 rfl) ?_
        refine lv_bipush (v := (14 : Int32)) hx hb dX6_holds_36 (by decide) ?_
        refine lv_icmp_ge (tgt := 83) hx hb dX6_holds_38 (by decide) (fun c4 => ?_) (fun c4 => ?_)
        · have hf := ipos c4 hf
          refine lv_iload hx hb dX6_holds_83 (lv_at hl 0 rfl) ?_
          refine lv_bipush (v := (14 : Int32)) hx hb dX6_holds_85 (by decide) ?_
          refine lv_icmp_ne (tgt := 125) hx hb dX6_holds_87 (by decide) (fun c5 => ?_) (fun c5 => ?_)
          · have hf := ineg c5 hf
            refine lv_iload_n hx hb dX6_holds_125 rfl (lv_at hl 4 rfl) ?_
            refine lv_iconst (v := (1 : Int32)) hx hb dX6_holds_126 (by decide) ?_
            refine lv_isub hx hb dX6_holds_127 ?_
            refine lv_aload_n hx hb dX6_holds_128 rfl (lv_at hl 1 rfl) ?_
            refine va_get (D := D) (ci := 6) (v := .ref a_t_stack) (C := RX6) (T := TX6) (N := 4) hx hb hts in_X6_holds_X6 hown hK hP 1 rfl rfl 1 (by decide) (hts (.fieldLink RX6 17 "DivisionHall$Rule" "stack" "[I") (by decide +kernel)) (fun _ h9 => h9) rfl dX6_holds_129 ?_
            refine va_alen (v := (40 : Int32)) hx hb hK hP 5 0 rfl rfl rfl dX6_holds_132 ?_
            obtain ⟨r6, hr7, hf⟩ := bnd hf
            refine wcalli (D := D) (cI := cI) (cZ := cZ) (cR := cR) (wc := (wd_X11_inside cI cZ cR)) (w' := (wd_X11_inside cI cZ cR)) [] hP hD hS hA rfl rfl rfl (rnSN (As := [.int (x3 - (1 : Int32)), .int (40 : Int32)]) X [] hK hP hD rfl rfl (c_X11_inside l D cI cZ cR hr7) ⟨va_cnB (host := "DivisionHall") 2 hts ggX6_holds_X11_inside rfl rfl rfl (hN.2.1 ("DivisionHall$Rule", 45, yX11_inside, "DivisionHall") (by decide +kernel)) (hts (.initialized RX11) (by decide +kernel)) (by decide +kernel) ⟨Nat.le_of_ble_eq_true rfl, Nat.le_of_ble_eq_true rfl⟩, hts (.static yX11_inside) (by decide +kernel), trivial⟩ rfl hl.1 rfl (Nat.le_of_ble_eq_true rfl) dX6_holds_133) (fun H locs hP hD hS => ?_)
            have hP : va_P D vwCl (wd_X6_holds cI cZ cR a_p2 a_p2_weight a_p2_membersOf a_t a_t_code a_t_stack a_t_table p2_in p2_all t_codes p2_membersOf_r p2_weight_r t_code_r t_stack_r) H := hP
            have hD : va_D A (wd_X6_holds cI cZ cR a_p2 a_p2_weight a_p2_membersOf a_t a_t_code a_t_stack a_t_table p2_in p2_all t_codes p2_membersOf_r p2_weight_r t_code_r t_stack_r) := hD
            refine lv_if_eq (tgt := 176) hx hb dX6_holds_136 (by decide) (fun c8 => ?_) (fun c8 => ?_)
            · have hf := ipos c8 hf
              refine lv_iinc (v := (x4 + (1 : Int32))) (lv' := [(4, .int (x4 + (1 : Int32))), (5, .int ((t_code_r (x4).toNatClampNeg) >>> ((14 : Int32) &&& 31))), (0, .ref a_t), (1, .int x1), (2, .ref a_p2), (3, .int x3)]) hx hb dX6_holds_176 hl (k := 5) rfl rfl (by decide) rfl (fun ls hl => ?_)
              refine lv_goto (tgt := 5) hx hb dX6_holds_179 (by decide) ?_
              exact ih x3 (x4 + (1 : Int32)) t_stack_r hf _ _ hP hD hS _ (lv_sub hl [2, 3, 4, 5, 0] rfl)
            · have hf := ineg c8 hf
              refine lv_iload_n hx hb dX6_holds_139 rfl (lv_at hl 4 rfl) ?_
              refine lv_iconst (v := (1 : Int32)) hx hb dX6_holds_140 (by decide) ?_
              refine lv_icmp_le (tgt := 176) hx hb dX6_holds_141 (by decide) (fun c9 => ?_) (fun c9 => ?_)
              · have hf := ipos c9 hf
                refine lv_iinc (v := (x4 + (1 : Int32))) (lv' := [(4, .int (x4 + (1 : Int32))), (5, .int ((t_code_r (x4).toNatClampNeg) >>> ((14 : Int32) &&& 31))), (0, .ref a_t), (1, .int x1), (2, .ref a_p2), (3, .int x3)]) hx hb dX6_holds_176 hl (k := 5) rfl rfl (by decide) rfl (fun ls hl => ?_)
                refine lv_goto (tgt := 5) hx hb dX6_holds_179 (by decide) ?_
                exact ih x3 (x4 + (1 : Int32)) t_stack_r hf _ _ hP hD hS _ (lv_sub hl [2, 3, 4, 5, 0] rfl)
              · have hf := ineg c9 hf
                refine lv_aload_n hx hb dX6_holds_144 rfl (lv_at hl 1 rfl) ?_
                refine va_get (D := D) (ci := 6) (v := .ref a_t_stack) (C := RX6) (T := TX6) (N := 4) hx hb hts in_X6_holds_X6 hown hK hP 1 rfl rfl 1 (by decide) (hts (.fieldLink RX6 17 "DivisionHall$Rule" "stack" "[I") (by decide +kernel)) (fun _ h9 => h9) rfl dX6_holds_145 ?_
                refine lv_iload_n hx hb dX6_holds_148 rfl (lv_at hl 4 rfl) ?_
                refine lv_iconst (v := (2 : Int32)) hx hb dX6_holds_149 (by decide) ?_
                refine lv_isub hx hb dX6_holds_150 ?_
                refine lv_iload hx hb dX6_holds_151 (lv_at hl 0 rfl) ?_
                refine lv_aload_n hx hb dX6_holds_153 rfl (lv_at hl 1 rfl) ?_
                refine va_get (D := D) (ci := 6) (v := .ref a_t_stack) (C := RX6) (T := TX6) (N := 4) hx hb hts in_X6_holds_X6 hown hK hP 1 rfl rfl 1 (by decide) (hts (.fieldLink RX6 17 "DivisionHall$Rule" "stack" "[I") (by decide +kernel)) (fun _ h9 => h9) rfl dX6_holds_154 ?_
                refine lv_iload_n hx hb dX6_holds_157 rfl (lv_at hl 4 rfl) ?_
                refine lv_iconst (v := (2 : Int32)) hx hb dX6_holds_158 (by decide) ?_
                refine lv_isub hx hb dX6_holds_159 ?_
                obtain ⟨hi10, hf⟩ := gin_s hf
                refine va_iald hx hb hK hP 5 0 rfl rfl hi10 dX6_holds_160 ?_
                refine lv_aload_n hx hb dX6_holds_161 rfl (lv_at hl 1 rfl) ?_
                refine va_get (D := D) (ci := 6) (v := .ref a_t_stack) (C := RX6) (T := TX6) (N := 4) hx hb hts in_X6_holds_X6 hown hK hP 1 rfl rfl 1 (by decide) (hts (.fieldLink RX6 17 "DivisionHall$Rule" "stack" "[I") (by decide +kernel)) (fun _ h9 => h9) rfl dX6_holds_162 ?_
                refine lv_iload_n hx hb dX6_holds_165 rfl (lv_at hl 4 rfl) ?_
                refine lv_iconst (v := (1 : Int32)) hx hb dX6_holds_166 (by decide) ?_
                refine lv_isub hx hb dX6_holds_167 ?_
                obtain ⟨hi11, hf⟩ := gin_s hf
                refine va_iald hx hb hK hP 5 0 rfl rfl hi11 dX6_holds_168 ?_
                obtain ⟨r12, hr13, hf⟩ := bnd hf
                refine wcalli (D := D) (cI := cI) (cZ := cZ) (cR := cR) (wc := (wd_X6_join cI cZ cR)) (w' := (wd_X6_join cI cZ cR)) [] hP hD hS hA rfl rfl rfl (rnS (As := [.int ((t_code_r (x4).toNatClampNeg) >>> ((14 : Int32) &&& 31)), .int (t_stack_r ((x3 - (2 : Int32))).toNatClampNeg), .int (t_stack_r ((x3 - (1 : Int32))).toNatClampNeg)]) X [] hK hP hD rfl rfl (c_X6_join l D cI cZ cR hr13) (cwS 3 hts gX6_holds_X6_join rfl rfl rfl (by decide +kernel) ⟨Nat.le_of_ble_eq_true rfl, Nat.le_of_ble_eq_true rfl⟩) rfl hl.1 rfl (Nat.le_of_ble_eq_true rfl) dX6_holds_169) (fun H locs hP hD hS => ?_)
                have hP : va_P D vwCl (wd_X6_holds cI cZ cR a_p2 a_p2_weight a_p2_membersOf a_t a_t_code a_t_stack a_t_table p2_in p2_all t_codes p2_membersOf_r p2_weight_r t_code_r t_stack_r) H := hP
                have hD : va_D A (wd_X6_holds cI cZ cR a_p2 a_p2_weight a_p2_membersOf a_t a_t_code a_t_stack a_t_table p2_in p2_all t_codes p2_membersOf_r p2_weight_r t_code_r t_stack_r) := hD
                obtain ⟨hi14, hf⟩ := gin_s hf
                refine va_iast hx hb hK hP hD hS 5 0 rfl rfl hi14 dX6_holds_172 (fun H locs hP hD hS => ?_)
                have hP : va_P D vwCl (wd_X6_holds cI cZ cR a_p2 a_p2_weight a_p2_membersOf a_t a_t_code a_t_stack a_t_table p2_in p2_all t_codes p2_membersOf_r p2_weight_r t_code_r (upd t_stack_r ((x3 - (2 : Int32))).toNatClampNeg r12)) H := hP
                have hD : va_D A (wd_X6_holds cI cZ cR a_p2 a_p2_weight a_p2_membersOf a_t a_t_code a_t_stack a_t_table p2_in p2_all t_codes p2_membersOf_r p2_weight_r t_code_r (upd t_stack_r ((x3 - (2 : Int32))).toNatClampNeg r12)) := hD
                refine lv_iinc (v := (x3 + (-1 : Int32))) (lv' := [(3, .int (x3 + (-1 : Int32))), (5, .int ((t_code_r (x4).toNatClampNeg) >>> ((14 : Int32) &&& 31))), (0, .ref a_t), (1, .int x1), (2, .ref a_p2), (4, .int x4)]) hx hb dX6_holds_173 hl (k := 4) rfl rfl (by decide) rfl (fun ls hl => ?_)
                refine lv_iinc (v := (x4 + (1 : Int32))) (lv' := [(4, .int (x4 + (1 : Int32))), (3, .int (x3 + (-1 : Int32))), (5, .int ((t_code_r (x4).toNatClampNeg) >>> ((14 : Int32) &&& 31))), (0, .ref a_t), (1, .int x1), (2, .ref a_p2)]) hx hb dX6_holds_176 hl (k := 5) rfl rfl (by decide) rfl (fun ls hl => ?_)
                refine lv_goto (tgt := 5) hx hb dX6_holds_179 (by decide) ?_
                exact ih (x3 + (-1 : Int32)) (x4 + (1 : Int32)) (upd t_stack_r ((x3 - (2 : Int32))).toNatClampNeg r12) hf _ _ hP hD hS _ (lv_sub hl [3, 4, 5, 1, 0] rfl)
          · have hf := ipos c5 hf
            refine lv_iload_n hx hb dX6_holds_90 rfl (lv_at hl 4 rfl) ?_
            refine lv_iconst (v := (1 : Int32)) hx hb dX6_holds_91 (by decide) ?_
            refine lv_isub hx hb dX6_holds_92 ?_
            refine lv_aload_n hx hb dX6_holds_93 rfl (lv_at hl 1 rfl) ?_
            refine va_get (D := D) (ci := 6) (v := .ref a_t_stack) (C := RX6) (T := TX6) (N := 4) hx hb hts in_X6_holds_X6 hown hK hP 1 rfl rfl 1 (by decide) (hts (.fieldLink RX6 17 "DivisionHall$Rule" "stack" "[I") (by decide +kernel)) (fun _ h9 => h9) rfl dX6_holds_94 ?_
            refine va_alen (v := (40 : Int32)) hx hb hK hP 5 0 rfl rfl rfl dX6_holds_97 ?_
            obtain ⟨r15, hr16, hf⟩ := bnd hf
            refine wcalli (D := D) (cI := cI) (cZ := cZ) (cR := cR) (wc := (wd_X11_inside cI cZ cR)) (w' := (wd_X11_inside cI cZ cR)) [] hP hD hS hA rfl rfl rfl (rnSN (As := [.int (x3 - (1 : Int32)), .int (40 : Int32)]) X [] hK hP hD rfl rfl (c_X11_inside l D cI cZ cR hr16) ⟨va_cnB (host := "DivisionHall") 2 hts ggX6_holds_X11_inside rfl rfl rfl (hN.2.1 ("DivisionHall$Rule", 45, yX11_inside, "DivisionHall") (by decide +kernel)) (hts (.initialized RX11) (by decide +kernel)) (by decide +kernel) ⟨Nat.le_of_ble_eq_true rfl, Nat.le_of_ble_eq_true rfl⟩, hts (.static yX11_inside) (by decide +kernel), trivial⟩ rfl hl.1 rfl (Nat.le_of_ble_eq_true rfl) dX6_holds_98) (fun H locs hP hD hS => ?_)
            have hP : va_P D vwCl (wd_X6_holds cI cZ cR a_p2 a_p2_weight a_p2_membersOf a_t a_t_code a_t_stack a_t_table p2_in p2_all t_codes p2_membersOf_r p2_weight_r t_code_r t_stack_r) H := hP
            have hD : va_D A (wd_X6_holds cI cZ cR a_p2 a_p2_weight a_p2_membersOf a_t a_t_code a_t_stack a_t_table p2_in p2_all t_codes p2_membersOf_r p2_weight_r t_code_r t_stack_r) := hD
            refine lv_if_eq (tgt := 176) hx hb dX6_holds_101 (by decide) (fun c17 => ?_) (fun c17 => ?_)
            · have hf := ipos c17 hf
              refine lv_iinc (v := (x4 + (1 : Int32))) (lv' := [(4, .int (x4 + (1 : Int32))), (5, .int ((t_code_r (x4).toNatClampNeg) >>> ((14 : Int32) &&& 31))), (0, .ref a_t), (1, .int x1), (2, .ref a_p2), (3, .int x3)]) hx hb dX6_holds_176 hl (k := 5) rfl rfl (by decide) rfl (fun ls hl => ?_)
              refine lv_goto (tgt := 5) hx hb dX6_holds_179 (by decide) ?_
              exact ih x3 (x4 + (1 : Int32)) t_stack_r hf _ _ hP hD hS _ (lv_sub hl [2, 3, 4, 5, 0] rfl)
            · have hf := ineg c17 hf
              refine lv_aload_n hx hb dX6_holds_104 rfl (lv_at hl 1 rfl) ?_
              refine va_get (D := D) (ci := 6) (v := .ref a_t_stack) (C := RX6) (T := TX6) (N := 4) hx hb hts in_X6_holds_X6 hown hK hP 1 rfl rfl 1 (by decide) (hts (.fieldLink RX6 17 "DivisionHall$Rule" "stack" "[I") (by decide +kernel)) (fun _ h9 => h9) rfl dX6_holds_105 ?_
              refine lv_iload_n hx hb dX6_holds_108 rfl (lv_at hl 4 rfl) ?_
              refine lv_iconst (v := (1 : Int32)) hx hb dX6_holds_109 (by decide) ?_
              refine lv_isub hx hb dX6_holds_110 ?_
              refine lv_iconst (v := (1 : Int32)) hx hb dX6_holds_111 (by decide) ?_
              refine lv_aload_n hx hb dX6_holds_112 rfl (lv_at hl 1 rfl) ?_
              refine va_get (D := D) (ci := 6) (v := .ref a_t_stack) (C := RX6) (T := TX6) (N := 4) hx hb hts in_X6_holds_X6 hown hK hP 1 rfl rfl 1 (by decide) (hts (.fieldLink RX6 17 "DivisionHall$Rule" "stack" "[I") (by decide +kernel)) (fun _ h9 => h9) rfl dX6_holds_113 ?_
              refine lv_iload_n hx hb dX6_holds_116 rfl (lv_at hl 4 rfl) ?_
              refine lv_iconst (v := (1 : Int32)) hx hb dX6_holds_117 (by decide) ?_
              refine lv_isub hx hb dX6_holds_118 ?_
              obtain ⟨hi18, hf⟩ := gin_s hf
              refine va_iald hx hb hK hP 5 0 rfl rfl hi18 dX6_holds_119 ?_
              refine lv_isub hx hb dX6_holds_120 ?_
              obtain ⟨hi19, hf⟩ := gin_s hf
              refine va_iast hx hb hK hP hD hS 5 0 rfl rfl hi19 dX6_holds_121 (fun H locs hP hD hS => ?_)
              have hP : va_P D vwCl (wd_X6_holds cI cZ cR a_p2 a_p2_weight a_p2_membersOf a_t a_t_code a_t_stack a_t_table p2_in p2_all t_codes p2_membersOf_r p2_weight_r t_code_r (upd t_stack_r ((x3 - (1 : Int32))).toNatClampNeg ((1 : Int32) - (t_stack_r ((x3 - (1 : Int32))).toNatClampNeg)))) H := hP
              have hD : va_D A (wd_X6_holds cI cZ cR a_p2 a_p2_weight a_p2_membersOf a_t a_t_code a_t_stack a_t_table p2_in p2_all t_codes p2_membersOf_r p2_weight_r t_code_r (upd t_stack_r ((x3 - (1 : Int32))).toNatClampNeg ((1 : Int32) - (t_stack_r ((x3 - (1 : Int32))).toNatClampNeg)))) := hD
              refine lv_goto (tgt := 176) hx hb dX6_holds_122 (by decide) ?_
              refine lv_iinc (v := (x4 + (1 : Int32))) (lv' := [(4, .int (x4 + (1 : Int32))), (5, .int ((t_code_r (x4).toNatClampNeg) >>> ((14 : Int32) &&& 31))), (0, .ref a_t), (1, .int x1), (2, .ref a_p2), (3, .int x3)]) hx hb dX6_holds_176 hl (k := 5) rfl rfl (by decide) rfl (fun ls hl => ?_)
              refine lv_goto (tgt := 5) hx hb dX6_holds_179 (by decide) ?_
              exact ih x3 (x4 + (1 : Int32)) (upd t_stack_r ((x3 - (1 : Int32))).toNatClampNeg ((1 : Int32) - (t_stack_r ((x3 - (1 : Int32))).toNatClampNeg))) hf _ _ hP hD hS _ (lv_sub hl [2, 3, 4, 5, 0] rfl)
        · have hf := ineg c4 hf
          refine lv_iload_n hx hb dX6_holds_41 rfl (lv_at hl 4 rfl) ?_
          refine lv_aload_n hx hb dX6_holds_42 rfl (lv_at hl 1 rfl) ?_
          refine va_get (D := D) (ci := 6) (v := .ref a_t_stack) (C := RX6) (T := TX6) (N := 4) hx hb hts in_X6_holds_X6 hown hK hP 1 rfl rfl 1 (by decide) (hts (.fieldLink RX6 17 "DivisionHall$Rule" "stack" "[I") (by decide +kernel)) (fun _ h9 => h9) rfl dX6_holds_43 ?_
          refine va_alen (v := (40 : Int32)) hx hb hK hP 5 0 rfl rfl rfl dX6_holds_46 ?_
          obtain ⟨r20, hr21, hf⟩ := bnd hf
          refine wcalli (D := D) (cI := cI) (cZ := cZ) (cR := cR) (wc := (wd_X11_inside cI cZ cR)) (w' := (wd_X11_inside cI cZ cR)) [] hP hD hS hA rfl rfl rfl (rnSN (As := [.int x3, .int (40 : Int32)]) X [] hK hP hD rfl rfl (c_X11_inside l D cI cZ cR hr21) ⟨va_cnB (host := "DivisionHall") 2 hts ggX6_holds_X11_inside rfl rfl rfl (hN.2.1 ("DivisionHall$Rule", 45, yX11_inside, "DivisionHall") (by decide +kernel)) (hts (.initialized RX11) (by decide +kernel)) (by decide +kernel) ⟨Nat.le_of_ble_eq_true rfl, Nat.le_of_ble_eq_true rfl⟩, hts (.static yX11_inside) (by decide +kernel), trivial⟩ rfl hl.1 rfl (Nat.le_of_ble_eq_true rfl) dX6_holds_47) (fun H locs hP hD hS => ?_)
          have hP : va_P D vwCl (wd_X6_holds cI cZ cR a_p2 a_p2_weight a_p2_membersOf a_t a_t_code a_t_stack a_t_table p2_in p2_all t_codes p2_membersOf_r p2_weight_r t_code_r t_stack_r) H := hP
          have hD : va_D A (wd_X6_holds cI cZ cR a_p2 a_p2_weight a_p2_membersOf a_t a_t_code a_t_stack a_t_table p2_in p2_all t_codes p2_membersOf_r p2_weight_r t_code_r t_stack_r) := hD
          refine lv_if_eq (tgt := 176) hx hb dX6_holds_50 (by decide) (fun c22 => ?_) (fun c22 => ?_)
          · have hf := ipos c22 hf
            refine lv_iinc (v := (x4 + (1 : Int32))) (lv' := [(4, .int (x4 + (1 : Int32))), (5, .int ((t_code_r (x4).toNatClampNeg) >>> ((14 : Int32) &&& 31))), (0, .ref a_t), (1, .int x1), (2, .ref a_p2), (3, .int x3)]) hx hb dX6_holds_176 hl (k := 5) rfl rfl (by decide) rfl (fun ls hl => ?_)
            refine lv_goto (tgt := 5) hx hb dX6_holds_179 (by decide) ?_
            exact ih x3 (x4 + (1 : Int32)) t_stack_r hf _ _ hP hD hS _ (lv_sub hl [2, 3, 4, 5, 0] rfl)
          · have hf := ineg c22 hf
            refine lv_aload_n hx hb dX6_holds_53 rfl (lv_at hl 1 rfl) ?_
            refine va_get (D := D) (ci := 6) (v := .ref a_t_stack) (C := RX6) (T := TX6) (N := 4) hx hb hts in_X6_holds_X6 hown hK hP 1 rfl rfl 1 (by decide) (hts (.fieldLink RX6 17 "DivisionHall$Rule" "stack" "[I") (by decide +kernel)) (fun _ h9 => h9) rfl dX6_holds_54 ?_
            refine lv_iload_n hx hb dX6_holds_57 rfl (lv_at hl 4 rfl) ?_
            refine lv_iload hx hb dX6_holds_58 (lv_at hl 0 rfl) ?_
            refine lv_aload_n hx hb dX6_holds_60 rfl (lv_at hl 1 rfl) ?_
            refine va_get (D := D) (ci := 6) (v := .ref a_t_code) (C := RX6) (T := TX6) (N := 4) hx hb hts in_X6_holds_X6 hown hK hP 1 rfl rfl 0 (by decide) (hts (.fieldLink RX6 11 "DivisionHall$Rule" "code" "[I") (by decide +kernel)) (fun _ h9 => h9) rfl dX6_holds_61 ?_
            refine lv_iload hx hb dX6_holds_64 (lv_at hl 5 rfl) ?_
            obtain ⟨hi23, hf⟩ := gin_s hf
            refine va_iald hx hb hK hP 4 0 rfl rfl hi23 dX6_holds_66 ?_
            refine lv_sipush (v := (16383 : Int32)) hx hb dX6_holds_67 (by decide) ?_
            refine lv_iand hx hb dX6_holds_70 ?_
            refine lv_iload_n hx hb dX6_holds_71 rfl (lv_at hl 2 rfl) ?_
            refine lv_aload_n hx hb dX6_holds_72 rfl (lv_at hl 3 rfl) ?_
            obtain ⟨r24, hr25, hf⟩ := bnd hf
            refine wcalli (D := D) (cI := cI) (cZ := cZ) (cR := cR) (wc := (wd_X6_ask cI cZ cR a_p2 a_p2_weight a_p2_membersOf p2_in p2_all p2_membersOf_r p2_weight_r)) (w' := (wd_X6_ask cI cZ cR a_p2 a_p2_weight a_p2_membersOf p2_in p2_all p2_membersOf_r p2_weight_r)) [0, 2, 3] hP hD hS hA rfl rfl rfl (rnS (As := [.int ((t_code_r (x4).toNatClampNeg) >>> ((14 : Int32) &&& 31)), .int ((t_code_r (x4).toNatClampNeg) &&& (16383 : Int32)), .int x1, .ref a_p2]) X [0, 2, 3] hK hP hD rfl rfl (c_X6_ask l D cI cZ cR hr25) (cwS 4 hts gX6_holds_X6_ask rfl rfl rfl (by decide +kernel) ⟨Nat.le_of_ble_eq_true rfl, Nat.le_of_ble_eq_true rfl⟩) rfl hl.1 rfl (Nat.le_of_ble_eq_true rfl) dX6_holds_73) (fun H locs hP hD hS => ?_)
            have hP : va_P D vwCl (wd_X6_holds cI cZ cR a_p2 a_p2_weight a_p2_membersOf a_t a_t_code a_t_stack a_t_table p2_in p2_all t_codes p2_membersOf_r p2_weight_r t_code_r t_stack_r) H := hP
            have hD : va_D A (wd_X6_holds cI cZ cR a_p2 a_p2_weight a_p2_membersOf a_t a_t_code a_t_stack a_t_table p2_in p2_all t_codes p2_membersOf_r p2_weight_r t_code_r t_stack_r) := hD
            obtain ⟨hi26, hf⟩ := gin_s hf
            refine va_iast hx hb hK hP hD hS 5 0 rfl rfl hi26 dX6_holds_76 (fun H locs hP hD hS => ?_)
            have hP : va_P D vwCl (wd_X6_holds cI cZ cR a_p2 a_p2_weight a_p2_membersOf a_t a_t_code a_t_stack a_t_table p2_in p2_all t_codes p2_membersOf_r p2_weight_r t_code_r (upd t_stack_r (x3).toNatClampNeg r24)) H := hP
            have hD : va_D A (wd_X6_holds cI cZ cR a_p2 a_p2_weight a_p2_membersOf a_t a_t_code a_t_stack a_t_table p2_in p2_all t_codes p2_membersOf_r p2_weight_r t_code_r (upd t_stack_r (x3).toNatClampNeg r24)) := hD
            refine lv_iinc (v := (x3 + (1 : Int32))) (lv' := [(3, .int (x3 + (1 : Int32))), (5, .int ((t_code_r (x4).toNatClampNeg) >>> ((14 : Int32) &&& 31))), (0, .ref a_t), (1, .int x1), (2, .ref a_p2), (4, .int x4)]) hx hb dX6_holds_77 hl (k := 4) rfl rfl (by decide) rfl (fun ls hl => ?_)
            refine lv_goto (tgt := 176) hx hb dX6_holds_80 (by decide) ?_
            refine lv_iinc (v := (x4 + (1 : Int32))) (lv' := [(4, .int (x4 + (1 : Int32))), (3, .int (x3 + (1 : Int32))), (5, .int ((t_code_r (x4).toNatClampNeg) >>> ((14 : Int32) &&& 31))), (0, .ref a_t), (1, .int x1), (2, .ref a_p2)]) hx hb dX6_holds_176 hl (k := 5) rfl rfl (by decide) rfl (fun ls hl => ?_)
            refine lv_goto (tgt := 5) hx hb dX6_holds_179 (by decide) ?_
            exact ih (x3 + (1 : Int32)) (x4 + (1 : Int32)) (upd t_stack_r (x3).toNatClampNeg r24) hf _ _ hP hD hS _ (lv_sub hl [3, 4, 5, 1, 0] rfl)
set_option maxHeartbeats 4000000 in
set_option maxRecDepth 100000 in
theorem c_X6_holds (l : Launch) (D : va_G) (cI cZ cR : ClassId) {a_p2 a_p2_weight a_p2_membersOf a_t a_t_code a_t_stack a_t_table : Nat} {p2_in : Int32} {p2_all : Int32} {t_codes : Int32} {p2_membersOf_r : Nat → Int32} {p2_weight_r : Nat → Int32} {t_code_r : Nat → Int32} {t_stack_r : Nat → Int32} {x1 : Int32} {sz : Nat} {out : Int32 × (Nat → Int32)} (hf : F_X6_holds x1 p2_all p2_in p2_membersOf_r p2_weight_r t_codes t_code_r t_stack_r = some out) : CI l yX6_holds wsX6_holds ({ frames := 2, cells := 0, slots := 0, locals := 46 } : Room) D cI cZ cR [.ref a_t, .int x1, .ref a_p2] (wd_X6_holds cI cZ cR a_p2 a_p2_weight a_p2_membersOf a_t a_t_code a_t_stack a_t_table p2_in p2_all t_codes p2_membersOf_r p2_weight_r t_code_r t_stack_r) sz (out.1) (wd_X6_holds cI cZ cR a_p2 a_p2_weight a_p2_membersOf a_t a_t_code a_t_stack a_t_table p2_in p2_all t_codes p2_membersOf_r p2_weight_r t_code_r (out.2)) := by
  refine met_of (Qf := fun A => qi D cI cZ cR A (out.1) (wd_X6_holds cI cZ cR a_p2 a_p2_weight a_p2_membersOf a_t a_t_code a_t_stack a_t_table p2_in p2_all t_codes p2_membersOf_r p2_weight_r t_code_r (out.2))) RX6 (by decide +kernel) rfl rfl (Nat.le_of_ble_eq_true rfl) ?_
  intro p e s m below meth c A X hK hA hP hD hS ls hl
  have hl : lv_has ls 6 [(0, .ref a_t), (1, .int x1), (2, .ref a_p2)] := hl
  obtain ⟨hx, hb, hml, hr, hown, hts, hlocks, hN⟩ := id X
  unfold F_X6_holds at hf
  refine lv_iconst (v := (0 : Int32)) hx hb dX6_holds_0 (by decide) ?_
  refine lv_istore_n (lv' := [(3, .int (0 : Int32)), (0, .ref a_t), (1, .int x1), (2, .ref a_p2)]) hx hb dX6_holds_1 rfl hl (by decide) rfl (fun ls hl => ?_)
  refine lv_iconst (v := (0 : Int32)) hx hb dX6_holds_2 (by decide) ?_
  refine lv_istore (lv' := [(4, .int (0 : Int32)), (3, .int (0 : Int32)), (0, .ref a_t), (1, .int x1), (2, .ref a_p2)]) hx hb dX6_holds_3 hl (by decide) rfl (fun ls hl => ?_)
  exact w_X6_holds_5 X hK hA _ (0 : Int32) (0 : Int32) t_stack_r hf _ _ hP hD hS _ (lv_sub hl [2, 3, 4, 1, 0] rfl)
