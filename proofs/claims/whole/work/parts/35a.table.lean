abbrev wd_X9_clear (cI cZ cR : ClassId) (a_t a_t_bits a_t_trade : Nat) (t_in t_fresh t_tradeSought : Int32) (t_bits_r : Nat → Int32) : va_W := [(a_t, oB 8 [.ref a_t_bits, .ref a_t_trade, .int t_in, .int t_fresh, .int t_tradeSought]), (a_t_bits, aI cI 32 t_bits_r)]
set_option maxRecDepth 100000 in
theorem in_X9_clear_X9 : ∀ w ∈ wsX90, w ∈ wsX9_clear := by decide +kernel
set_option maxHeartbeats 4000000 in
set_option maxRecDepth 100000 in
theorem c_X9_clear (l : Launch) (D : va_G) (cI cZ cR : ClassId) {a_t a_t_bits a_t_trade : Nat} {t_in : Int32} {t_fresh : Int32} {t_tradeSought : Int32} {t_bits_r : Nat → Int32} {x1 : Int32} {sz : Nat} {out : Int32 × Int32 × (Nat → Int32)} (hf : F_X9_clear x1 t_in t_tradeSought t_bits_r = some out) : CV l yX9_clear wsX9_clear ({ frames := 1, cells := 0, slots := 0, locals := 23 } : Room) D cI cZ cR [.ref a_t, .int x1] (wd_X9_clear cI cZ cR a_t a_t_bits a_t_trade t_in t_fresh t_tradeSought t_bits_r) sz (wd_X9_clear cI cZ cR a_t a_t_bits a_t_trade (out.1) t_fresh (out.2.1) (out.2.2)) := by
  refine met_of (Qf := fun A => qv D cI cZ cR A (wd_X9_clear cI cZ cR a_t a_t_bits a_t_trade (out.1) t_fresh (out.2.1) (out.2.2))) RX9 (by decide +kernel) rfl rfl (Nat.le_of_ble_eq_true rfl) ?_
  intro p e s m below meth c A X hK hA hP hD hS ls hl
  have hl : lv_has ls 2 [(0, .ref a_t), (1, .int x1)] := hl
  obtain ⟨hx, hb, hml, hr, hown, hts, hlocks, hN⟩ := id X
  unfold F_X9_clear at hf
  refine lv_aload_n hx hb dX9_clear_0 rfl (lv_at hl 0 rfl) ?_
  refine va_get (D := D) (ci := 8) (v := .ref a_t_bits) (C := RX9) (T := TX9) (N := 5) hx hb hts in_X9_clear_X9 hown hK hP 0 rfl rfl 0 (by decide) (hts (.fieldLink RX9 9 "DivisionHall$Table" "bits" "[I") (by decide +kernel)) (fun _ h9 => h9) rfl dX9_clear_1 ?_
  refine lv_iconst (v := (0 : Int32)) hx hb dX9_clear_4 (by decide) ?_
  obtain ⟨r1, hr2, hf⟩ := bnd hf
  refine wcallv (D := D) (cI := cI) (cZ := cZ) (cR := cR) (wc := (wd_J7_fill_53178 cI cZ cR a_t_bits 32 t_bits_r)) (w' := (wd_J7_fill_53178 cI cZ cR a_t_bits 32 r1)) [1] hP hD hS hA rfl rfl rfl (rnS (As := [.ref a_t_bits, .int (0 : Int32)]) X [1] hK hP hD rfl rfl (c_J7_fill_53178 l D cI cZ cR hr2) ⟨callB_of 2 hts ggX9_clear_J7_fill_53178 rfl rfl rfl (hts (.initialized RJ7) (by decide +kernel)) (hts (.methodLink RX9 18 yJ7_fill_53178) (by decide +kernel)) (by decide +kernel) ⟨Nat.le_of_ble_eq_true rfl, Nat.le_of_ble_eq_true rfl⟩, hts (.static yJ7_fill_53178) (by decide +kernel)⟩ rfl hl.1 rfl (Nat.le_of_ble_eq_true rfl) dX9_clear_5) (fun H locs hP hD hS => ?_)
  have hP : va_P D vwCl (wd_X9_clear cI cZ cR a_t a_t_bits a_t_trade t_in t_fresh t_tradeSought r1) H := hP
  have hD : va_D A (wd_X9_clear cI cZ cR a_t a_t_bits a_t_trade t_in t_fresh t_tradeSought r1) := hD
  refine lv_aload_n hx hb dX9_clear_8 rfl (lv_at hl 0 rfl) ?_
  refine lv_iload_n hx hb dX9_clear_9 rfl (lv_at hl 1 rfl) ?_
  refine va_put (D := D) (ci := 8) (v := .int x1) (ty := .int) (C := RX9) (T := TX9) (N := 5) hx hb hts in_X9_clear_X9 tyX9 tyX9_ok nmX9 hown hK hP hD hS 0 rfl rfl 2 (by decide) (hts (.fieldLink RX9 24 "DivisionHall$Table" "in" "I") (by decide +kernel)) (fun _ h9 => h9) rfl (by decide +kernel) rfl rfl (Nat.le_of_ble_eq_true rfl) dX9_clear_10 (fun H locs hP hD hS => ?_)
  have hP : va_P D vwCl (wd_X9_clear cI cZ cR a_t a_t_bits a_t_trade x1 t_fresh t_tradeSought r1) H := hP
  have hD : va_D A (wd_X9_clear cI cZ cR a_t a_t_bits a_t_trade x1 t_fresh t_tradeSought r1) := hD
  refine lv_aload_n hx hb dX9_clear_13 rfl (lv_at hl 0 rfl) ?_
  refine lv_iconst (v := (0 : Int32)) hx hb dX9_clear_14 (by decide) ?_
  refine va_put (D := D) (ci := 8) (v := .int (0 : Int32)) (ty := .boolean) (C := RX9) (T := TX9) (N := 5) hx hb hts in_X9_clear_X9 tyX9 tyX9_ok nmX9 hown hK hP hD hS 0 rfl rfl 4 (by decide) (hts (.fieldLink RX9 28 "DivisionHall$Table" "tradeSought" "Z") (by decide +kernel)) (fun _ h9 => h9) rfl (by decide +kernel) rfl rfl (Nat.le_of_ble_eq_true rfl) dX9_clear_15 (fun H locs hP hD hS => ?_)
  have hP : va_P D vwCl (wd_X9_clear cI cZ cR a_t a_t_bits a_t_trade x1 t_fresh (0 : Int32) r1) H := hP
  have hD : va_D A (wd_X9_clear cI cZ cR a_t a_t_bits a_t_trade x1 t_fresh (0 : Int32) r1) := hD
  cases hf
  exact retv X hK hP hD hS dX9_clear_18

abbrev wd_X9_mark (cI cZ cR : ClassId) (a_t a_t_bits a_t_trade : Nat) (t_in t_fresh t_tradeSought : Int32) (t_bits_r : Nat → Int32) : va_W := [(a_t, oB 8 [.ref a_t_bits, .ref a_t_trade, .int t_in, .int t_fresh, .int t_tradeSought]), (a_t_bits, aI cI 32 t_bits_r)]
set_option maxRecDepth 100000 in
theorem in_X9_mark_X9 : ∀ w ∈ wsX90, w ∈ wsX9_mark := by decide +kernel
set_option maxHeartbeats 4000000 in
set_option maxRecDepth 100000 in
theorem c_X9_mark (l : Launch) (D : va_G) (cI cZ cR : ClassId) {a_t a_t_bits a_t_trade : Nat} {t_in : Int32} {t_fresh : Int32} {t_tradeSought : Int32} {t_bits_r : Nat → Int32} {x1 : Int32} {sz : Nat} {out : (Nat → Int32)} (hf : F_X9_mark x1 t_bits_r = some out) : CV l yX9_mark wsX9_mark ({ frames := 1, cells := 0, slots := 0, locals := 21 } : Room) D cI cZ cR [.ref a_t, .int x1] (wd_X9_mark cI cZ cR a_t a_t_bits a_t_trade t_in t_fresh t_tradeSought t_bits_r) sz (wd_X9_mark cI cZ cR a_t a_t_bits a_t_trade t_in t_fresh t_tradeSought out) := by
  refine met_of (Qf := fun A => qv D cI cZ cR A (wd_X9_mark cI cZ cR a_t a_t_bits a_t_trade t_in t_fresh t_tradeSought out)) RX9 (by decide +kernel) rfl rfl (Nat.le_of_ble_eq_true rfl) ?_
  intro p e s m below meth c A X hK hA hP hD hS ls hl
  have hl : lv_has ls 2 [(0, .ref a_t), (1, .int x1)] := hl
  obtain ⟨hx, hb, hml, hr, hown, hts, hlocks, hN⟩ := id X
  unfold F_X9_mark at hf
  refine lv_iload_n hx hb dX9_mark_0 rfl (lv_at hl 1 rfl) ?_
  refine lv_sipush (v := (1024 : Int32)) hx hb dX9_mark_1 (by decide) ?_
  obtain ⟨r1, hr2, hf⟩ := bnd hf
  refine wcalli (D := D) (cI := cI) (cZ := cZ) (cR := cR) (wc := (wd_X11_inside cI cZ cR)) (w' := (wd_X11_inside cI cZ cR)) [] hP hD hS hA rfl rfl rfl (rnSN (As := [.int x1, .int (1024 : Int32)]) X [] hK hP hD rfl rfl (c_X11_inside l D cI cZ cR hr2) ⟨va_cnB (host := "DivisionHall") 2 hts ggX9_mark_X11_inside rfl rfl rfl (hN.2.1 ("DivisionHall$Table", 32, yX11_inside, "DivisionHall") (by decide +kernel)) (hts (.initialized RX11) (by decide +kernel)) (by decide +kernel) ⟨Nat.le_of_ble_eq_true rfl, Nat.le_of_ble_eq_true rfl⟩, hts (.static yX11_inside) (by decide +kernel), trivial⟩ rfl hl.1 rfl (Nat.le_of_ble_eq_true rfl) dX9_mark_4) (fun H locs hP hD hS => ?_)
  have hP : va_P D vwCl (wd_X9_mark cI cZ cR a_t a_t_bits a_t_trade t_in t_fresh t_tradeSought t_bits_r) H := hP
  have hD : va_D A (wd_X9_mark cI cZ cR a_t a_t_bits a_t_trade t_in t_fresh t_tradeSought t_bits_r) := hD
  refine lv_if_eq (tgt := 27) hx hb dX9_mark_7 (by decide) (fun c3 => ?_) (fun c3 => ?_)
  · have hf := ipos c3 hf
    cases hf
    exact retv X hK hP hD hS dX9_mark_27
  · have hf := ineg c3 hf
    refine lv_aload_n hx hb dX9_mark_10 rfl (lv_at hl 0 rfl) ?_
    refine va_get (D := D) (ci := 8) (v := .ref a_t_bits) (C := RX9) (T := TX9) (N := 5) hx hb hts in_X9_mark_X9 hown hK hP 0 rfl rfl 0 (by decide) (hts (.fieldLink RX9 9 "DivisionHall$Table" "bits" "[I") (by decide +kernel)) (fun _ h9 => h9) rfl dX9_mark_11 ?_
    refine lv_iload_n hx hb dX9_mark_14 rfl (lv_at hl 1 rfl) ?_
    refine lv_iconst (v := (5 : Int32)) hx hb dX9_mark_15 (by decide) ?_
    refine lv_ishr hx hb dX9_mark_16 ?_
    refine lv_dup2_11 hx hb dX9_mark_17 rfl rfl ?_
    obtain ⟨hi4, hf⟩ := gin_s hf
    refine va_iald hx hb hK hP 1 0 rfl rfl hi4 dX9_mark_18 ?_
    refine lv_iconst (v := (1 : Int32)) hx hb dX9_mark_19 (by decide) ?_
    refine lv_iload_n hx hb dX9_mark_20 rfl (lv_at hl 1 rfl) ?_
    refine lv_bipush (v := (31 : Int32)) hx hb dX9_mark_21 (by decide) ?_
    refine lv_iand hx hb dX9_mark_23 ?_
    refine lv_ishl hx hb dX9_mark_24 ?_
    refine lv_ior hx hb dX9_mark_25 ?_
    obtain ⟨hi5, hf⟩ := gin_s hf
    refine va_iast hx hb hK hP hD hS 1 0 rfl rfl hi5 dX9_mark_26 (fun H locs hP hD hS => ?_)
    have hP : va_P D vwCl (wd_X9_mark cI cZ cR a_t a_t_bits a_t_trade t_in t_fresh t_tradeSought (upd t_bits_r ((x1 >>> ((5 : Int32) &&& 31))).toNatClampNeg ((t_bits_r ((x1 >>> ((5 : Int32) &&& 31))).toNatClampNeg) ||| ((1 : Int32) <<< ((x1 &&& (31 : Int32)) &&& 31))))) H := hP
    have hD : va_D A (wd_X9_mark cI cZ cR a_t a_t_bits a_t_trade t_in t_fresh t_tradeSought (upd t_bits_r ((x1 >>> ((5 : Int32) &&& 31))).toNatClampNeg ((t_bits_r ((x1 >>> ((5 : Int32) &&& 31))).toNatClampNeg) ||| ((1 : Int32) <<< ((x1 &&& (31 : Int32)) &&& 31))))) := hD
    cases hf
    exact retv X hK hP hD hS dX9_mark_27

abbrev wd_X9_at (cI cZ cR : ClassId) (a_t a_t_bits a_t_trade : Nat) (t_in t_fresh t_tradeSought : Int32) (t_bits_r : Nat → Int32) : va_W := [(a_t, oB 8 [.ref a_t_bits, .ref a_t_trade, .int t_in, .int t_fresh, .int t_tradeSought]), (a_t_bits, aI cI 32 t_bits_r)]
set_option maxRecDepth 100000 in
theorem in_X9_at_X9 : ∀ w ∈ wsX90, w ∈ wsX9_at := by decide +kernel
set_option maxHeartbeats 4000000 in
set_option maxRecDepth 100000 in
theorem c_X9_at (l : Launch) (D : va_G) (cI cZ cR : ClassId) {a_t a_t_bits a_t_trade : Nat} {t_in : Int32} {t_fresh : Int32} {t_tradeSought : Int32} {t_bits_r : Nat → Int32} {x1 : Int32} {sz : Nat} {out : Int32} (hf : F_X9_at x1 t_bits_r = some out) : CI l yX9_at wsX9_at ({ frames := 1, cells := 0, slots := 0, locals := 21 } : Room) D cI cZ cR [.ref a_t, .int x1] (wd_X9_at cI cZ cR a_t a_t_bits a_t_trade t_in t_fresh t_tradeSought t_bits_r) sz (out) (wd_X9_at cI cZ cR a_t a_t_bits a_t_trade t_in t_fresh t_tradeSought t_bits_r) := by
  refine met_of (Qf := fun A => qi D cI cZ cR A (out) (wd_X9_at cI cZ cR a_t a_t_bits a_t_trade t_in t_fresh t_tradeSought t_bits_r)) RX9 (by decide +kernel) rfl rfl (Nat.le_of_ble_eq_true rfl) ?_
  intro p e s m below meth c A X hK hA hP hD hS ls hl
  have hl : lv_has ls 2 [(0, .ref a_t), (1, .int x1)] := hl
  obtain ⟨hx, hb, hml, hr, hown, hts, hlocks, hN⟩ := id X
  unfold F_X9_at at hf
  refine lv_iload_n hx hb dX9_at_0 rfl (lv_at hl 1 rfl) ?_
  refine lv_sipush (v := (1024 : Int32)) hx hb dX9_at_1 (by decide) ?_
  obtain ⟨r1, hr2, hf⟩ := bnd hf
  refine wcalli (D := D) (cI := cI) (cZ := cZ) (cR := cR) (wc := (wd_X11_inside cI cZ cR)) (w' := (wd_X11_inside cI cZ cR)) [] hP hD hS hA rfl rfl rfl (rnSN (As := [.int x1, .int (1024 : Int32)]) X [] hK hP hD rfl rfl (c_X11_inside l D cI cZ cR hr2) ⟨va_cnB (host := "DivisionHall") 2 hts ggX9_at_X11_inside rfl rfl rfl (hN.2.1 ("DivisionHall$Table", 32, yX11_inside, "DivisionHall") (by decide +kernel)) (hts (.initialized RX11) (by decide +kernel)) (by decide +kernel) ⟨Nat.le_of_ble_eq_true rfl, Nat.le_of_ble_eq_true rfl⟩, hts (.static yX11_inside) (by decide +kernel), trivial⟩ rfl hl.1 rfl (Nat.le_of_ble_eq_true rfl) dX9_at_4) (fun H locs hP hD hS => ?_)
  have hP : va_P D vwCl (wd_X9_at cI cZ cR a_t a_t_bits a_t_trade t_in t_fresh t_tradeSought t_bits_r) H := hP
  have hD : va_D A (wd_X9_at cI cZ cR a_t a_t_bits a_t_trade t_in t_fresh t_tradeSought t_bits_r) := hD
  refine lv_if_eq (tgt := 32) hx hb dX9_at_7 (by decide) (fun c3 => ?_) (fun c3 => ?_)
  · have hf := ipos c3 hf
    refine lv_iconst (v := (0 : Int32)) hx hb dX9_at_32 (by decide) ?_
    cases hf
    exact retz (Or.inl rfl) X hK hP hD hS dX9_at_33
  · have hf := ineg c3 hf
    refine lv_aload_n hx hb dX9_at_10 rfl (lv_at hl 0 rfl) ?_
    refine va_get (D := D) (ci := 8) (v := .ref a_t_bits) (C := RX9) (T := TX9) (N := 5) hx hb hts in_X9_at_X9 hown hK hP 0 rfl rfl 0 (by decide) (hts (.fieldLink RX9 9 "DivisionHall$Table" "bits" "[I") (by decide +kernel)) (fun _ h9 => h9) rfl dX9_at_11 ?_
    refine lv_iload_n hx hb dX9_at_14 rfl (lv_at hl 1 rfl) ?_
    refine lv_iconst (v := (5 : Int32)) hx hb dX9_at_15 (by decide) ?_
    refine lv_ishr hx hb dX9_at_16 ?_
    obtain ⟨hi4, hf⟩ := gin_s hf
    refine va_iald hx hb hK hP 1 0 rfl rfl hi4 dX9_at_17 ?_
    refine lv_iload_n hx hb dX9_at_18 rfl (lv_at hl 1 rfl) ?_
    refine lv_bipush (v := (31 : Int32)) hx hb dX9_at_19 (by decide) ?_
    refine lv_iand hx hb dX9_at_21 ?_
    obtain ⟨r5, hr6, hf⟩ := bnd hf
    refine wcalli (D := D) (cI := cI) (cZ := cZ) (cR := cR) (wc := (wd_X11_has cI cZ cR)) (w' := (wd_X11_has cI cZ cR)) [] hP hD hS hA rfl rfl rfl (rnSN (As := [.int (t_bits_r ((x1 >>> ((5 : Int32) &&& 31))).toNatClampNeg), .int (x1 &&& (31 : Int32))]) X [] hK hP hD rfl rfl (c_X11_has l D cI cZ cR hr6) ⟨va_cnB (host := "DivisionHall") 2 hts ggX9_at_X11_has rfl rfl rfl (hN.2.1 ("DivisionHall$Table", 36, yX11_has, "DivisionHall") (by decide +kernel)) (hts (.initialized RX11) (by decide +kernel)) (by decide +kernel) ⟨Nat.le_of_ble_eq_true rfl, Nat.le_of_ble_eq_true rfl⟩, hts (.static yX11_has) (by decide +kernel), trivial⟩ rfl hl.1 rfl (Nat.le_of_ble_eq_true rfl) dX9_at_22) (fun H locs hP hD hS => ?_)
    have hP : va_P D vwCl (wd_X9_at cI cZ cR a_t a_t_bits a_t_trade t_in t_fresh t_tradeSought t_bits_r) H := hP
    have hD : va_D A (wd_X9_at cI cZ cR a_t a_t_bits a_t_trade t_in t_fresh t_tradeSought t_bits_r) := hD
    refine lv_if_eq (tgt := 32) hx hb dX9_at_25 (by decide) (fun c7 => ?_) (fun c7 => ?_)
    · have hf := ipos c7 hf
      refine lv_iconst (v := (0 : Int32)) hx hb dX9_at_32 (by decide) ?_
      cases hf
      exact retz (Or.inl rfl) X hK hP hD hS dX9_at_33
    · have hf := ineg c7 hf
      refine lv_iconst (v := (1 : Int32)) hx hb dX9_at_28 (by decide) ?_
      refine lv_goto (tgt := 33) hx hb dX9_at_29 (by decide) ?_
      cases hf
      exact retz (Or.inr rfl) X hK hP hD hS dX9_at_33

abbrev wd_X9_isSwing (cI cZ cR : ClassId) (a_t a_t_bits a_t_trade : Nat) (t_in t_fresh t_tradeSought : Int32) (t_bits_r : Nat → Int32) : va_W := [(a_t, oB 8 [.ref a_t_bits, .ref a_t_trade, .int t_in, .int t_fresh, .int t_tradeSought]), (a_t_bits, aI cI 32 t_bits_r)]
set_option maxRecDepth 100000 in
theorem in_X9_isSwing_X9 : ∀ w ∈ wsX90, w ∈ wsX9_isSwing := by decide +kernel
set_option maxHeartbeats 4000000 in
set_option maxRecDepth 100000 in
theorem c_X9_isSwing (l : Launch) (D : va_G) (cI cZ cR : ClassId) {a_t a_t_bits a_t_trade : Nat} {t_in : Int32} {t_fresh : Int32} {t_tradeSought : Int32} {t_bits_r : Nat → Int32} {x1 : Int32} {x2 : Int32} {sz : Nat} {out : Int32} (hf : F_X9_isSwing x1 x2 t_in t_bits_r = some out) : CI l yX9_isSwing wsX9_isSwing ({ frames := 2, cells := 0, slots := 0, locals := 42 } : Room) D cI cZ cR [.ref a_t, .int x1, .int x2] (wd_X9_isSwing cI cZ cR a_t a_t_bits a_t_trade t_in t_fresh t_tradeSought t_bits_r) sz (out) (wd_X9_isSwing cI cZ cR a_t a_t_bits a_t_trade t_in t_fresh t_tradeSought t_bits_r) := by
  refine met_of (Qf := fun A => qi D cI cZ cR A (out) (wd_X9_isSwing cI cZ cR a_t a_t_bits a_t_trade t_in t_fresh t_tradeSought t_bits_r)) RX9 (by decide +kernel) rfl rfl (Nat.le_of_ble_eq_true rfl) ?_
  intro p e s m below meth c A X hK hA hP hD hS ls hl
  have hl : lv_has ls 3 [(0, .ref a_t), (1, .int x1), (2, .int x2)] := hl
  obtain ⟨hx, hb, hml, hr, hown, hts, hlocks, hN⟩ := id X
  unfold F_X9_isSwing at hf
  refine lv_iload_n hx hb dX9_isSwing_0 rfl (lv_at hl 1 rfl) ?_
  refine lv_aload_n hx hb dX9_isSwing_1 rfl (lv_at hl 0 rfl) ?_
  refine va_get (D := D) (ci := 8) (v := .int t_in) (C := RX9) (T := TX9) (N := 5) hx hb hts in_X9_isSwing_X9 hown hK hP 0 rfl rfl 2 (by decide) (hts (.fieldLink RX9 24 "DivisionHall$Table" "in" "I") (by decide +kernel)) (fun _ h9 => h9) rfl dX9_isSwing_2 ?_
  refine lv_iload_n hx hb dX9_isSwing_5 rfl (lv_at hl 2 rfl) ?_
  refine lv_iconst (v := (-1 : Int32)) hx hb dX9_isSwing_6 (by decide) ?_
  refine lv_ixor hx hb dX9_isSwing_7 ?_
  refine lv_iand hx hb dX9_isSwing_8 ?_
  obtain ⟨r1, hr2, hf⟩ := bnd hf
  refine wcalli (D := D) (cI := cI) (cZ := cZ) (cR := cR) (wc := (wd_X11_isWithin cI cZ cR)) (w' := (wd_X11_isWithin cI cZ cR)) [] hP hD hS hA rfl rfl rfl (rnSN (As := [.int x1, .int (t_in &&& (x2 ^^^ (-1 : Int32)))]) X [] hK hP hD rfl rfl (c_X11_isWithin l D cI cZ cR hr2) ⟨va_cnB (host := "DivisionHall") 2 hts ggX9_isSwing_X11_isWithin rfl rfl rfl (hN.2.1 ("DivisionHall$Table", 39, yX11_isWithin, "DivisionHall") (by decide +kernel)) (hts (.initialized RX11) (by decide +kernel)) (by decide +kernel) ⟨Nat.le_of_ble_eq_true rfl, Nat.le_of_ble_eq_true rfl⟩, hts (.static yX11_isWithin) (by decide +kernel), trivial⟩ rfl hl.1 rfl (Nat.le_of_ble_eq_true rfl) dX9_isSwing_9) (fun H locs hP hD hS => ?_)
  have hP : va_P D vwCl (wd_X9_isSwing cI cZ cR a_t a_t_bits a_t_trade t_in t_fresh t_tradeSought t_bits_r) H := hP
  have hD : va_D A (wd_X9_isSwing cI cZ cR a_t a_t_bits a_t_trade t_in t_fresh t_tradeSought t_bits_r) := hD
  refine lv_if_eq (tgt := 37) hx hb dX9_isSwing_12 (by decide) (fun c3 => ?_) (fun c3 => ?_)
  · have hf := ipos c3 hf
    refine lv_iconst (v := (0 : Int32)) hx hb dX9_isSwing_37 (by decide) ?_
    cases hf
    exact retz (Or.inl rfl) X hK hP hD hS dX9_isSwing_38
  · have hf := ineg c3 hf
    refine lv_aload_n hx hb dX9_isSwing_15 rfl (lv_at hl 0 rfl) ?_
    refine lv_iload_n hx hb dX9_isSwing_16 rfl (lv_at hl 1 rfl) ?_
    obtain ⟨r4, hr5, hf⟩ := bnd hf
    refine wcalliA (D := D) (cI := cI) (cZ := cZ) (cR := cR) (wc := (wd_X9_at cI cZ cR a_t a_t_bits a_t_trade t_in t_fresh t_tradeSought t_bits_r)) (w' := (wd_X9_at cI cZ cR a_t a_t_bits a_t_trade t_in t_fresh t_tradeSought t_bits_r)) hP hD hS hA rfl (rnVA (As := [.int x1]) (ci := 8) (q0 := 0) X hK hP hD rfl rfl (c_X9_at l D cI cZ cR hr5) (cwV 1 hts gX9_isSwing_X9_at rfl rfl rfl (by decide +kernel) ⟨Nat.le_of_ble_eq_true rfl, Nat.le_of_ble_eq_true rfl⟩) rfl hl.1 rfl (Nat.le_of_ble_eq_true rfl) dX9_isSwing_17) (fun H locs hP hD hS => ?_)
    have hP : va_P D vwCl (wd_X9_isSwing cI cZ cR a_t a_t_bits a_t_trade t_in t_fresh t_tradeSought t_bits_r) H := hP
    have hD : va_D A (wd_X9_isSwing cI cZ cR a_t a_t_bits a_t_trade t_in t_fresh t_tradeSought t_bits_r) := hD
    refine lv_if_ne (tgt := 37) hx hb dX9_isSwing_20 (by decide) (fun c6 => ?_) (fun c6 => ?_)
    · have hf := ineg c6 hf
      refine lv_iconst (v := (0 : Int32)) hx hb dX9_isSwing_37 (by decide) ?_
      cases hf
      exact retz (Or.inl rfl) X hK hP hD hS dX9_isSwing_38
    · have hf := ipos c6 hf
      refine lv_aload_n hx hb dX9_isSwing_23 rfl (lv_at hl 0 rfl) ?_
      refine lv_iload_n hx hb dX9_isSwing_24 rfl (lv_at hl 1 rfl) ?_
      refine lv_iload_n hx hb dX9_isSwing_25 rfl (lv_at hl 2 rfl) ?_
      refine lv_ior hx hb dX9_isSwing_26 ?_
      obtain ⟨r7, hr8, hf⟩ := bnd hf
      refine wcalliA (D := D) (cI := cI) (cZ := cZ) (cR := cR) (wc := (wd_X9_at cI cZ cR a_t a_t_bits a_t_trade t_in t_fresh t_tradeSought t_bits_r)) (w' := (wd_X9_at cI cZ cR a_t a_t_bits a_t_trade t_in t_fresh t_tradeSought t_bits_r)) hP hD hS hA rfl (rnVA (As := [.int (x1 ||| x2)]) (ci := 8) (q0 := 0) X hK hP hD rfl rfl (c_X9_at l D cI cZ cR hr8) (cwV 1 hts gX9_isSwing_X9_at rfl rfl rfl (by decide +kernel) ⟨Nat.le_of_ble_eq_true rfl, Nat.le_of_ble_eq_true rfl⟩) rfl hl.1 rfl (Nat.le_of_ble_eq_true rfl) dX9_isSwing_27) (fun H locs hP hD hS => ?_)
      have hP : va_P D vwCl (wd_X9_isSwing cI cZ cR a_t a_t_bits a_t_trade t_in t_fresh t_tradeSought t_bits_r) H := hP
      have hD : va_D A (wd_X9_isSwing cI cZ cR a_t a_t_bits a_t_trade t_in t_fresh t_tradeSought t_bits_r) := hD
      refine lv_if_eq (tgt := 37) hx hb dX9_isSwing_30 (by decide) (fun c9 => ?_) (fun c9 => ?_)
      · have hf := ipos c9 hf
        refine lv_iconst (v := (0 : Int32)) hx hb dX9_isSwing_37 (by decide) ?_
        cases hf
        exact retz (Or.inl rfl) X hK hP hD hS dX9_isSwing_38
      · have hf := ineg c9 hf
        refine lv_iconst (v := (1 : Int32)) hx hb dX9_isSwing_33 (by decide) ?_
        refine lv_goto (tgt := 38) hx hb dX9_isSwing_34 (by decide) ?_
        cases hf
        exact retz (Or.inr rfl) X hK hP hD hS dX9_isSwing_38

abbrev wd_X9_swings (cI cZ cR : ClassId) (a_t a_t_bits a_t_trade : Nat) (t_in t_fresh t_tradeSought : Int32) (t_bits_r : Nat → Int32) : va_W := [(a_t, oB 8 [.ref a_t_bits, .ref a_t_trade, .int t_in, .int t_fresh, .int t_tradeSought]), (a_t_bits, aI cI 32 t_bits_r)]
set_option maxRecDepth 100000 in
theorem in_X9_swings_X9 : ∀ w ∈ wsX90, w ∈ wsX9_swings := by decide +kernel
set_option maxHeartbeats 4000000 in
set_option maxRecDepth 100000 in
theorem w_X9_swings_9 {p : Program} {l : Launch} {e : Env} {s : State} {m : MethodId} {args : Array Value} {below : List Frame} {meth : Method} {c : Code} {D : va_G} {cI cZ cR : ClassId} {A : Nat → Prop} {a_t a_t_bits a_t_trade : Nat} {t_in : Int32} {t_fresh : Int32} {t_tradeSought : Int32} {t_bits_r : Nat → Int32} {out : Int64} (X : cx p s m args meth c cX9_swings 6 (some .long) RX9 wsX9_swings) (hK : va_K D vwCl (ty3 cI cZ cR) s) (hA : ∀ q, s.heap.size ≤ q → A q) : ∀ (n : Nat) (x2 : Int32) (x3 : Int64) (x5 : Int32), F_X9_swings_9 t_in t_bits_r n x2 x3 x5 = some out → ∀ (H : Heap) (locs : List Loc), va_P D vwCl (wd_X9_swings cI cZ cR a_t a_t_bits a_t_trade t_in t_fresh t_tradeSought t_bits_r) H → va_D A (wd_X9_swings cI cZ cR a_t a_t_bits a_t_trade t_in t_fresh t_tradeSought t_bits_r) → va_S A s.heap H locs → ∀ (ls : Array Slot), lv_has ls 6 [(0, .ref a_t), (2, .int x2), (3, .long x3), (5, .int x5)] → W p l e (headSpec wsX9_swings ({ frames := 3, cells := 0, slots := 0, locals := 64 } : Room)).room s m args below meth c H locs 0 0 (MQ below (ql D cI cZ cR A (out) (wd_X9_swings cI cZ cR a_t a_t_bits a_t_trade t_in t_fresh t_tradeSought t_bits_r)) args s 0 0 A) (F0 m 9 ls []) := by
  obtain ⟨hx, hb, hml, hr, hown, hts, hlocks, hN⟩ := id X
  intro n
  induction n with
  | zero =>
    intro x2 x3 x5 hf
    cases (show (none : Option (Int64)) = some out from hf)
  | succ n ih =>
    intro x2 x3 x5 hf H locs hP hD hS ls hl
    rw [F_X9_swings_9] at hf
    refine lv_iload hx hb dX9_swings_9 (lv_at hl 3 rfl) ?_
    refine lv_aload_n hx hb dX9_swings_11 rfl (lv_at hl 0 rfl) ?_
    refine va_get (D := D) (ci := 8) (v := .int t_in) (C := RX9) (T := TX9) (N := 5) hx hb hts in_X9_swings_X9 hown hK hP 0 rfl rfl 2 (by decide) (hts (.fieldLink RX9 24 "DivisionHall$Table" "in" "I") (by decide +kernel)) (fun _ h9 => h9) rfl dX9_swings_12 ?_
    refine lv_icmp_gt (tgt := 38) hx hb dX9_swings_15 (by decide) (fun c1 => ?_) (fun c1 => ?_)
    · have hf := ipos c1 hf
      refine lv_lload_n hx hb dX9_swings_38 rfl (lv_at hl 2 rfl) ?_
      cases hf
      exact retl X hK hP hD hS dX9_swings_39
    · have hf := ineg c1 hf
      refine lv_aload_n hx hb dX9_swings_18 rfl (lv_at hl 0 rfl) ?_
      refine lv_iload hx hb dX9_swings_19 (lv_at hl 3 rfl) ?_
      refine lv_iload_n hx hb dX9_swings_21 rfl (lv_at hl 1 rfl) ?_
      obtain ⟨r2, hr3, hf⟩ := bnd hf
      refine wcalliA (D := D) (cI := cI) (cZ := cZ) (cR := cR) (wc := (wd_X9_isSwing cI cZ cR a_t a_t_bits a_t_trade t_in t_fresh t_tradeSought t_bits_r)) (w' := (wd_X9_isSwing cI cZ cR a_t a_t_bits a_t_trade t_in t_fresh t_tradeSought t_bits_r)) hP hD hS hA rfl (rnVA (As := [.int x5, .int x2]) (ci := 8) (q0 := 0) X hK hP hD rfl rfl (c_X9_isSwing l D cI cZ cR hr3) (cwV 2 hts gX9_swings_X9_isSwing rfl rfl rfl (by decide +kernel) ⟨Nat.le_of_ble_eq_true rfl, Nat.le_of_ble_eq_true rfl⟩) rfl hl.1 rfl (Nat.le_of_ble_eq_true rfl) dX9_swings_22) (fun H locs hP hD hS => ?_)
      have hP : va_P D vwCl (wd_X9_swings cI cZ cR a_t a_t_bits a_t_trade t_in t_fresh t_tradeSought t_bits_r) H := hP
      have hD : va_D A (wd_X9_swings cI cZ cR a_t a_t_bits a_t_trade t_in t_fresh t_tradeSought t_bits_r) := hD
      refine lv_if_eq (tgt := 32) hx hb dX9_swings_25 (by decide) (fun c4 => ?_) (fun c4 => ?_)
      · have hf := ipos c4 hf
        refine lv_iinc (v := (x5 + (1 : Int32))) (lv' := [(5, .int (x5 + (1 : Int32))), (0, .ref a_t), (2, .int x2), (3, .long x3)]) hx hb dX9_swings_32 hl (k := 3) rfl rfl (by decide) rfl (fun ls hl => ?_)
        refine lv_goto (tgt := 9) hx hb dX9_swings_35 (by decide) ?_
        exact ih x2 x3 (x5 + (1 : Int32)) hf _ _ hP hD hS _ (lv_sub hl [1, 2, 3, 0] rfl)
      · have hf := ineg c4 hf
        refine lv_lload_n hx hb dX9_swings_28 rfl (lv_at hl 2 rfl) ?_
        refine lv_lconst (v := (1 : Int64)) hx hb dX9_swings_29 (by decide) ?_
        refine lv_ladd hx hb dX9_swings_30 ?_
        refine lv_lstore_n (lv' := [(3, .long (x3 + (1 : Int64))), (0, .ref a_t), (2, .int x2), (5, .int x5)]) hx hb dX9_swings_31 rfl hl (by decide) rfl (fun ls hl => ?_)
        refine lv_iinc (v := (x5 + (1 : Int32))) (lv' := [(5, .int (x5 + (1 : Int32))), (3, .long (x3 + (1 : Int64))), (0, .ref a_t), (2, .int x2)]) hx hb dX9_swings_32 hl (k := 3) rfl rfl (by decide) rfl (fun ls hl => ?_)
        refine lv_goto (tgt := 9) hx hb dX9_swings_35 (by decide) ?_
        exact ih x2 (x3 + (1 : Int64)) (x5 + (1 : Int32)) hf _ _ hP hD hS _ (lv_sub hl [2, 3, 1, 0] rfl)
set_option maxHeartbeats 4000000 in
set_option maxRecDepth 100000 in
theorem c_X9_swings (l : Launch) (D : va_G) (cI cZ cR : ClassId) {a_t a_t_bits a_t_trade : Nat} {t_in : Int32} {t_fresh : Int32} {t_tradeSought : Int32} {t_bits_r : Nat → Int32} {x1 : Int32} {sz : Nat} {out : Int64} (hf : F_X9_swings x1 t_in t_bits_r = some out) : CL l yX9_swings wsX9_swings ({ frames := 3, cells := 0, slots := 0, locals := 64 } : Room) D cI cZ cR [.ref a_t, .int x1] (wd_X9_swings cI cZ cR a_t a_t_bits a_t_trade t_in t_fresh t_tradeSought t_bits_r) sz (out) (wd_X9_swings cI cZ cR a_t a_t_bits a_t_trade t_in t_fresh t_tradeSought t_bits_r) := by
  refine met_of (Qf := fun A => ql D cI cZ cR A (out) (wd_X9_swings cI cZ cR a_t a_t_bits a_t_trade t_in t_fresh t_tradeSought t_bits_r)) RX9 (by decide +kernel) rfl rfl (Nat.le_of_ble_eq_true rfl) ?_
  intro p e s m below meth c A X hK hA hP hD hS ls hl
  have hl : lv_has ls 6 [(0, .ref a_t), (1, .int x1)] := hl
  obtain ⟨hx, hb, hml, hr, hown, hts, hlocks, hN⟩ := id X
  unfold F_X9_swings at hf
  refine lv_iconst (v := (1 : Int32)) hx hb dX9_swings_0 (by decide) ?_
  refine lv_iload_n hx hb dX9_swings_1 rfl (lv_at hl 1 rfl) ?_
  refine lv_ishl hx hb dX9_swings_2 ?_
  refine lv_istore_n (lv' := [(2, .int ((1 : Int32) <<< (x1 &&& 31))), (0, .ref a_t), (1, .int x1)]) hx hb dX9_swings_3 rfl hl (by decide) rfl (fun ls hl => ?_)
  refine lv_lconst (v := (0 : Int64)) hx hb dX9_swings_4 (by decide) ?_
  refine lv_lstore_n (lv' := [(3, .long (0 : Int64)), (2, .int ((1 : Int32) <<< (x1 &&& 31))), (0, .ref a_t), (1, .int x1)]) hx hb dX9_swings_5 rfl hl (by decide) rfl (fun ls hl => ?_)
  refine lv_iconst (v := (0 : Int32)) hx hb dX9_swings_6 (by decide) ?_
  refine lv_istore (lv' := [(5, .int (0 : Int32)), (3, .long (0 : Int64)), (2, .int ((1 : Int32) <<< (x1 &&& 31))), (0, .ref a_t), (1, .int x1)]) hx hb dX9_swings_7 hl (by decide) rfl (fun ls hl => ?_)
  exact w_X9_swings_9 X hK hA _ ((1 : Int32) <<< (x1 &&& 31)) (0 : Int64) (0 : Int32) hf _ _ hP hD hS _ (lv_sub hl [3, 2, 1, 0] rfl)

abbrev wd_X9_setsWithoutOne (cI cZ cR : ClassId) (a_t a_t_bits a_t_trade : Nat) (t_in t_fresh t_tradeSought : Int32) : va_W := [(a_t, oB 8 [.ref a_t_bits, .ref a_t_trade, .int t_in, .int t_fresh, .int t_tradeSought])]
set_option maxRecDepth 100000 in
theorem in_X9_setsWithoutOne_X9 : ∀ w ∈ wsX90, w ∈ wsX9_setsWithoutOne := by decide +kernel
set_option maxHeartbeats 4000000 in
set_option maxRecDepth 100000 in
theorem c_X9_setsWithoutOne (l : Launch) (D : va_G) (cI cZ cR : ClassId) {a_t a_t_bits a_t_trade : Nat} {t_in : Int32} {t_fresh : Int32} {t_tradeSought : Int32} {sz : Nat} {out : Int64} (hf : F_X9_setsWithoutOne t_in = some out) : CL l yX9_setsWithoutOne wsX9_setsWithoutOne ({ frames := 1, cells := 0, slots := 0, locals := 38 } : Room) D cI cZ cR [.ref a_t] (wd_X9_setsWithoutOne cI cZ cR a_t a_t_bits a_t_trade t_in t_fresh t_tradeSought) sz (out) (wd_X9_setsWithoutOne cI cZ cR a_t a_t_bits a_t_trade t_in t_fresh t_tradeSought) := by
  refine met_of (Qf := fun A => ql D cI cZ cR A (out) (wd_X9_setsWithoutOne cI cZ cR a_t a_t_bits a_t_trade t_in t_fresh t_tradeSought)) RX9 (by decide +kernel) rfl rfl (Nat.le_of_ble_eq_true rfl) ?_
  intro p e s m below meth c A X hK hA hP hD hS ls hl
  have hl : lv_has ls 1 [(0, .ref a_t)] := hl
  obtain ⟨hx, hb, hml, hr, hown, hts, hlocks, hN⟩ := id X
  unfold F_X9_setsWithoutOne at hf
  refine lv_lconst (v := (1 : Int64)) hx hb dX9_setsWithoutOne_0 (by decide) ?_
  refine lv_aload_n hx hb dX9_setsWithoutOne_1 rfl (lv_at hl 0 rfl) ?_
  refine va_get (D := D) (ci := 8) (v := .int t_in) (C := RX9) (T := TX9) (N := 5) hx hb hts in_X9_setsWithoutOne_X9 hown hK hP 0 rfl rfl 2 (by decide) (hts (.fieldLink RX9 24 "DivisionHall$Table" "in" "I") (by decide +kernel)) (fun _ h9 => h9) rfl dX9_setsWithoutOne_2 ?_
  obtain ⟨r1, hr2, hf⟩ := bnd hf
  refine wcalli (D := D) (cI := cI) (cZ := cZ) (cR := cR) (wc := (wd_J6_bitCount_0f7a4 cI cZ cR)) (w' := (wd_J6_bitCount_0f7a4 cI cZ cR)) [] hP hD hS hA rfl rfl rfl (rnS (As := [.int t_in]) X [] hK hP hD rfl rfl (c_J6_bitCount_0f7a4 l D cI cZ cR hr2) ⟨callB_of 1 hts ggX9_setsWithoutOne_J6_bitCount_0f7a4 rfl rfl rfl (hts (.initialized RJ6) (by decide +kernel)) (hts (.methodLink RX9 49 yJ6_bitCount_0f7a4) (by decide +kernel)) (by decide +kernel) ⟨Nat.le_of_ble_eq_true rfl, Nat.le_of_ble_eq_true rfl⟩, hts (.static yJ6_bitCount_0f7a4) (by decide +kernel)⟩ rfl hl.1 rfl (Nat.le_of_ble_eq_true rfl) dX9_setsWithoutOne_5) (fun H locs hP hD hS => ?_)
  have hP : va_P D vwCl (wd_X9_setsWithoutOne cI cZ cR a_t a_t_bits a_t_trade t_in t_fresh t_tradeSought) H := hP
  have hD : va_D A (wd_X9_setsWithoutOne cI cZ cR a_t a_t_bits a_t_trade t_in t_fresh t_tradeSought) := hD
  refine lv_iconst (v := (1 : Int32)) hx hb dX9_setsWithoutOne_8 (by decide) ?_
  refine lv_isub hx hb dX9_setsWithoutOne_9 ?_
  refine lv_iconst (v := (0 : Int32)) hx hb dX9_setsWithoutOne_10 (by decide) ?_
  refine va_mmax hx hb (hml.trans hl.1.symm) hown (hts (.methodLink RX9 55 Lib.Math.max.name) (by decide +kernel)) (hts (.static Lib.Math.max.name) (by decide +kernel)) (hts (.initialized "java/lang/Math") (by decide +kernel)) (hts (.code Lib.Math.max.name Lib.Math.max.code 2 (some .int)) (by decide +kernel)) (Nat.le_of_ble_eq_true rfl) (Nat.le_of_ble_eq_true rfl) (Nat.zero_le _) (Nat.zero_le _) dX9_setsWithoutOne_11 ?_
  refine lv_lshl (v := ((1 : Int64) <<< ((if (r1 - (1 : Int32)) < (0 : Int32) then (0 : Int32) else (r1 - (1 : Int32))).toInt64 &&& 63))) hx hb dX9_setsWithoutOne_14 rfl ?_
  cases hf
  exact retl X hK hP hD hS dX9_setsWithoutOne_15

abbrev wd_X9_factorial (cI cZ cR : ClassId) : va_W := []
set_option maxHeartbeats 4000000 in
set_option maxRecDepth 100000 in
theorem w_X9_factorial_4 {p : Program} {l : Launch} {e : Env} {s : State} {m : MethodId} {args : Array Value} {below : List Frame} {meth : Method} {c : Code} {D : va_G} {cI cZ cR : ClassId} {A : Nat → Prop} {x0 : Int32} {out : Int64} (X : cx p s m args meth c cX9_factorial 4 (some .long) RX9 wsX9_factorial) (hK : va_K D vwCl (ty3 cI cZ cR) s) (hA : ∀ q, s.heap.size ≤ q → A q) : ∀ (n : Nat) (x1 : Int64) (x3 : Int32), F_X9_factorial_4 x0 n x1 x3 = some out → ∀ (H : Heap) (locs : List Loc), va_P D vwCl (wd_X9_factorial cI cZ cR) H → va_D A (wd_X9_factorial cI cZ cR) → va_S A s.heap H locs → ∀ (ls : Array Slot), lv_has ls 4 [(0, .int x0), (1, .long x1), (3, .int x3)] → W p l e (headSpec wsX9_factorial ({ frames := 0, cells := 0, slots := 0, locals := 0 } : Room)).room s m args below meth c H locs 0 0 (MQ below (ql D cI cZ cR A (out) (wd_X9_factorial cI cZ cR)) args s 0 0 A) (F0 m 4 ls []) := by
  obtain ⟨hx, hb, hml, hr, hown, hts, hlocks, hN⟩ := id X
  intro n
  induction n with
  | zero =>
    intro x1 x3 hf
    cases (show (none : Option (Int64)) = some out from hf)
  | succ n ih =>
    intro x1 x3 hf H locs hP hD hS ls hl
    rw [F_X9_factorial_4] at hf
    refine lv_iload_n hx hb dX9_factorial_4 rfl (lv_at hl 2 rfl) ?_
    refine lv_iload_n hx hb dX9_factorial_5 rfl (lv_at hl 0 rfl) ?_
    refine lv_icmp_gt (tgt := 20) hx hb dX9_factorial_6 (by decide) (fun c1 => ?_) (fun c1 => ?_)
    · have hf := ipos c1 hf
      refine lv_lload_n hx hb dX9_factorial_20 rfl (lv_at hl 1 rfl) ?_
      cases hf
      exact retl X hK hP hD hS dX9_factorial_21
    · have hf := ineg c1 hf
      refine lv_lload_n hx hb dX9_factorial_9 rfl (lv_at hl 1 rfl) ?_
      refine lv_iload_n hx hb dX9_factorial_10 rfl (lv_at hl 2 rfl) ?_
      refine lv_i2l (v := (x3).toInt64) hx hb dX9_factorial_11 rfl ?_
      refine lv_lmul hx hb dX9_factorial_12 ?_
      refine lv_lstore_n (lv' := [(1, .long (x1 * ((x3).toInt64))), (0, .int x0), (3, .int x3)]) hx hb dX9_factorial_13 rfl hl (by decide) rfl (fun ls hl => ?_)
      refine lv_iinc (v := (x3 + (1 : Int32))) (lv' := [(3, .int (x3 + (1 : Int32))), (1, .long (x1 * ((x3).toInt64))), (0, .int x0)]) hx hb dX9_factorial_14 hl (k := 2) rfl rfl (by decide) rfl (fun ls hl => ?_)
      refine lv_goto (tgt := 4) hx hb dX9_factorial_17 (by decide) ?_
      exact ih (x1 * ((x3).toInt64)) (x3 + (1 : Int32)) hf _ _ hP hD hS _ (lv_sub hl [2, 1, 0] rfl)
set_option maxHeartbeats 4000000 in
set_option maxRecDepth 100000 in
theorem c_X9_factorial (l : Launch) (D : va_G) (cI cZ cR : ClassId) {x0 : Int32} {sz : Nat} {out : Int64} (hf : F_X9_factorial x0 = some out) : CL l yX9_factorial wsX9_factorial ({ frames := 0, cells := 0, slots := 0, locals := 0 } : Room) D cI cZ cR [.int x0] (wd_X9_factorial cI cZ cR) sz (out) (wd_X9_factorial cI cZ cR) := by
  refine met_of (Qf := fun A => ql D cI cZ cR A (out) (wd_X9_factorial cI cZ cR)) RX9 (by decide +kernel) rfl rfl (Nat.le_of_ble_eq_true rfl) ?_
  intro p e s m below meth c A X hK hA hP hD hS ls hl
  have hl : lv_has ls 4 [(0, .int x0)] := hl
  obtain ⟨hx, hb, hml, hr, hown, hts, hlocks, hN⟩ := id X
  unfold F_X9_factorial at hf
  refine lv_lconst (v := (1 : Int64)) hx hb dX9_factorial_0 (by decide) ?_
  refine lv_lstore_n (lv' := [(1, .long (1 : Int64)), (0, .int x0)]) hx hb dX9_factorial_1 rfl hl (by decide) rfl (fun ls hl => ?_)
  refine lv_iconst (v := (2 : Int32)) hx hb dX9_factorial_2 (by decide) ?_
  refine lv_istore_n (lv' := [(3, .int (2 : Int32)), (1, .long (1 : Int64)), (0, .int x0)]) hx hb dX9_factorial_3 rfl hl (by decide) rfl (fun ls hl => ?_)
  exact w_X9_factorial_4 X hK hA _ (1 : Int64) (2 : Int32) hf _ _ hP hD hS _ (lv_sub hl [2, 1, 0] rfl)

abbrev wd_X9_turns (cI cZ cR : ClassId) (a_t a_t_bits a_t_trade : Nat) (t_in t_fresh t_tradeSought : Int32) (t_bits_r : Nat → Int32) : va_W := [(a_t, oB 8 [.ref a_t_bits, .ref a_t_trade, .int t_in, .int t_fresh, .int t_tradeSought]), (a_t_bits, aI cI 32 t_bits_r)]
set_option maxRecDepth 100000 in
theorem in_X9_turns_X9 : ∀ w ∈ wsX90, w ∈ wsX9_turns := by decide +kernel
set_option maxHeartbeats 4000000 in
set_option maxRecDepth 100000 in
theorem w_X9_turns_20 {p : Program} {l : Launch} {e : Env} {s : State} {m : MethodId} {args : Array Value} {below : List Frame} {meth : Method} {c : Code} {D : va_G} {cI cZ cR : ClassId} {A : Nat → Prop} {a_t a_t_bits a_t_trade : Nat} {t_in : Int32} {t_fresh : Int32} {t_tradeSought : Int32} {t_bits_r : Nat → Int32} {out : Int64} (X : cx p s m args meth c cX9_turns 8 (some .long) RX9 wsX9_turns) (hK : va_K D vwCl (ty3 cI cZ cR) s) (hA : ∀ q, s.heap.size ≤ q → A q) : ∀ (n : Nat) (x2 : Int32) (x3 : Int32) (x4 : Int64) (x6 : Int32), F_X9_turns_20 t_in t_bits_r n x2 x3 x4 x6 = some out → ∀ (H : Heap) (locs : List Loc), va_P D vwCl (wd_X9_turns cI cZ cR a_t a_t_bits a_t_trade t_in t_fresh t_tradeSought t_bits_r) H → va_D A (wd_X9_turns cI cZ cR a_t a_t_bits a_t_trade t_in t_fresh t_tradeSought t_bits_r) → va_S A s.heap H locs → ∀ (ls : Array Slot), lv_has ls 8 [(0, .ref a_t), (2, .int x2), (3, .int x3), (4, .long x4), (6, .int x6)] → W p l e (headSpec wsX9_turns ({ frames := 3, cells := 0, slots := 0, locals := 64 } : Room)).room s m args below meth c H locs 0 0 (MQ below (ql D cI cZ cR A (out) (wd_X9_turns cI cZ cR a_t a_t_bits a_t_trade t_in t_fresh t_tradeSought t_bits_r)) args s 0 0 A) (F0 m 20 ls []) := by
  obtain ⟨hx, hb, hml, hr, hown, hts, hlocks, hN⟩ := id X
  intro n
  induction n with
  | zero =>
    intro x2 x3 x4 x6 hf
    cases (show (none : Option (Int64)) = some out from hf)
  | succ n ih =>
    intro x2 x3 x4 x6 hf H locs hP hD hS ls hl
    rw [F_X9_turns_20] at hf
    refine lv_iload hx hb dX9_turns_20 (lv_at hl 4 rfl) ?_
    refine lv_aload_n hx hb dX9_turns_22 rfl (lv_at hl 0 rfl) ?_
    refine va_get (D := D) (ci := 8) (v := .int t_in) (C := RX9) (T := TX9) (N := 5) hx hb hts in_X9_turns_X9 hown hK hP 0 rfl rfl 2 (by decide) (hts (.fieldLink RX9 24 "DivisionHall$Table" "in" "I") (by decide +kernel)) (fun _ h9 => h9) rfl dX9_turns_23 ?_
    refine lv_icmp_gt (tgt := 70) hx hb dX9_turns_26 (by decide) (fun c3 => ?_) (fun c3 => ?_)
    · have hf := ipos c3 hf
      refine lv_lload hx hb dX9_turns_70 (lv_at hl 3 rfl) ?_
      cases hf
      exact retl X hK hP hD hS dX9_turns_72
    · have hf := ineg c3 hf
      refine lv_aload_n hx hb dX9_turns_29 rfl (lv_at hl 0 rfl) ?_
      refine lv_iload hx hb dX9_turns_30 (lv_at hl 4 rfl) ?_
      refine lv_iload_n hx hb dX9_turns_32 rfl (lv_at hl 1 rfl) ?_
      obtain ⟨r4, hr5, hf⟩ := bnd hf
      refine wcalliA (D := D) (cI := cI) (cZ := cZ) (cR := cR) (wc := (wd_X9_isSwing cI cZ cR a_t a_t_bits a_t_trade t_in t_fresh t_tradeSought t_bits_r)) (w' := (wd_X9_isSwing cI cZ cR a_t a_t_bits a_t_trade t_in t_fresh t_tradeSought t_bits_r)) hP hD hS hA rfl (rnVA (As := [.int x6, .int x2]) (ci := 8) (q0 := 0) X hK hP hD rfl rfl (c_X9_isSwing l D cI cZ cR hr5) (cwV 2 hts gX9_turns_X9_isSwing rfl rfl rfl (by decide +kernel) ⟨Nat.le_of_ble_eq_true rfl, Nat.le_of_ble_eq_true rfl⟩) rfl hl.1 rfl (Nat.le_of_ble_eq_true rfl) dX9_turns_33) (fun H locs hP hD hS => ?_)
      have hP : va_P D vwCl (wd_X9_turns cI cZ cR a_t a_t_bits a_t_trade t_in t_fresh t_tradeSought t_bits_r) H := hP
      have hD : va_D A (wd_X9_turns cI cZ cR a_t a_t_bits a_t_trade t_in t_fresh t_tradeSought t_bits_r) := hD
      refine lv_if_eq (tgt := 64) hx hb dX9_turns_36 (by decide) (fun c6 => ?_) (fun c6 => ?_)
      · have hf := ipos c6 hf
        refine lv_iinc (v := (x6 + (1 : Int32))) (lv' := [(6, .int (x6 + (1 : Int32))), (0, .ref a_t), (2, .int x2), (3, .int x3), (4, .long x4)]) hx hb dX9_turns_64 hl (k := 4) rfl rfl (by decide) rfl (fun ls hl => ?_)
        refine lv_goto (tgt := 20) hx hb dX9_turns_67 (by decide) ?_
        exact ih x2 x3 x4 (x6 + (1 : Int32)) hf _ _ hP hD hS _ (lv_sub hl [1, 2, 3, 4, 0] rfl)
      · have hf := ineg c6 hf
        refine lv_iload hx hb dX9_turns_39 (lv_at hl 4 rfl) ?_
        obtain ⟨r7, hr8, hf⟩ := bnd hf
        refine wcalli (D := D) (cI := cI) (cZ := cZ) (cR := cR) (wc := (wd_J6_bitCount_0f7a4 cI cZ cR)) (w' := (wd_J6_bitCount_0f7a4 cI cZ cR)) [] hP hD hS hA rfl rfl rfl (rnS (As := [.int x6]) X [] hK hP hD rfl rfl (c_J6_bitCount_0f7a4 l D cI cZ cR hr8) ⟨callB_of 1 hts ggX9_turns_J6_bitCount_0f7a4 rfl rfl rfl (hts (.initialized RJ6) (by decide +kernel)) (hts (.methodLink RX9 49 yJ6_bitCount_0f7a4) (by decide +kernel)) (by decide +kernel) ⟨Nat.le_of_ble_eq_true rfl, Nat.le_of_ble_eq_true rfl⟩, hts (.static yJ6_bitCount_0f7a4) (by decide +kernel)⟩ rfl hl.1 rfl (Nat.le_of_ble_eq_true rfl) dX9_turns_41) (fun H locs hP hD hS => ?_)
        have hP : va_P D vwCl (wd_X9_turns cI cZ cR a_t a_t_bits a_t_trade t_in t_fresh t_tradeSought t_bits_r) H := hP
        have hD : va_D A (wd_X9_turns cI cZ cR a_t a_t_bits a_t_trade t_in t_fresh t_tradeSought t_bits_r) := hD
        refine lv_istore (lv' := [(7, .int r7), (0, .ref a_t), (2, .int x2), (3, .int x3), (4, .long x4), (6, .int x6)]) hx hb dX9_turns_44 hl (by decide) rfl (fun ls hl => ?_)
        refine lv_lload hx hb dX9_turns_46 (lv_at hl 4 rfl) ?_
        refine lv_iload hx hb dX9_turns_48 (lv_at hl 0 rfl) ?_
        obtain ⟨r9, hr10, hf⟩ := bnd hf
        refine wcalll (D := D) (cI := cI) (cZ := cZ) (cR := cR) (wc := (wd_X9_factorial cI cZ cR)) (w' := (wd_X9_factorial cI cZ cR)) [] hP hD hS hA rfl rfl rfl (rnS (As := [.int r7]) X [] hK hP hD rfl rfl (c_X9_factorial l D cI cZ cR hr10) (cwS 1 hts gX9_turns_X9_factorial rfl rfl rfl (by decide +kernel) ⟨Nat.le_of_ble_eq_true rfl, Nat.le_of_ble_eq_true rfl⟩) rfl hl.1 rfl (Nat.le_of_ble_eq_true rfl) dX9_turns_50) (fun H locs hP hD hS => ?_)
        have hP : va_P D vwCl (wd_X9_turns cI cZ cR a_t a_t_bits a_t_trade t_in t_fresh t_tradeSought t_bits_r) H := hP
        have hD : va_D A (wd_X9_turns cI cZ cR a_t a_t_bits a_t_trade t_in t_fresh t_tradeSought t_bits_r) := hD
        refine lv_iload_n hx hb dX9_turns_53 rfl (lv_at hl 3 rfl) ?_
        refine lv_iload hx hb dX9_turns_54 (lv_at hl 0 rfl) ?_
        refine lv_isub hx hb dX9_turns_56 ?_
        obtain ⟨r11, hr12, hf⟩ := bnd hf
        refine wcalll (D := D) (cI := cI) (cZ := cZ) (cR := cR) (wc := (wd_X9_factorial cI cZ cR)) (w' := (wd_X9_factorial cI cZ cR)) [] hP hD hS hA rfl rfl rfl (rnS (As := [.int (x3 - r7)]) X [] hK hP hD rfl rfl (c_X9_factorial l D cI cZ cR hr12) (cwS 1 hts gX9_turns_X9_factorial rfl rfl rfl (by decide +kernel) ⟨Nat.le_of_ble_eq_true rfl, Nat.le_of_ble_eq_true rfl⟩) rfl hl.1 rfl (Nat.le_of_ble_eq_true rfl) dX9_turns_57) (fun H locs hP hD hS => ?_)
        have hP : va_P D vwCl (wd_X9_turns cI cZ cR a_t a_t_bits a_t_trade t_in t_fresh t_tradeSought t_bits_r) H := hP
        have hD : va_D A (wd_X9_turns cI cZ cR a_t a_t_bits a_t_trade t_in t_fresh t_tradeSought t_bits_r) := hD
        refine lv_lmul hx hb dX9_turns_60 ?_
        refine lv_ladd hx hb dX9_turns_61 ?_
        refine lv_lstore (lv' := [(4, .long (x4 + (r9 * r11))), (7, .int r7), (0, .ref a_t), (2, .int x2), (3, .int x3), (6, .int x6)]) hx hb dX9_turns_62 hl (by decide) rfl (fun ls hl => ?_)
        refine lv_iinc (v := (x6 + (1 : Int32))) (lv' := [(6, .int (x6 + (1 : Int32))), (4, .long (x4 + (r9 * r11))), (7, .int r7), (0, .ref a_t), (2, .int x2), (3, .int x3)]) hx hb dX9_turns_64 hl (k := 5) rfl rfl (by decide) rfl (fun ls hl => ?_)
        refine lv_goto (tgt := 20) hx hb dX9_turns_67 (by decide) ?_
        exact ih x2 x3 (x4 + (r9 * r11)) (x6 + (1 : Int32)) hf _ _ hP hD hS _ (lv_sub hl [3, 4, 5, 1, 0] rfl)
set_option maxHeartbeats 4000000 in
set_option maxRecDepth 100000 in
theorem c_X9_turns (l : Launch) (D : va_G) (cI cZ cR : ClassId) {a_t a_t_bits a_t_trade : Nat} {t_in : Int32} {t_fresh : Int32} {t_tradeSought : Int32} {t_bits_r : Nat → Int32} {x1 : Int32} {sz : Nat} {out : Int64} (hf : F_X9_turns x1 t_in t_bits_r = some out) : CL l yX9_turns wsX9_turns ({ frames := 3, cells := 0, slots := 0, locals := 64 } : Room) D cI cZ cR [.ref a_t, .int x1] (wd_X9_turns cI cZ cR a_t a_t_bits a_t_trade t_in t_fresh t_tradeSought t_bits_r) sz (out) (wd_X9_turns cI cZ cR a_t a_t_bits a_t_trade t_in t_fresh t_tradeSought t_bits_r) := by
  refine met_of (Qf := fun A => ql D cI cZ cR A (out) (wd_X9_turns cI cZ cR a_t a_t_bits a_t_trade t_in t_fresh t_tradeSought t_bits_r)) RX9 (by decide +kernel) rfl rfl (Nat.le_of_ble_eq_true rfl) ?_
  intro p e s m below meth c A X hK hA hP hD hS ls hl
  have hl : lv_has ls 8 [(0, .ref a_t), (1, .int x1)] := hl
  obtain ⟨hx, hb, hml, hr, hown, hts, hlocks, hN⟩ := id X
  unfold F_X9_turns at hf
  refine lv_iconst (v := (1 : Int32)) hx hb dX9_turns_0 (by decide) ?_
  refine lv_iload_n hx hb dX9_turns_1 rfl (lv_at hl 1 rfl) ?_
  refine lv_ishl hx hb dX9_turns_2 ?_
  refine lv_istore_n (lv' := [(2, .int ((1 : Int32) <<< (x1 &&& 31))), (0, .ref a_t), (1, .int x1)]) hx hb dX9_turns_3 rfl hl (by decide) rfl (fun ls hl => ?_)
  refine lv_aload_n hx hb dX9_turns_4 rfl (lv_at hl 1 rfl) ?_
  refine va_get (D := D) (ci := 8) (v := .int t_in) (C := RX9) (T := TX9) (N := 5) hx hb hts in_X9_turns_X9 hown hK hP 0 rfl rfl 2 (by decide) (hts (.fieldLink RX9 24 "DivisionHall$Table" "in" "I") (by decide +kernel)) (fun _ h9 => h9) rfl dX9_turns_5 ?_
  obtain ⟨r1, hr2, hf⟩ := bnd hf
  refine wcalli (D := D) (cI := cI) (cZ := cZ) (cR := cR) (wc := (wd_J6_bitCount_0f7a4 cI cZ cR)) (w' := (wd_J6_bitCount_0f7a4 cI cZ cR)) [] hP hD hS hA rfl rfl rfl (rnS (As := [.int t_in]) X [] hK hP hD rfl rfl (c_J6_bitCount_0f7a4 l D cI cZ cR hr2) ⟨callB_of 1 hts ggX9_turns_J6_bitCount_0f7a4 rfl rfl rfl (hts (.initialized RJ6) (by decide +kernel)) (hts (.methodLink RX9 49 yJ6_bitCount_0f7a4) (by decide +kernel)) (by decide +kernel) ⟨Nat.le_of_ble_eq_true rfl, Nat.le_of_ble_eq_true rfl⟩, hts (.static yJ6_bitCount_0f7a4) (by decide +kernel)⟩ rfl hl.1 rfl (Nat.le_of_ble_eq_true rfl) dX9_turns_8) (fun H locs hP hD hS => ?_)
  have hP : va_P D vwCl (wd_X9_turns cI cZ cR a_t a_t_bits a_t_trade t_in t_fresh t_tradeSought t_bits_r) H := hP
  have hD : va_D A (wd_X9_turns cI cZ cR a_t a_t_bits a_t_trade t_in t_fresh t_tradeSought t_bits_r) := hD
  refine lv_iconst (v := (1 : Int32)) hx hb dX9_turns_11 (by decide) ?_
  refine lv_isub hx hb dX9_turns_12 ?_
  refine lv_istore_n (lv' := [(3, .int (r1 - (1 : Int32))), (2, .int ((1 : Int32) <<< (x1 &&& 31))), (0, .ref a_t), (1, .int x1)]) hx hb dX9_turns_13 rfl hl (by decide) rfl (fun ls hl => ?_)
  refine lv_lconst (v := (0 : Int64)) hx hb dX9_turns_14 (by decide) ?_
  refine lv_lstore (lv' := [(4, .long (0 : Int64)), (3, .int (r1 - (1 : Int32))), (2, .int ((1 : Int32) <<< (x1 &&& 31))), (0, .ref a_t), (1, .int x1)]) hx hb dX9_turns_15 hl (by decide) rfl (fun ls hl => ?_)
  refine lv_iconst (v := (0 : Int32)) hx hb dX9_turns_17 (by decide) ?_
  refine lv_istore (lv' := [(6, .int (0 : Int32)), (4, .long (0 : Int64)), (3, .int (r1 - (1 : Int32))), (2, .int ((1 : Int32) <<< (x1 &&& 31))), (0, .ref a_t), (1, .int x1)]) hx hb dX9_turns_18 hl (by decide) rfl (fun ls hl => ?_)
  exact w_X9_turns_20 X hK hA _ ((1 : Int32) <<< (x1 &&& 31)) (r1 - (1 : Int32)) (0 : Int64) (0 : Int32) hf _ _ hP hD hS _ (lv_sub hl [4, 3, 2, 1, 0] rfl)

abbrev wd_X9_orders (cI cZ cR : ClassId) (a_t a_t_bits a_t_trade : Nat) (t_in t_fresh t_tradeSought : Int32) : va_W := [(a_t, oB 8 [.ref a_t_bits, .ref a_t_trade, .int t_in, .int t_fresh, .int t_tradeSought])]
set_option maxRecDepth 100000 in
theorem in_X9_orders_X9 : ∀ w ∈ wsX90, w ∈ wsX9_orders := by decide +kernel
set_option maxHeartbeats 4000000 in
set_option maxRecDepth 100000 in
theorem c_X9_orders (l : Launch) (D : va_G) (cI cZ cR : ClassId) {a_t a_t_bits a_t_trade : Nat} {t_in : Int32} {t_fresh : Int32} {t_tradeSought : Int32} {sz : Nat} {out : Int64} (hf : F_X9_orders t_in = some out) : CL l yX9_orders wsX9_orders ({ frames := 1, cells := 0, slots := 0, locals := 23 } : Room) D cI cZ cR [.ref a_t] (wd_X9_orders cI cZ cR a_t a_t_bits a_t_trade t_in t_fresh t_tradeSought) sz (out) (wd_X9_orders cI cZ cR a_t a_t_bits a_t_trade t_in t_fresh t_tradeSought) := by
  refine met_of (Qf := fun A => ql D cI cZ cR A (out) (wd_X9_orders cI cZ cR a_t a_t_bits a_t_trade t_in t_fresh t_tradeSought)) RX9 (by decide +kernel) rfl rfl (Nat.le_of_ble_eq_true rfl) ?_
  intro p e s m below meth c A X hK hA hP hD hS ls hl
  have hl : lv_has ls 1 [(0, .ref a_t)] := hl
  obtain ⟨hx, hb, hml, hr, hown, hts, hlocks, hN⟩ := id X
  unfold F_X9_orders at hf
  refine lv_aload_n hx hb dX9_orders_0 rfl (lv_at hl 0 rfl) ?_
  refine va_get (D := D) (ci := 8) (v := .int t_in) (C := RX9) (T := TX9) (N := 5) hx hb hts in_X9_orders_X9 hown hK hP 0 rfl rfl 2 (by decide) (hts (.fieldLink RX9 24 "DivisionHall$Table" "in" "I") (by decide +kernel)) (fun _ h9 => h9) rfl dX9_orders_1 ?_
  obtain ⟨r1, hr2, hf⟩ := bnd hf
  refine wcalli (D := D) (cI := cI) (cZ := cZ) (cR := cR) (wc := (wd_J6_bitCount_0f7a4 cI cZ cR)) (w' := (wd_J6_bitCount_0f7a4 cI cZ cR)) [] hP hD hS hA rfl rfl rfl (rnS (As := [.int t_in]) X [] hK hP hD rfl rfl (c_J6_bitCount_0f7a4 l D cI cZ cR hr2) ⟨callB_of 1 hts ggX9_orders_J6_bitCount_0f7a4 rfl rfl rfl (hts (.initialized RJ6) (by decide +kernel)) (hts (.methodLink RX9 49 yJ6_bitCount_0f7a4) (by decide +kernel)) (by decide +kernel) ⟨Nat.le_of_ble_eq_true rfl, Nat.le_of_ble_eq_true rfl⟩, hts (.static yJ6_bitCount_0f7a4) (by decide +kernel)⟩ rfl hl.1 rfl (Nat.le_of_ble_eq_true rfl) dX9_orders_4) (fun H locs hP hD hS => ?_)
  have hP : va_P D vwCl (wd_X9_orders cI cZ cR a_t a_t_bits a_t_trade t_in t_fresh t_tradeSought) H := hP
  have hD : va_D A (wd_X9_orders cI cZ cR a_t a_t_bits a_t_trade t_in t_fresh t_tradeSought) := hD
  obtain ⟨r3, hr4, hf⟩ := bnd hf
  refine wcalll (D := D) (cI := cI) (cZ := cZ) (cR := cR) (wc := (wd_X9_factorial cI cZ cR)) (w' := (wd_X9_factorial cI cZ cR)) [] hP hD hS hA rfl rfl rfl (rnS (As := [.int r1]) X [] hK hP hD rfl rfl (c_X9_factorial l D cI cZ cR hr4) (cwS 1 hts gX9_orders_X9_factorial rfl rfl rfl (by decide +kernel) ⟨Nat.le_of_ble_eq_true rfl, Nat.le_of_ble_eq_true rfl⟩) rfl hl.1 rfl (Nat.le_of_ble_eq_true rfl) dX9_orders_7) (fun H locs hP hD hS => ?_)
  have hP : va_P D vwCl (wd_X9_orders cI cZ cR a_t a_t_bits a_t_trade t_in t_fresh t_tradeSought) H := hP
  have hD : va_D A (wd_X9_orders cI cZ cR a_t a_t_bits a_t_trade t_in t_fresh t_tradeSought) := hD
  cases hf
  exact retl X hK hP hD hS dX9_orders_10

abbrev wd_X9_spoiler (cI cZ cR : ClassId) (a_t a_t_bits a_t_trade : Nat) (t_in t_fresh t_tradeSought : Int32) (t_bits_r : Nat → Int32) : va_W := [(a_t, oB 8 [.ref a_t_bits, .ref a_t_trade, .int t_in, .int t_fresh, .int t_tradeSought]), (a_t_bits, aI cI 32 t_bits_r)]
set_option maxRecDepth 100000 in
theorem in_X9_spoiler_X9 : ∀ w ∈ wsX90, w ∈ wsX9_spoiler := by decide +kernel
set_option maxHeartbeats 4000000 in
set_option maxRecDepth 100000 in
theorem w_X9_spoiler_11 {p : Program} {l : Launch} {e : Env} {s : State} {m : MethodId} {args : Array Value} {below : List Frame} {meth : Method} {c : Code} {D : va_G} {cI cZ cR : ClassId} {A : Nat → Prop} {a_t a_t_bits a_t_trade : Nat} {t_in : Int32} {t_fresh : Int32} {t_tradeSought : Int32} {t_bits_r : Nat → Int32} {x1 : Int32} {out : Int32} (X : cx p s m args meth c cX9_spoiler 4 (some .int) RX9 wsX9_spoiler) (hK : va_K D vwCl (ty3 cI cZ cR) s) (hA : ∀ q, s.heap.size ≤ q → A q) : ∀ (n : Nat) (x2 : Int32) (x3 : Int32), F_X9_spoiler_11 x1 t_in t_bits_r n x2 x3 = some out → ∀ (H : Heap) (locs : List Loc), va_P D vwCl (wd_X9_spoiler cI cZ cR a_t a_t_bits a_t_trade t_in t_fresh t_tradeSought t_bits_r) H → va_D A (wd_X9_spoiler cI cZ cR a_t a_t_bits a_t_trade t_in t_fresh t_tradeSought t_bits_r) → va_S A s.heap H locs → ∀ (ls : Array Slot), lv_has ls 4 [(0, .ref a_t), (1, .int x1), (2, .int x2), (3, .int x3)] → W p l e (headSpec wsX9_spoiler ({ frames := 2, cells := 0, slots := 0, locals := 42 } : Room)).room s m args below meth c H locs 0 0 (MQ below (qi D cI cZ cR A (out) (wd_X9_spoiler cI cZ cR a_t a_t_bits a_t_trade t_in t_fresh t_tradeSought t_bits_r)) args s 0 0 A) (F0 m 11 ls []) := by
  obtain ⟨hx, hb, hml, hr, hown, hts, hlocks, hN⟩ := id X
  intro n
  induction n with
  | zero =>
    intro x2 x3 hf
    cases (show (none : Option (Int32)) = some out from hf)
  | succ n ih =>
    intro x2 x3 hf H locs hP hD hS ls hl
    rw [F_X9_spoiler_11] at hf
    refine lv_iload_n hx hb dX9_spoiler_11 rfl (lv_at hl 3 rfl) ?_
    refine lv_bipush (v := (10 : Int32)) hx hb dX9_spoiler_12 (by decide) ?_
    refine lv_icmp_ge (tgt := 45) hx hb dX9_spoiler_14 (by decide) (fun c1 => ?_) (fun c1 => ?_)
    · have hf := ipos c1 hf
      refine lv_iconst (v := (-1 : Int32)) hx hb dX9_spoiler_45 (by decide) ?_
      cases hf
      exact reti X hK hP hD hS dX9_spoiler_46
    · have hf := ineg c1 hf
      refine lv_iload_n hx hb dX9_spoiler_17 rfl (lv_at hl 2 rfl) ?_
      refine lv_iload_n hx hb dX9_spoiler_18 rfl (lv_at hl 3 rfl) ?_
      obtain ⟨r2, hr3, hf⟩ := bnd hf
      refine wcalli (D := D) (cI := cI) (cZ := cZ) (cR := cR) (wc := (wd_X11_has cI cZ cR)) (w' := (wd_X11_has cI cZ cR)) [] hP hD hS hA rfl rfl rfl (rnSN (As := [.int x2, .int x3]) X [] hK hP hD rfl rfl (c_X11_has l D cI cZ cR hr3) ⟨va_cnB (host := "DivisionHall") 2 hts ggX9_spoiler_X11_has rfl rfl rfl (hN.2.1 ("DivisionHall$Table", 36, yX11_has, "DivisionHall") (by decide +kernel)) (hts (.initialized RX11) (by decide +kernel)) (by decide +kernel) ⟨Nat.le_of_ble_eq_true rfl, Nat.le_of_ble_eq_true rfl⟩, hts (.static yX11_has) (by decide +kernel), trivial⟩ rfl hl.1 rfl (Nat.le_of_ble_eq_true rfl) dX9_spoiler_19) (fun H locs hP hD hS => ?_)
      have hP : va_P D vwCl (wd_X9_spoiler cI cZ cR a_t a_t_bits a_t_trade t_in t_fresh t_tradeSought t_bits_r) H := hP
      have hD : va_D A (wd_X9_spoiler cI cZ cR a_t a_t_bits a_t_trade t_in t_fresh t_tradeSought t_bits_r) := hD
      refine lv_if_eq (tgt := 39) hx hb dX9_spoiler_22 (by decide) (fun c4 => ?_) (fun c4 => ?_)
      · have hf := ipos c4 hf
        refine lv_iinc (v := (x3 + (1 : Int32))) (lv' := [(3, .int (x3 + (1 : Int32))), (0, .ref a_t), (1, .int x1), (2, .int x2)]) hx hb dX9_spoiler_39 hl (k := 3) rfl rfl (by decide) rfl (fun ls hl => ?_)
        refine lv_goto (tgt := 11) hx hb dX9_spoiler_42 (by decide) ?_
        exact ih x2 (x3 + (1 : Int32)) hf _ _ hP hD hS _ (lv_sub hl [1, 2, 3, 0] rfl)
      · have hf := ineg c4 hf
        refine lv_aload_n hx hb dX9_spoiler_25 rfl (lv_at hl 0 rfl) ?_
        refine lv_iload_n hx hb dX9_spoiler_26 rfl (lv_at hl 1 rfl) ?_
        refine lv_iconst (v := (1 : Int32)) hx hb dX9_spoiler_27 (by decide) ?_
        refine lv_iload_n hx hb dX9_spoiler_28 rfl (lv_at hl 3 rfl) ?_
        refine lv_ishl hx hb dX9_spoiler_29 ?_
        refine lv_ior hx hb dX9_spoiler_30 ?_
        obtain ⟨r5, hr6, hf⟩ := bnd hf
        refine wcalliA (D := D) (cI := cI) (cZ := cZ) (cR := cR) (wc := (wd_X9_at cI cZ cR a_t a_t_bits a_t_trade t_in t_fresh t_tradeSought t_bits_r)) (w' := (wd_X9_at cI cZ cR a_t a_t_bits a_t_trade t_in t_fresh t_tradeSought t_bits_r)) hP hD hS hA rfl (rnVA (As := [.int (x1 ||| ((1 : Int32) <<< (x3 &&& 31)))]) (ci := 8) (q0 := 0) X hK hP hD rfl rfl (c_X9_at l D cI cZ cR hr6) (cwV 1 hts gX9_spoiler_X9_at rfl rfl rfl (by decide +kernel) ⟨Nat.le_of_ble_eq_true rfl, Nat.le_of_ble_eq_true rfl⟩) rfl hl.1 rfl (Nat.le_of_ble_eq_true rfl) dX9_spoiler_31) (fun H locs hP hD hS => ?_)
        have hP : va_P D vwCl (wd_X9_spoiler cI cZ cR a_t a_t_bits a_t_trade t_in t_fresh t_tradeSought t_bits_r) H := hP
        have hD : va_D A (wd_X9_spoiler cI cZ cR a_t a_t_bits a_t_trade t_in t_fresh t_tradeSought t_bits_r) := hD
        refine lv_if_ne (tgt := 39) hx hb dX9_spoiler_34 (by decide) (fun c7 => ?_) (fun c7 => ?_)
        · have hf := ineg c7 hf
          refine lv_iinc (v := (x3 + (1 : Int32))) (lv' := [(3, .int (x3 + (1 : Int32))), (0, .ref a_t), (1, .int x1), (2, .int x2)]) hx hb dX9_spoiler_39 hl (k := 3) rfl rfl (by decide) rfl (fun ls hl => ?_)
          refine lv_goto (tgt := 11) hx hb dX9_spoiler_42 (by decide) ?_
          exact ih x2 (x3 + (1 : Int32)) hf _ _ hP hD hS _ (lv_sub hl [1, 2, 3, 0] rfl)
        · have hf := ipos c7 hf
          refine lv_iload_n hx hb dX9_spoiler_37 rfl (lv_at hl 3 rfl) ?_
          cases hf
          exact reti X hK hP hD hS dX9_spoiler_38
set_option maxHeartbeats 4000000 in
set_option maxRecDepth 100000 in
theorem c_X9_spoiler (l : Launch) (D : va_G) (cI cZ cR : ClassId) {a_t a_t_bits a_t_trade : Nat} {t_in : Int32} {t_fresh : Int32} {t_tradeSought : Int32} {t_bits_r : Nat → Int32} {x1 : Int32} {sz : Nat} {out : Int32} (hf : F_X9_spoiler x1 t_in t_bits_r = some out) : CI l yX9_spoiler wsX9_spoiler ({ frames := 2, cells := 0, slots := 0, locals := 42 } : Room) D cI cZ cR [.ref a_t, .int x1] (wd_X9_spoiler cI cZ cR a_t a_t_bits a_t_trade t_in t_fresh t_tradeSought t_bits_r) sz (out) (wd_X9_spoiler cI cZ cR a_t a_t_bits a_t_trade t_in t_fresh t_tradeSought t_bits_r) := by
  refine met_of (Qf := fun A => qi D cI cZ cR A (out) (wd_X9_spoiler cI cZ cR a_t a_t_bits a_t_trade t_in t_fresh t_tradeSought t_bits_r)) RX9 (by decide +kernel) rfl rfl (Nat.le_of_ble_eq_true rfl) ?_
  intro p e s m below meth c A X hK hA hP hD hS ls hl
  have hl : lv_has ls 4 [(0, .ref a_t), (1, .int x1)] := hl
  obtain ⟨hx, hb, hml, hr, hown, hts, hlocks, hN⟩ := id X
  unfold F_X9_spoiler at hf
  refine lv_aload_n hx hb dX9_spoiler_0 rfl (lv_at hl 0 rfl) ?_
  refine va_get (D := D) (ci := 8) (v := .int t_in) (C := RX9) (T := TX9) (N := 5) hx hb hts in_X9_spoiler_X9 hown hK hP 0 rfl rfl 2 (by decide) (hts (.fieldLink RX9 24 "DivisionHall$Table" "in" "I") (by decide +kernel)) (fun _ h9 => h9) rfl dX9_spoiler_1 ?_
  refine lv_iload_n hx hb dX9_spoiler_4 rfl (lv_at hl 1 rfl) ?_
  refine lv_iconst (v := (-1 : Int32)) hx hb dX9_spoiler_5 (by decide) ?_
  refine lv_ixor hx hb dX9_spoiler_6 ?_
  refine lv_iand hx hb dX9_spoiler_7 ?_
  refine lv_istore_n (lv' := [(2, .int (t_in &&& (x1 ^^^ (-1 : Int32)))), (0, .ref a_t), (1, .int x1)]) hx hb dX9_spoiler_8 rfl hl (by decide) rfl (fun ls hl => ?_)
  refine lv_iconst (v := (0 : Int32)) hx hb dX9_spoiler_9 (by decide) ?_
  refine lv_istore_n (lv' := [(3, .int (0 : Int32)), (2, .int (t_in &&& (x1 ^^^ (-1 : Int32)))), (0, .ref a_t), (1, .int x1)]) hx hb dX9_spoiler_10 rfl hl (by decide) rfl (fun ls hl => ?_)
  exact w_X9_spoiler_11 X hK hA _ (t_in &&& (x1 ^^^ (-1 : Int32))) (0 : Int32) hf _ _ hP hD hS _ (lv_sub hl [2, 3, 1, 0] rfl)
