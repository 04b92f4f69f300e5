abbrev wd_X7_clear (cI cZ cR : ClassId) (a_t a_t_weight a_t_membersOf : Nat) (t_in t_all : Int32) (t_membersOf_r : Nat → Int32) (t_weight_r : Nat → Int32) : va_W := [(a_t, oB 7 [.ref a_t_weight, .ref a_t_membersOf, .int t_in, .int t_all]), (a_t_membersOf, aI cI 6 t_membersOf_r), (a_t_weight, aI cI 10 t_weight_r)]
set_option maxRecDepth 100000 in
theorem in_X7_clear_X7 : ∀ w ∈ wsX70, w ∈ wsX7_clear := by decide +kernel
set_option maxHeartbeats 4000000 in
set_option maxRecDepth 100000 in
theorem c_X7_clear (l : Launch) (D : va_G) (cI cZ cR : ClassId) {a_t a_t_weight a_t_membersOf : Nat} {t_in : Int32} {t_all : Int32} {t_membersOf_r : Nat → Int32} {t_weight_r : Nat → Int32} {sz : Nat} {out : Int32 × Int32 × (Nat → Int32) × (Nat → Int32)} (hf : F_X7_clear t_all t_in t_membersOf_r t_weight_r = some out) : CV l yX7_clear wsX7_clear ({ frames := 1, cells := 0, slots := 0, locals := 23 } : Room) D cI cZ cR [.ref a_t] (wd_X7_clear cI cZ cR a_t a_t_weight a_t_membersOf t_in t_all t_membersOf_r t_weight_r) sz (wd_X7_clear cI cZ cR a_t a_t_weight a_t_membersOf (out.2.1) (out.1) (out.2.2.1) (out.2.2.2)) := by
  refine met_of (Qf := fun A => qv D cI cZ cR A (wd_X7_clear cI cZ cR a_t a_t_weight a_t_membersOf (out.2.1) (out.1) (out.2.2.1) (out.2.2.2))) RX7 (by decide +kernel) rfl rfl (Nat.le_of_ble_eq_true rfl) ?_
  intro p e s m below meth c A X hK hA hP hD hS ls hl
  have hl : lv_has ls 1 [(0, .ref a_t)] := hl
  obtain ⟨hx, hb, hml, hr, hown, hts, hlocks, hN⟩ := id X
  unfold F_X7_clear at hf
  refine lv_aload_n hx hb dX7_clear_0 rfl (lv_at hl 0 rfl) ?_
  refine va_get (D := D) (ci := 7) (v := .ref a_t_weight) (C := RX7) (T := TX7) (N := 4) hx hb hts in_X7_clear_X7 hown hK hP 0 rfl rfl 0 (by decide) (hts (.fieldLink RX7 9 "DivisionHall$Seats" "weight" "[I") (by decide +kernel)) (fun _ h9 => h9) rfl dX7_clear_1 ?_
  refine lv_iconst (v := (0 : Int32)) hx hb dX7_clear_4 (by decide) ?_
  obtain ⟨r1, hr2, hf⟩ := bnd hf
  refine wcallv (D := D) (cI := cI) (cZ := cZ) (cR := cR) (wc := (wd_J7_fill_53178 cI cZ cR a_t_weight 10 t_weight_r)) (w' := (wd_J7_fill_53178 cI cZ cR a_t_weight 10 r1)) [2] hP hD hS hA rfl rfl rfl (rnS (As := [.ref a_t_weight, .int (0 : Int32)]) X [2] hK hP hD rfl rfl (c_J7_fill_53178 l D cI cZ cR hr2) ⟨callB_of 2 hts ggX7_clear_J7_fill_53178 rfl rfl rfl (hts (.initialized RJ7) (by decide +kernel)) (hts (.methodLink RX7 18 yJ7_fill_53178) (by decide +kernel)) (by decide +kernel) ⟨Nat.le_of_ble_eq_true rfl, Nat.le_of_ble_eq_true rfl⟩, hts (.static yJ7_fill_53178) (by decide +kernel)⟩ rfl hl.1 rfl (Nat.le_of_ble_eq_true rfl) dX7_clear_5) (fun H locs hP hD hS => ?_)
  have hP : va_P D vwCl (wd_X7_clear cI cZ cR a_t a_t_weight a_t_membersOf t_in t_all t_membersOf_r r1) H := hP
  have hD : va_D A (wd_X7_clear cI cZ cR a_t a_t_weight a_t_membersOf t_in t_all t_membersOf_r r1) := hD
  refine lv_aload_n hx hb dX7_clear_8 rfl (lv_at hl 0 rfl) ?_
  refine va_get (D := D) (ci := 7) (v := .ref a_t_membersOf) (C := RX7) (T := TX7) (N := 4) hx hb hts in_X7_clear_X7 hown hK hP 0 rfl rfl 1 (by decide) (hts (.fieldLink RX7 15 "DivisionHall$Seats" "membersOf" "[I") (by decide +kernel)) (fun _ h9 => h9) rfl dX7_clear_9 ?_
  refine lv_iconst (v := (0 : Int32)) hx hb dX7_clear_12 (by decide) ?_
  obtain ⟨r3, hr4, hf⟩ := bnd hf
  refine wcallv (D := D) (cI := cI) (cZ := cZ) (cR := cR) (wc := (wd_J7_fill_53178 cI cZ cR a_t_membersOf 6 t_membersOf_r)) (w' := (wd_J7_fill_53178 cI cZ cR a_t_membersOf 6 r3)) [1] hP hD hS hA rfl rfl rfl (rnS (As := [.ref a_t_membersOf, .int (0 : Int32)]) X [1] hK hP hD rfl rfl (c_J7_fill_53178 l D cI cZ cR hr4) ⟨callB_of 2 hts ggX7_clear_J7_fill_53178 rfl rfl rfl (hts (.initialized RJ7) (by decide +kernel)) (hts (.methodLink RX7 18 yJ7_fill_53178) (by decide +kernel)) (by decide +kernel) ⟨Nat.le_of_ble_eq_true rfl, Nat.le_of_ble_eq_true rfl⟩, hts (.static yJ7_fill_53178) (by decide +kernel)⟩ rfl hl.1 rfl (Nat.le_of_ble_eq_true rfl) dX7_clear_13) (fun H locs hP hD hS => ?_)
  have hP : va_P D vwCl (wd_X7_clear cI cZ cR a_t a_t_weight a_t_membersOf t_in t_all r3 r1) H := hP
  have hD : va_D A (wd_X7_clear cI cZ cR a_t a_t_weight a_t_membersOf t_in t_all r3 r1) := hD
  refine lv_aload_n hx hb dX7_clear_16 rfl (lv_at hl 0 rfl) ?_
  refine lv_iconst (v := (0 : Int32)) hx hb dX7_clear_17 (by decide) ?_
  refine va_put (D := D) (ci := 7) (v := .int (0 : Int32)) (ty := .int) (C := RX7) (T := TX7) (N := 4) hx hb hts in_X7_clear_X7 tyX7 tyX7_ok nmX7 hown hK hP hD hS 0 rfl rfl 2 (by decide) (hts (.fieldLink RX7 24 "DivisionHall$Seats" "in" "I") (by decide +kernel)) (fun _ h9 => h9) rfl (by decide +kernel) rfl rfl (Nat.le_of_ble_eq_true rfl) dX7_clear_18 (fun H locs hP hD hS => ?_)
  have hP : va_P D vwCl (wd_X7_clear cI cZ cR a_t a_t_weight a_t_membersOf (0 : Int32) t_all r3 r1) H := hP
  have hD : va_D A (wd_X7_clear cI cZ cR a_t a_t_weight a_t_membersOf (0 : Int32) t_all r3 r1) := hD
  refine lv_aload_n hx hb dX7_clear_21 rfl (lv_at hl 0 rfl) ?_
  refine lv_iconst (v := (0 : Int32)) hx hb dX7_clear_22 (by decide) ?_
  refine va_put (D := D) (ci := 7) (v := .int (0 : Int32)) (ty := .int) (C := RX7) (T := TX7) (N := 4) hx hb hts in_X7_clear_X7 tyX7 tyX7_ok nmX7 hown hK hP hD hS 0 rfl rfl 3 (by decide) (hts (.fieldLink RX7 28 "DivisionHall$Seats" "all" "I") (by decide +kernel)) (fun _ h9 => h9) rfl (by decide +kernel) rfl rfl (Nat.le_of_ble_eq_true rfl) dX7_clear_23 (fun H locs hP hD hS => ?_)
  have hP : va_P D vwCl (wd_X7_clear cI cZ cR a_t a_t_weight a_t_membersOf (0 : Int32) (0 : Int32) r3 r1) H := hP
  have hD : va_D A (wd_X7_clear cI cZ cR a_t a_t_weight a_t_membersOf (0 : Int32) (0 : Int32) r3 r1) := hD
  cases hf
  exact retv X hK hP hD hS dX7_clear_26

abbrev wd_X7_put (cI cZ cR : ClassId) (a_t a_t_weight a_t_membersOf : Nat) (t_in t_all : Int32) (t_membersOf_r : Nat → Int32) (t_weight_r : Nat → Int32) : va_W := [(a_t, oB 7 [.ref a_t_weight, .ref a_t_membersOf, .int t_in, .int t_all]), (a_t_membersOf, aI cI 6 t_membersOf_r), (a_t_weight, aI cI 10 t_weight_r)]
set_option maxRecDepth 100000 in
theorem in_X7_put_X7 : ∀ w ∈ wsX70, w ∈ wsX7_put := by decide +kernel
set_option maxHeartbeats 4000000 in
set_option maxRecDepth 100000 in
theorem c_X7_put (l : Launch) (D : va_G) (cI cZ cR : ClassId) {a_t a_t_weight a_t_membersOf : Nat} {t_in : Int32} {t_all : Int32} {t_membersOf_r : Nat → Int32} {t_weight_r : Nat → Int32} {x1 : Int32} {x2 : Int32} {x3 : Int32} {sz : Nat} {out : Int32 × Int32 × (Nat → Int32) × (Nat → Int32)} (hf : F_X7_put x1 x2 x3 t_all t_in t_membersOf_r t_weight_r = some out) : CV l yX7_put wsX7_put ({ frames := 1, cells := 0, slots := 0, locals := 21 } : Room) D cI cZ cR [.ref a_t, .int x1, .int x2, .int x3] (wd_X7_put cI cZ cR a_t a_t_weight a_t_membersOf t_in t_all t_membersOf_r t_weight_r) sz (wd_X7_put cI cZ cR a_t a_t_weight a_t_membersOf (out.2.1) (out.1) (out.2.2.1) (out.2.2.2)) := by
  refine met_of (Qf := fun A => qv D cI cZ cR A (wd_X7_put cI cZ cR a_t a_t_weight a_t_membersOf (out.2.1) (out.1) (out.2.2.1) (out.2.2.2))) RX7 (by decide +kernel) rfl rfl (Nat.le_of_ble_eq_true rfl) ?_
  intro p e s m below meth c A X hK hA hP hD hS ls hl
  have hl : lv_has ls 4 [(0, .ref a_t), (1, .int x1), (2, .int x2), (3, .int x3)] := hl
  obtain ⟨hx, hb, hml, hr, hown, hts, hlocks, hN⟩ := id X
  unfold F_X7_put at hf
  refine lv_iload_n hx hb dX7_put_0 rfl (lv_at hl 1 rfl) ?_
  refine lv_bipush (v := (10 : Int32)) hx hb dX7_put_1 (by decide) ?_
  obtain ⟨r1, hr2, hf⟩ := bnd hf
  refine wcalli (D := D) (cI := cI) (cZ := cZ) (cR := cR) (wc := (wd_X11_inside cI cZ cR)) (w' := (wd_X11_inside cI cZ cR)) [] hP hD hS hA rfl rfl rfl (rnSN (As := [.int x1, .int (10 : Int32)]) X [] hK hP hD rfl rfl (c_X11_inside l D cI cZ cR hr2) ⟨va_cnB (host := "DivisionHall") 2 hts ggX7_put_X11_inside rfl rfl rfl (hN.2.1 ("DivisionHall$Seats", 31, yX11_inside, "DivisionHall") (by decide +kernel)) (hts (.initialized RX11) (by decide +kernel)) (by decide +kernel) ⟨Nat.le_of_ble_eq_true rfl, Nat.le_of_ble_eq_true rfl⟩, hts (.static yX11_inside) (by decide +kernel), trivial⟩ rfl hl.1 rfl (Nat.le_of_ble_eq_true rfl) dX7_put_3) (fun H locs hP hD hS => ?_)
  have hP : va_P D vwCl (wd_X7_put cI cZ cR a_t a_t_weight a_t_membersOf t_in t_all t_membersOf_r t_weight_r) H := hP
  have hD : va_D A (wd_X7_put cI cZ cR a_t a_t_weight a_t_membersOf t_in t_all t_membersOf_r t_weight_r) := hD
  refine lv_if_eq (tgt := 59) hx hb dX7_put_6 (by decide) (fun c3 => ?_) (fun c3 => ?_)
  · have hf := ipos c3 hf
    cases hf
    exact retv X hK hP hD hS dX7_put_59
  · have hf := ineg c3 hf
    refine lv_iload_n hx hb dX7_put_9 rfl (lv_at hl 3 rfl) ?_
    refine lv_bipush (v := (6 : Int32)) hx hb dX7_put_10 (by decide) ?_
    obtain ⟨r4, hr5, hf⟩ := bnd hf
    refine wcalli (D := D) (cI := cI) (cZ := cZ) (cR := cR) (wc := (wd_X11_inside cI cZ cR)) (w' := (wd_X11_inside cI cZ cR)) [] hP hD hS hA rfl rfl rfl (rnSN (As := [.int x3, .int (6 : Int32)]) X [] hK hP hD rfl rfl (c_X11_inside l D cI cZ cR hr5) ⟨va_cnB (host := "DivisionHall") 2 hts ggX7_put_X11_inside rfl rfl rfl (hN.2.1 ("DivisionHall$Seats", 31, yX11_inside, "DivisionHall") (by decide +kernel)) (hts (.initialized RX11) (by decide +kernel)) (by decide +kernel) ⟨Nat.le_of_ble_eq_true rfl, Nat.le_of_ble_eq_true rfl⟩, hts (.static yX11_inside) (by decide +kernel), trivial⟩ rfl hl.1 rfl (Nat.le_of_ble_eq_true rfl) dX7_put_12) (fun H locs hP hD hS => ?_)
    have hP : va_P D vwCl (wd_X7_put cI cZ cR a_t a_t_weight a_t_membersOf t_in t_all t_membersOf_r t_weight_r) H := hP
    have hD : va_D A (wd_X7_put cI cZ cR a_t a_t_weight a_t_membersOf t_in t_all t_membersOf_r t_weight_r) := hD
    refine lv_if_eq (tgt := 59) hx hb dX7_put_15 (by decide) (fun c6 => ?_) (fun c6 => ?_)
    · have hf := ipos c6 hf
      cases hf
      exact retv X hK hP hD hS dX7_put_59
    · have hf := ineg c6 hf
      refine lv_aload_n hx hb dX7_put_18 rfl (lv_at hl 0 rfl) ?_
      refine va_get (D := D) (ci := 7) (v := .ref a_t_weight) (C := RX7) (T := TX7) (N := 4) hx hb hts in_X7_put_X7 hown hK hP 0 rfl rfl 0 (by decide) (hts (.fieldLink RX7 9 "DivisionHall$Seats" "weight" "[I") (by decide +kernel)) (fun _ h9 => h9) rfl dX7_put_19 ?_
      refine lv_iload_n hx hb dX7_put_22 rfl (lv_at hl 1 rfl) ?_
      refine lv_iload_n hx hb dX7_put_23 rfl (lv_at hl 2 rfl) ?_
      obtain ⟨hi7, hf⟩ := gin_s hf
      refine va_iast hx hb hK hP hD hS 2 0 rfl rfl hi7 dX7_put_24 (fun H locs hP hD hS => ?_)
      have hP : va_P D vwCl (wd_X7_put cI cZ cR a_t a_t_weight a_t_membersOf t_in t_all t_membersOf_r (upd t_weight_r (x1).toNatClampNeg x2)) H := hP
      have hD : va_D A (wd_X7_put cI cZ cR a_t a_t_weight a_t_membersOf t_in t_all t_membersOf_r (upd t_weight_r (x1).toNatClampNeg x2)) := hD
      refine lv_aload_n hx hb dX7_put_25 rfl (lv_at hl 0 rfl) ?_
      refine va_get (D := D) (ci := 7) (v := .ref a_t_membersOf) (C := RX7) (T := TX7) (N := 4) hx hb hts in_X7_put_X7 hown hK hP 0 rfl rfl 1 (by decide) (hts (.fieldLink RX7 15 "DivisionHall$Seats" "membersOf" "[I") (by decide +kernel)) (fun _ h9 => h9) rfl dX7_put_26 ?_
      refine lv_iload_n hx hb dX7_put_29 rfl (lv_at hl 3 rfl) ?_
      refine lv_dup2_11 hx hb dX7_put_30 rfl rfl ?_
      obtain ⟨hi8, hf⟩ := gin_s hf
      refine va_iald hx hb hK hP 1 0 rfl rfl hi8 dX7_put_31 ?_
      refine lv_iconst (v := (1 : Int32)) hx hb dX7_put_32 (by decide) ?_
      refine lv_iload_n hx hb dX7_put_33 rfl (lv_at hl 1 rfl) ?_
      refine lv_ishl hx hb dX7_put_34 ?_
      refine lv_ior hx hb dX7_put_35 ?_
      obtain ⟨hi9, hf⟩ := gin_s hf
      refine va_iast hx hb hK hP hD hS 1 0 rfl rfl hi9 dX7_put_36 (fun H locs hP hD hS => ?_)
      have hP : va_P D vwCl (wd_X7_put cI cZ cR a_t a_t_weight a_t_membersOf t_in t_all (upd t_membersOf_r (x3).toNatClampNeg ((t_membersOf_r (x3).toNatClampNeg) ||| ((1 : Int32) <<< (x1 &&& 31)))) (upd t_weight_r (x1).toNatClampNeg x2)) H := hP
      have hD : va_D A (wd_X7_put cI cZ cR a_t a_t_weight a_t_membersOf t_in t_all (upd t_membersOf_r (x3).toNatClampNeg ((t_membersOf_r (x3).toNatClampNeg) ||| ((1 : Int32) <<< (x1 &&& 31)))) (upd t_weight_r (x1).toNatClampNeg x2)) := hD
      refine lv_aload_n hx hb dX7_put_37 rfl (lv_at hl 0 rfl) ?_
      refine lv_dup hx hb dX7_put_38 rfl ?_
      refine va_get (D := D) (ci := 7) (v := .int t_in) (C := RX7) (T := TX7) (N := 4) hx hb hts in_X7_put_X7 hown hK hP 0 rfl rfl 2 (by decide) (hts (.fieldLink RX7 24 "DivisionHall$Seats" "in" "I") (by decide +kernel)) (fun _ h9 => h9) rfl dX7_put_39 ?_
      refine lv_iconst (v := (1 : Int32)) hx hb dX7_put_42 (by decide) ?_
      refine lv_iload_n hx hb dX7_put_43 rfl (lv_at hl 1 rfl) ?_
      refine lv_ishl hx hb dX7_put_44 ?_
      refine lv_ior hx hb dX7_put_45 ?_
      refine va_put (D := D) (ci := 7) (v := .int (t_in ||| ((1 : Int32) <<< (x1 &&& 31)))) (ty := .int) (C := RX7) (T := TX7) (N := 4) hx hb hts in_X7_put_X7 tyX7 tyX7_ok nmX7 hown hK hP hD hS 0 rfl rfl 2 (by decide) (hts (.fieldLink RX7 24 "DivisionHall$Seats" "in" "I") (by decide +kernel)) (fun _ h9 => h9) rfl (by decide +kernel) rfl rfl (Nat.le_of_ble_eq_true rfl) dX7_put_46 (fun H locs hP hD hS => ?_)
      have hP : va_P D vwCl (wd_X7_put cI cZ cR a_t a_t_weight a_t_membersOf (t_in ||| ((1 : Int32) <<< (x1 &&& 31))) t_all (upd t_membersOf_r (x3).toNatClampNeg ((t_membersOf_r (x3).toNatClampNeg) ||| ((1 : Int32) <<< (x1 &&& 31)))) (upd t_weight_r (x1).toNatClampNeg x2)) H := hP
      have hD : va_D A (wd_X7_put cI cZ cR a_t a_t_weight a_t_membersOf (t_in ||| ((1 : Int32) <<< (x1 &&& 31))) t_all (upd t_membersOf_r (x3).toNatClampNeg ((t_membersOf_r (x3).toNatClampNeg) ||| ((1 : Int32) <<< (x1 &&& 31)))) (upd t_weight_r (x1).toNatClampNeg x2)) := hD
      refine lv_aload_n hx hb dX7_put_49 rfl (lv_at hl 0 rfl) ?_
      refine lv_dup hx hb dX7_put_50 rfl ?_
      refine va_get (D := D) (ci := 7) (v := .int t_all) (C := RX7) (T := TX7) (N := 4) hx hb hts in_X7_put_X7 hown hK hP 0 rfl rfl 3 (by decide) (hts (.fieldLink RX7 28 "DivisionHall$Seats" "all" "I") (by decide +kernel)) (fun _ h9 => h9) rfl dX7_put_51 ?_
      refine lv_iload_n hx hb dX7_put_54 rfl (lv_at hl 2 rfl) ?_
      refine lv_iadd hx hb dX7_put_55 ?_
      refine va_put (D := D) (ci := 7) (v := .int (t_all + x2)) (ty := .int) (C := RX7) (T := TX7) (N := 4) hx hb hts in_X7_put_X7 tyX7 tyX7_ok nmX7 hown hK hP hD hS 0 rfl rfl 3 (by decide) (hts (.fieldLink RX7 28 "DivisionHall$Seats" "all" "I") (by decide +kernel)) (fun _ h9 => h9) rfl (by decide +kernel) rfl rfl (Nat.le_of_ble_eq_true rfl) dX7_put_56 (fun H locs hP hD hS => ?_)
      have hP : va_P D vwCl (wd_X7_put cI cZ cR a_t a_t_weight a_t_membersOf (t_in ||| ((1 : Int32) <<< (x1 &&& 31))) (t_all + x2) (upd t_membersOf_r (x3).toNatClampNeg ((t_membersOf_r (x3).toNatClampNeg) ||| ((1 : Int32) <<< (x1 &&& 31)))) (upd t_weight_r (x1).toNatClampNeg x2)) H := hP
      have hD : va_D A (wd_X7_put cI cZ cR a_t a_t_weight a_t_membersOf (t_in ||| ((1 : Int32) <<< (x1 &&& 31))) (t_all + x2) (upd t_membersOf_r (x3).toNatClampNeg ((t_membersOf_r (x3).toNatClampNeg) ||| ((1 : Int32) <<< (x1 &&& 31)))) (upd t_weight_r (x1).toNatClampNeg x2)) := hD
      cases hf
      exact retv X hK hP hD hS dX7_put_59

abbrev wd_X7_ofBloc (cI cZ cR : ClassId) (a_t a_t_weight a_t_membersOf : Nat) (t_in t_all : Int32) (t_membersOf_r : Nat → Int32) : va_W := [(a_t, oB 7 [.ref a_t_weight, .ref a_t_membersOf, .int t_in, .int t_all]), (a_t_membersOf, aI cI 6 t_membersOf_r)]
set_option maxRecDepth 100000 in
theorem in_X7_ofBloc_X7 : ∀ w ∈ wsX70, w ∈ wsX7_ofBloc := by decide +kernel
set_option maxHeartbeats 4000000 in
set_option maxRecDepth 100000 in
theorem c_X7_ofBloc (l : Launch) (D : va_G) (cI cZ cR : ClassId) {a_t a_t_weight a_t_membersOf : Nat} {t_in : Int32} {t_all : Int32} {t_membersOf_r : Nat → Int32} {x1 : Int32} {sz : Nat} {out : Int32} (hf : F_X7_ofBloc x1 t_membersOf_r = some out) : CI l yX7_ofBloc wsX7_ofBloc ({ frames := 0, cells := 0, slots := 0, locals := 0 } : Room) D cI cZ cR [.ref a_t, .int x1] (wd_X7_ofBloc cI cZ cR a_t a_t_weight a_t_membersOf t_in t_all t_membersOf_r) sz (out) (wd_X7_ofBloc cI cZ cR a_t a_t_weight a_t_membersOf t_in t_all t_membersOf_r) := by
  refine met_of (Qf := fun A => qi D cI cZ cR A (out) (wd_X7_ofBloc cI cZ cR a_t a_t_weight a_t_membersOf t_in t_all t_membersOf_r)) RX7 (by decide +kernel) rfl rfl (Nat.le_of_ble_eq_true rfl) ?_
  intro p e s m below meth c A X hK hA hP hD hS ls hl
  have hl : lv_has ls 2 [(0, .ref a_t), (1, .int x1)] := hl
  obtain ⟨hx, hb, hml, hr, hown, hts, hlocks, hN⟩ := id X
  unfold F_X7_ofBloc at hf
  refine lv_iload_n hx hb dX7_ofBloc_0 rfl (lv_at hl 1 rfl) ?_
  refine lv_if_lt (tgt := 19) hx hb dX7_ofBloc_1 (by decide) (fun c1 => ?_) (fun c1 => ?_)
  · have hf := ipos c1 hf
    refine lv_iconst (v := (0 : Int32)) hx hb dX7_ofBloc_19 (by decide) ?_
    cases hf
    exact reti X hK hP hD hS dX7_ofBloc_20
  · have hf := ineg c1 hf
    refine lv_iload_n hx hb dX7_ofBloc_4 rfl (lv_at hl 1 rfl) ?_
    refine lv_bipush (v := (6 : Int32)) hx hb dX7_ofBloc_5 (by decide) ?_
    refine lv_icmp_ge (tgt := 19) hx hb dX7_ofBloc_7 (by decide) (fun c2 => ?_) (fun c2 => ?_)
    · have hf := ipos c2 hf
      refine lv_iconst (v := (0 : Int32)) hx hb dX7_ofBloc_19 (by decide) ?_
      cases hf
      exact reti X hK hP hD hS dX7_ofBloc_20
    · have hf := ineg c2 hf
      refine lv_aload_n hx hb dX7_ofBloc_10 rfl (lv_at hl 0 rfl) ?_
      refine va_get (D := D) (ci := 7) (v := .ref a_t_membersOf) (C := RX7) (T := TX7) (N := 4) hx hb hts in_X7_ofBloc_X7 hown hK hP 0 rfl rfl 1 (by decide) (hts (.fieldLink RX7 15 "DivisionHall$Seats" "membersOf" "[I") (by decide +kernel)) (fun _ h9 => h9) rfl dX7_ofBloc_11 ?_
      refine lv_iload_n hx hb dX7_ofBloc_14 rfl (lv_at hl 1 rfl) ?_
      obtain ⟨hi3, hf⟩ := gin_s hf
      refine va_iald hx hb hK hP 1 0 rfl rfl hi3 dX7_ofBloc_15 ?_
      refine lv_goto (tgt := 20) hx hb dX7_ofBloc_16 (by decide) ?_
      cases hf
      exact reti X hK hP hD hS dX7_ofBloc_20

abbrev wd_X7_blocOf (cI cZ cR : ClassId) (a_t a_t_weight a_t_membersOf : Nat) (t_in t_all : Int32) (t_membersOf_r : Nat → Int32) : va_W := [(a_t, oB 7 [.ref a_t_weight, .ref a_t_membersOf, .int t_in, .int t_all]), (a_t_membersOf, aI cI 6 t_membersOf_r)]
set_option maxRecDepth 100000 in
theorem in_X7_blocOf_X7 : ∀ w ∈ wsX70, w ∈ wsX7_blocOf := by decide +kernel
set_option maxHeartbeats 4000000 in
set_option maxRecDepth 100000 in
theorem w_X7_blocOf_2 {p : Program} {l : Launch} {e : Env} {s : State} {m : MethodId} {args : Array Value} {below : List Frame} {meth : Method} {c : Code} {D : va_G} {cI cZ cR : ClassId} {A : Nat → Prop} {a_t a_t_weight a_t_membersOf : Nat} {t_in : Int32} {t_all : Int32} {t_membersOf_r : Nat → Int32} {x1 : Int32} {out : Int32} (X : cx p s m args meth c cX7_blocOf 3 (some .int) RX7 wsX7_blocOf) (hK : va_K D vwCl (ty3 cI cZ cR) s) (hA : ∀ q, s.heap.size ≤ q → A q) : ∀ (n : Nat) (x2 : Int32), F_X7_blocOf_2 x1 t_membersOf_r n x2 = some out → ∀ (H : Heap) (locs : List Loc), va_P D vwCl (wd_X7_blocOf cI cZ cR a_t a_t_weight a_t_membersOf t_in t_all t_membersOf_r) H → va_D A (wd_X7_blocOf cI cZ cR a_t a_t_weight a_t_membersOf t_in t_all t_membersOf_r) → va_S A s.heap H locs → ∀ (ls : Array Slot), lv_has ls 3 [(0, .ref a_t), (1, .int x1), (2, .int x2)] → W p l e (headSpec wsX7_blocOf ({ frames := 1, cells := 0, slots := 0, locals := 21 } : Room)).room s m args below meth c H locs 0 0 (MQ below (qi D cI cZ cR A (out) (wd_X7_blocOf cI cZ cR a_t a_t_weight a_t_membersOf t_in t_all t_membersOf_r)) args s 0 0 A) (F0 m 2 ls []) := by
  obtain ⟨hx, hb, hml, hr, hown, hts, hlocks, hN⟩ := id X
  intro n
  induction n with
  | zero =>
    intro x2 hf
    cases (show (none : Option (Int32)) = some out from hf)
  | succ n ih =>
    intro x2 hf H locs hP hD hS ls hl
    rw [F_X7_blocOf_2] at hf
    refine lv_iload_n hx hb dX7_blocOf_2 rfl (lv_at hl 2 rfl) ?_
    refine lv_bipush (v := (6 : Int32)) hx hb dX7_blocOf_3 (by decide) ?_
    refine lv_icmp_ge (tgt := 29) hx hb dX7_blocOf_5 (by decide) (fun c1 => ?_) (fun c1 => ?_)
    · have hf := ipos c1 hf
      refine lv_iconst (v := (-1 : Int32)) hx hb dX7_blocOf_29 (by decide) ?_
      cases hf
      exact reti X hK hP hD hS dX7_blocOf_30
    · have hf := ineg c1 hf
      refine lv_aload_n hx hb dX7_blocOf_8 rfl (lv_at hl 0 rfl) ?_
      refine va_get (D := D) (ci := 7) (v := .ref a_t_membersOf) (C := RX7) (T := TX7) (N := 4) hx hb hts in_X7_blocOf_X7 hown hK hP 0 rfl rfl 1 (by decide) (hts (.fieldLink RX7 15 "DivisionHall$Seats" "membersOf" "[I") (by decide +kernel)) (fun _ h9 => h9) rfl dX7_blocOf_9 ?_
      refine lv_iload_n hx hb dX7_blocOf_12 rfl (lv_at hl 2 rfl) ?_
      obtain ⟨hi2, hf⟩ := gin_s hf
      refine va_iald hx hb hK hP 1 0 rfl rfl hi2 dX7_blocOf_13 ?_
      refine lv_iload_n hx hb dX7_blocOf_14 rfl (lv_at hl 1 rfl) ?_
      obtain ⟨r3, hr4, hf⟩ := bnd hf
      refine wcalli (D := D) (cI := cI) (cZ := cZ) (cR := cR) (wc := (wd_X11_has cI cZ cR)) (w' := (wd_X11_has cI cZ cR)) [] hP hD hS hA rfl rfl rfl (rnSN (As := [.int (t_membersOf_r (x2).toNatClampNeg), .int x1]) X [] hK hP hD rfl rfl (c_X11_has l D cI cZ cR hr4) ⟨va_cnB (host := "DivisionHall") 2 hts ggX7_blocOf_X11_has rfl rfl rfl (hN.2.1 ("DivisionHall$Seats", 35, yX11_has, "DivisionHall") (by decide +kernel)) (hts (.initialized RX11) (by decide +kernel)) (by decide +kernel) ⟨Nat.le_of_ble_eq_true rfl, Nat.le_of_ble_eq_true rfl⟩, hts (.static yX11_has) (by decide +kernel), trivial⟩ rfl hl.1 rfl (Nat.le_of_ble_eq_true rfl) dX7_blocOf_15) (fun H locs hP hD hS => ?_)
      have hP : va_P D vwCl (wd_X7_blocOf cI cZ cR a_t a_t_weight a_t_membersOf t_in t_all t_membersOf_r) H := hP
      have hD : va_D A (wd_X7_blocOf cI cZ cR a_t a_t_weight a_t_membersOf t_in t_all t_membersOf_r) := hD
      refine lv_if_eq (tgt := 23) hx hb dX7_blocOf_18 (by decide) (fun c5 => ?_) (fun c5 => ?_)
      · have hf := ipos c5 hf
        refine lv_iinc (v := (x2 + (1 : Int32))) (lv' := [(2, .int (x2 + (1 : Int32))), (0, .ref a_t), (1, .int x1)]) hx hb dX7_blocOf_23 hl (k := 2) rfl rfl (by decide) rfl (fun ls hl => ?_)
        refine lv_goto (tgt := 2) hx hb dX7_blocOf_26 (by decide) ?_
        exact ih (x2 + (1 : Int32)) hf _ _ hP hD hS _ (lv_sub hl [1, 2, 0] rfl)
      · have hf := ineg c5 hf
        refine lv_iload_n hx hb dX7_blocOf_21 rfl (lv_at hl 2 rfl) ?_
        cases hf
        exact reti X hK hP hD hS dX7_blocOf_22
set_option maxHeartbeats 4000000 in
set_option maxRecDepth 100000 in
theorem c_X7_blocOf (l : Launch) (D : va_G) (cI cZ cR : ClassId) {a_t a_t_weight a_t_membersOf : Nat} {t_in : Int32} {t_all : Int32} {t_membersOf_r : Nat → Int32} {x1 : Int32} {sz : Nat} {out : Int32} (hf : F_X7_blocOf x1 t_membersOf_r = some out) : CI l yX7_blocOf wsX7_blocOf ({ frames := 1, cells := 0, slots := 0, locals := 21 } : Room) D cI cZ cR [.ref a_t, .int x1] (wd_X7_blocOf cI cZ cR a_t a_t_weight a_t_membersOf t_in t_all t_membersOf_r) sz (out) (wd_X7_blocOf cI cZ cR a_t a_t_weight a_t_membersOf t_in t_all t_membersOf_r) := by
  refine met_of (Qf := fun A => qi D cI cZ cR A (out) (wd_X7_blocOf cI cZ cR a_t a_t_weight a_t_membersOf t_in t_all t_membersOf_r)) RX7 (by decide +kernel) rfl rfl (Nat.le_of_ble_eq_true rfl) ?_
  intro p e s m below meth c A X hK hA hP hD hS ls hl
  have hl : lv_has ls 3 [(0, .ref a_t), (1, .int x1)] := hl
  obtain ⟨hx, hb, hml, hr, hown, hts, hlocks, hN⟩ := id X
  unfold F_X7_blocOf at hf
  refine lv_iconst (v := (0 : Int32)) hx hb dX7_blocOf_0 (by decide) ?_
  refine lv_istore_n (lv' := [(2, .int (0 : Int32)), (0, .ref a_t), (1, .int x1)]) hx hb dX7_blocOf_1 rfl hl (by decide) rfl (fun ls hl => ?_)
  exact w_X7_blocOf_2 X hK hA _ (0 : Int32) hf _ _ hP hD hS _ (lv_sub hl [1, 2, 0] rfl)

abbrev wd_X7_blocs (cI cZ cR : ClassId) (a_t a_t_weight a_t_membersOf : Nat) (t_in t_all : Int32) (t_membersOf_r : Nat → Int32) : va_W := [(a_t, oB 7 [.ref a_t_weight, .ref a_t_membersOf, .int t_in, .int t_all]), (a_t_membersOf, aI cI 6 t_membersOf_r)]
set_option maxRecDepth 100000 in
theorem in_X7_blocs_X7 : ∀ w ∈ wsX70, w ∈ wsX7_blocs := by decide +kernel
set_option maxHeartbeats 4000000 in
set_option maxRecDepth 100000 in
theorem w_X7_blocs_4 {p : Program} {l : Launch} {e : Env} {s : State} {m : MethodId} {args : Array Value} {below : List Frame} {meth : Method} {c : Code} {D : va_G} {cI cZ cR : ClassId} {A : Nat → Prop} {a_t a_t_weight a_t_membersOf : Nat} {t_in : Int32} {t_all : Int32} {t_membersOf_r : Nat → Int32} {out : Int32} (X : cx p s m args meth c cX7_blocs 3 (some .int) RX7 wsX7_blocs) (hK : va_K D vwCl (ty3 cI cZ cR) s) (hA : ∀ q, s.heap.size ≤ q → A q) : ∀ (n : Nat) (x1 : Int32) (x2 : Int32), F_X7_blocs_4 t_membersOf_r n x1 x2 = some out → ∀ (H : Heap) (locs : List Loc), va_P D vwCl (wd_X7_blocs cI cZ cR a_t a_t_weight a_t_membersOf t_in t_all t_membersOf_r) H → va_D A (wd_X7_blocs cI cZ cR a_t a_t_weight a_t_membersOf t_in t_all t_membersOf_r) → va_S A s.heap H locs → ∀ (ls : Array Slot), lv_has ls 3 [(0, .ref a_t), (1, .int x1), (2, .int x2)] → W p l e (headSpec wsX7_blocs ({ frames := 0, cells := 0, slots := 0, locals := 0 } : Room)).room s m args below meth c H locs 0 0 (MQ below (qi D cI cZ cR A (out) (wd_X7_blocs cI cZ cR a_t a_t_weight a_t_membersOf t_in t_all t_membersOf_r)) args s 0 0 A) (F0 m 4 ls []) := by
  obtain ⟨hx, hb, hml, hr, hown, hts, hlocks, hN⟩ := id X
  intro n
  induction n with
  | zero =>
    intro x1 x2 hf
    cases (show (none : Option (Int32)) = some out from hf)
  | succ n ih =>
    intro x1 x2 hf H locs hP hD hS ls hl
    rw [F_X7_blocs_4] at hf
    refine lv_iload_n hx hb dX7_blocs_4 rfl (lv_at hl 2 rfl) ?_
    refine lv_bipush (v := (6 : Int32)) hx hb dX7_blocs_5 (by decide) ?_
    refine lv_icmp_ge (tgt := 31) hx hb dX7_blocs_7 (by decide) (fun c1 => ?_) (fun c1 => ?_)
    · have hf := ipos c1 hf
      refine lv_iload_n hx hb dX7_blocs_31 rfl (lv_at hl 1 rfl) ?_
      cases hf
      exact reti X hK hP hD hS dX7_blocs_32
    · have hf := ineg c1 hf
      refine lv_aload_n hx hb dX7_blocs_10 rfl (lv_at hl 0 rfl) ?_
      refine va_get (D := D) (ci := 7) (v := .ref a_t_membersOf) (C := RX7) (T := TX7) (N := 4) hx hb hts in_X7_blocs_X7 hown hK hP 0 rfl rfl 1 (by decide) (hts (.fieldLink RX7 15 "DivisionHall$Seats" "membersOf" "[I") (by decide +kernel)) (fun _ h9 => h9) rfl dX7_blocs_11 ?_
      refine lv_iload_n hx hb dX7_blocs_14 rfl (lv_at hl 2 rfl) ?_
      obtain ⟨hi2, hf⟩ := gin_s hf
      refine va_iald hx hb hK hP 1 0 rfl rfl hi2 dX7_blocs_15 ?_
      refine lv_if_eq (tgt := 25) hx hb dX7_blocs_16 (by decide) (fun c3 => ?_) (fun c3 => ?_)
      · have hf := ipos c3 hf
        refine lv_iinc (v := (x2 + (1 : Int32))) (lv' := [(2, .int (x2 + (1 : Int32))), (0, .ref a_t), (1, .int x1)]) hx hb dX7_blocs_25 hl (k := 2) rfl rfl (by decide) rfl (fun ls hl => ?_)
        refine lv_goto (tgt := 4) hx hb dX7_blocs_28 (by decide) ?_
        exact ih x1 (x2 + (1 : Int32)) hf _ _ hP hD hS _ (lv_sub hl [1, 2, 0] rfl)
      · have hf := ineg c3 hf
        refine lv_iload_n hx hb dX7_blocs_19 rfl (lv_at hl 1 rfl) ?_
        refine lv_iconst (v := (1 : Int32)) hx hb dX7_blocs_20 (by decide) ?_
        refine lv_iload_n hx hb dX7_blocs_21 rfl (lv_at hl 2 rfl) ?_
        refine lv_ishl hx hb dX7_blocs_22 ?_
        refine lv_ior hx hb dX7_blocs_23 ?_
        refine lv_istore_n (lv' := [(1, .int (x1 ||| ((1 : Int32) <<< (x2 &&& 31)))), (0, .ref a_t), (2, .int x2)]) hx hb dX7_blocs_24 rfl hl (by decide) rfl (fun ls hl => ?_)
        refine lv_iinc (v := (x2 + (1 : Int32))) (lv' := [(2, .int (x2 + (1 : Int32))), (1, .int (x1 ||| ((1 : Int32) <<< (x2 &&& 31)))), (0, .ref a_t)]) hx hb dX7_blocs_25 hl (k := 2) rfl rfl (by decide) rfl (fun ls hl => ?_)
        refine lv_goto (tgt := 4) hx hb dX7_blocs_28 (by decide) ?_
        exact ih (x1 ||| ((1 : Int32) <<< (x2 &&& 31))) (x2 + (1 : Int32)) hf _ _ hP hD hS _ (lv_sub hl [2, 1, 0] rfl)
set_option maxHeartbeats 4000000 in
set_option maxRecDepth 100000 in
theorem c_X7_blocs (l : Launch) (D : va_G) (cI cZ cR : ClassId) {a_t a_t_weight a_t_membersOf : Nat} {t_in : Int32} {t_all : Int32} {t_membersOf_r : Nat → Int32} {sz : Nat} {out : Int32} (hf : F_X7_blocs t_membersOf_r = some out) : CI l yX7_blocs wsX7_blocs ({ frames := 0, cells := 0, slots := 0, locals := 0 } : Room) D cI cZ cR [.ref a_t] (wd_X7_blocs cI cZ cR a_t a_t_weight a_t_membersOf t_in t_all t_membersOf_r) sz (out) (wd_X7_blocs cI cZ cR a_t a_t_weight a_t_membersOf t_in t_all t_membersOf_r) := by
  refine met_of (Qf := fun A => qi D cI cZ cR A (out) (wd_X7_blocs cI cZ cR a_t a_t_weight a_t_membersOf t_in t_all t_membersOf_r)) RX7 (by decide +kernel) rfl rfl (Nat.le_of_ble_eq_true rfl) ?_
  intro p e s m below meth c A X hK hA hP hD hS ls hl
  have hl : lv_has ls 3 [(0, .ref a_t)] := hl
  obtain ⟨hx, hb, hml, hr, hown, hts, hlocks, hN⟩ := id X
  unfold F_X7_blocs at hf
  refine lv_iconst (v := (0 : Int32)) hx hb dX7_blocs_0 (by decide) ?_
  refine lv_istore_n (lv' := [(1, .int (0 : Int32)), (0, .ref a_t)]) hx hb dX7_blocs_1 rfl hl (by decide) rfl (fun ls hl => ?_)
  refine lv_iconst (v := (0 : Int32)) hx hb dX7_blocs_2 (by decide) ?_
  refine lv_istore_n (lv' := [(2, .int (0 : Int32)), (1, .int (0 : Int32)), (0, .ref a_t)]) hx hb dX7_blocs_3 rfl hl (by decide) rfl (fun ls hl => ?_)
  exact w_X7_blocs_4 X hK hA _ (0 : Int32) (0 : Int32) hf _ _ hP hD hS _ (lv_sub hl [2, 1, 0] rfl)

abbrev wd_X7_ofBlocs (cI cZ cR : ClassId) (a_t a_t_weight a_t_membersOf : Nat) (t_in t_all : Int32) (t_membersOf_r : Nat → Int32) : va_W := [(a_t, oB 7 [.ref a_t_weight, .ref a_t_membersOf, .int t_in, .int t_all]), (a_t_membersOf, aI cI 6 t_membersOf_r)]
set_option maxRecDepth 100000 in
theorem in_X7_ofBlocs_X7 : ∀ w ∈ wsX70, w ∈ wsX7_ofBlocs := by decide +kernel
set_option maxHeartbeats 4000000 in
set_option maxRecDepth 100000 in
theorem w_X7_ofBlocs_4 {p : Program} {l : Launch} {e : Env} {s : State} {m : MethodId} {args : Array Value} {below : List Frame} {meth : Method} {c : Code} {D : va_G} {cI cZ cR : ClassId} {A : Nat → Prop} {a_t a_t_weight a_t_membersOf : Nat} {t_in : Int32} {t_all : Int32} {t_membersOf_r : Nat → Int32} {x1 : Int32} {out : Int32} (X : cx p s m args meth c cX7_ofBlocs 4 (some .int) RX7 wsX7_ofBlocs) (hK : va_K D vwCl (ty3 cI cZ cR) s) (hA : ∀ q, s.heap.size ≤ q → A q) : ∀ (n : Nat) (x2 : Int32) (x3 : Int32), F_X7_ofBlocs_4 x1 t_membersOf_r n x2 x3 = some out → ∀ (H : Heap) (locs : List Loc), va_P D vwCl (wd_X7_ofBlocs cI cZ cR a_t a_t_weight a_t_membersOf t_in t_all t_membersOf_r) H → va_D A (wd_X7_ofBlocs cI cZ cR a_t a_t_weight a_t_membersOf t_in t_all t_membersOf_r) → va_S A s.heap H locs → ∀ (ls : Array Slot), lv_has ls 4 [(0, .ref a_t), (1, .int x1), (2, .int x2), (3, .int x3)] → W p l e (headSpec wsX7_ofBlocs ({ frames := 1, cells := 0, slots := 0, locals := 21 } : Room)).room s m args below meth c H locs 0 0 (MQ below (qi D cI cZ cR A (out) (wd_X7_ofBlocs cI cZ cR a_t a_t_weight a_t_membersOf t_in t_all t_membersOf_r)) args s 0 0 A) (F0 m 4 ls []) := by
  obtain ⟨hx, hb, hml, hr, hown, hts, hlocks, hN⟩ := id X
  intro n
  induction n with
  | zero =>
    intro x2 x3 hf
    cases (show (none : Option (Int32)) = some out from hf)
  | succ n ih =>
    intro x2 x3 hf H locs hP hD hS ls hl
    rw [F_X7_ofBlocs_4] at hf
    refine lv_iload_n hx hb dX7_ofBlocs_4 rfl (lv_at hl 3 rfl) ?_
    refine lv_bipush (v := (6 : Int32)) hx hb dX7_ofBlocs_5 (by decide) ?_
    refine lv_icmp_ge (tgt := 33) hx hb dX7_ofBlocs_7 (by decide) (fun c1 => ?_) (fun c1 => ?_)
    · have hf := ipos c1 hf
      refine lv_iload_n hx hb dX7_ofBlocs_33 rfl (lv_at hl 2 rfl) ?_
      cases hf
      exact reti X hK hP hD hS dX7_ofBlocs_34
    · have hf := ineg c1 hf
      refine lv_iload_n hx hb dX7_ofBlocs_10 rfl (lv_at hl 1 rfl) ?_
      refine lv_iload_n hx hb dX7_ofBlocs_11 rfl (lv_at hl 3 rfl) ?_
      obtain ⟨r2, hr3, hf⟩ := bnd hf
      refine wcalli (D := D) (cI := cI) (cZ := cZ) (cR := cR) (wc := (wd_X11_has cI cZ cR)) (w' := (wd_X11_has cI cZ cR)) [] hP hD hS hA rfl rfl rfl (rnSN (As := [.int x1, .int x3]) X [] hK hP hD rfl rfl (c_X11_has l D cI cZ cR hr3) ⟨va_cnB (host := "DivisionHall") 2 hts ggX7_ofBlocs_X11_has rfl rfl rfl (hN.2.1 ("DivisionHall$Seats", 35, yX11_has, "DivisionHall") (by decide +kernel)) (hts (.initialized RX11) (by decide +kernel)) (by decide +kernel) ⟨Nat.le_of_ble_eq_true rfl, Nat.le_of_ble_eq_true rfl⟩, hts (.static yX11_has) (by decide +kernel), trivial⟩ rfl hl.1 rfl (Nat.le_of_ble_eq_true rfl) dX7_ofBlocs_12) (fun H locs hP hD hS => ?_)
      have hP : va_P D vwCl (wd_X7_ofBlocs cI cZ cR a_t a_t_weight a_t_membersOf t_in t_all t_membersOf_r) H := hP
      have hD : va_D A (wd_X7_ofBlocs cI cZ cR a_t a_t_weight a_t_membersOf t_in t_all t_membersOf_r) := hD
      refine lv_if_eq (tgt := 27) hx hb dX7_ofBlocs_15 (by decide) (fun c4 => ?_) (fun c4 => ?_)
      · have hf := ipos c4 hf
        refine lv_iinc (v := (x3 + (1 : Int32))) (lv' := [(3, .int (x3 + (1 : Int32))), (0, .ref a_t), (1, .int x1), (2, .int x2)]) hx hb dX7_ofBlocs_27 hl (k := 3) rfl rfl (by decide) rfl (fun ls hl => ?_)
        refine lv_goto (tgt := 4) hx hb dX7_ofBlocs_30 (by decide) ?_
        exact ih x2 (x3 + (1 : Int32)) hf _ _ hP hD hS _ (lv_sub hl [1, 2, 3, 0] rfl)
      · have hf := ineg c4 hf
        refine lv_iload_n hx hb dX7_ofBlocs_18 rfl (lv_at hl 2 rfl) ?_
        refine lv_aload_n hx hb dX7_ofBlocs_19 rfl (lv_at hl 0 rfl) ?_
        refine va_get (D := D) (ci := 7) (v := .ref a_t_membersOf) (C := RX7) (T := TX7) (N := 4) hx hb hts in_X7_ofBlocs_X7 hown hK hP 0 rfl rfl 1 (by decide) (hts (.fieldLink RX7 15 "DivisionHall$Seats" "membersOf" "[I") (by decide +kernel)) (fun _ h9 => h9) rfl dX7_ofBlocs_20 ?_
        refine lv_iload_n hx hb dX7_ofBlocs_23 rfl (lv_at hl 3 rfl) ?_
        obtain ⟨hi5, hf⟩ := gin_s hf
        refine va_iald hx hb hK hP 1 0 rfl rfl hi5 dX7_ofBlocs_24 ?_
        refine lv_ior hx hb dX7_ofBlocs_25 ?_
        refine lv_istore_n (lv' := [(2, .int (x2 ||| (t_membersOf_r (x3).toNatClampNeg))), (0, .ref a_t), (1, .int x1), (3, .int x3)]) hx hb dX7_ofBlocs_26 rfl hl (by decide) rfl (fun ls hl => ?_)
        refine lv_iinc (v := (x3 + (1 : Int32))) (lv' := [(3, .int (x3 + (1 : Int32))), (2, .int (x2 ||| (t_membersOf_r (x3).toNatClampNeg))), (0, .ref a_t), (1, .int x1)]) hx hb dX7_ofBlocs_27 hl (k := 3) rfl rfl (by decide) rfl (fun ls hl => ?_)
        refine lv_goto (tgt := 4) hx hb dX7_ofBlocs_30 (by decide) ?_
        exact ih (x2 ||| (t_membersOf_r (x3).toNatClampNeg)) (x3 + (1 : Int32)) hf _ _ hP hD hS _ (lv_sub hl [2, 3, 1, 0] rfl)
set_option maxHeartbeats 4000000 in
set_option maxRecDepth 100000 in
theorem c_X7_ofBlocs (l : Launch) (D : va_G) (cI cZ cR : ClassId) {a_t a_t_weight a_t_membersOf : Nat} {t_in : Int32} {t_all : Int32} {t_membersOf_r : Nat → Int32} {x1 : Int32} {sz : Nat} {out : Int32} (hf : F_X7_ofBlocs x1 t_membersOf_r = some out) : CI l yX7_ofBlocs wsX7_ofBlocs ({ frames := 1, cells := 0, slots := 0, locals := 21 } : Room) D cI cZ cR [.ref a_t, .int x1] (wd_X7_ofBlocs cI cZ cR a_t a_t_weight a_t_membersOf t_in t_all t_membersOf_r) sz (out) (wd_X7_ofBlocs cI cZ cR a_t a_t_weight a_t_membersOf t_in t_all t_membersOf_r) := by
  refine met_of (Qf := fun A => qi D cI cZ cR A (out) (wd_X7_ofBlocs cI cZ cR a_t a_t_weight a_t_membersOf t_in t_all t_membersOf_r)) RX7 (by decide +kernel) rfl rfl (Nat.le_of_ble_eq_true rfl) ?_
  intro p e s m below meth c A X hK hA hP hD hS ls hl
  have hl : lv_has ls 4 [(0, .ref a_t), (1, .int x1)] := hl
  obtain ⟨hx, hb, hml, hr, hown, hts, hlocks, hN⟩ := id X
  unfold F_X7_ofBlocs at hf
  refine lv_iconst (v := (0 : Int32)) hx hb dX7_ofBlocs_0 (by decide) ?_
  refine lv_istore_n (lv' := [(2, .int (0 : Int32)), (0, .ref a_t), (1, .int x1)]) hx hb dX7_ofBlocs_1 rfl hl (by decide) rfl (fun ls hl => ?_)
  refine lv_iconst (v := (0 : Int32)) hx hb dX7_ofBlocs_2 (by decide) ?_
  refine lv_istore_n (lv' := [(3, .int (0 : Int32)), (2, .int (0 : Int32)), (0, .ref a_t), (1, .int x1)]) hx hb dX7_ofBlocs_3 rfl hl (by decide) rfl (fun ls hl => ?_)
  exact w_X7_ofBlocs_4 X hK hA _ (0 : Int32) (0 : Int32) hf _ _ hP hD hS _ (lv_sub hl [2, 3, 1, 0] rfl)

abbrev wd_X7_weightOf (cI cZ cR : ClassId) (a_t a_t_weight a_t_membersOf : Nat) (t_in t_all : Int32) (t_weight_r : Nat → Int32) : va_W := [(a_t, oB 7 [.ref a_t_weight, .ref a_t_membersOf, .int t_in, .int t_all]), (a_t_weight, aI cI 10 t_weight_r)]
set_option maxRecDepth 100000 in
theorem in_X7_weightOf_X7 : ∀ w ∈ wsX70, w ∈ wsX7_weightOf := by decide +kernel
set_option maxHeartbeats 4000000 in
set_option maxRecDepth 100000 in
theorem w_X7_weightOf_4 {p : Program} {l : Launch} {e : Env} {s : State} {m : MethodId} {args : Array Value} {below : List Frame} {meth : Method} {c : Code} {D : va_G} {cI cZ cR : ClassId} {A : Nat → Prop} {a_t a_t_weight a_t_membersOf : Nat} {t_in : Int32} {t_all : Int32} {t_weight_r : Nat → Int32} {x1 : Int32} {out : Int32} (X : cx p s m args meth c cX7_weightOf 4 (some .int) RX7 wsX7_weightOf) (hK : va_K D vwCl (ty3 cI cZ cR) s) (hA : ∀ q, s.heap.size ≤ q → A q) : ∀ (n : Nat) (x2 : Int32) (x3 : Int32), F_X7_weightOf_4 x1 t_weight_r n x2 x3 = some out → ∀ (H : Heap) (locs : List Loc), va_P D vwCl (wd_X7_weightOf cI cZ cR a_t a_t_weight a_t_membersOf t_in t_all t_weight_r) H → va_D A (wd_X7_weightOf cI cZ cR a_t a_t_weight a_t_membersOf t_in t_all t_weight_r) → va_S A s.heap H locs → ∀ (ls : Array Slot), lv_has ls 4 [(0, .ref a_t), (1, .int x1), (2, .int x2), (3, .int x3)] → W p l e (headSpec wsX7_weightOf ({ frames := 0, cells := 0, slots := 0, locals := 0 } : Room)).room s m args below meth c H locs 0 0 (MQ below (qi D cI cZ cR A (out) (wd_X7_weightOf cI cZ cR a_t a_t_weight a_t_membersOf t_in t_all t_weight_r)) args s 0 0 A) (F0 m 4 ls []) := by
  obtain ⟨hx, hb, hml, hr, hown, hts, hlocks, hN⟩ := id X
  intro n
  induction n with
  | zero =>
    intro x2 x3 hf
    cases (show (none : Option (Int32)) = some out from hf)
  | succ n ih =>
    intro x2 x3 hf H locs hP hD hS ls hl
    rw [F_X7_weightOf_4] at hf
    refine lv_iload_n hx hb dX7_weightOf_4 rfl (lv_at hl 3 rfl) ?_
    refine lv_bipush (v := (10 : Int32)) hx hb dX7_weightOf_5 (by decide) ?_
    refine lv_icmp_ge (tgt := 33) hx hb dX7_weightOf_7 (by decide) (fun c1 => ?_) (fun c1 => ?_)
    · have hf := ipos c1 hf
      refine lv_iload_n hx hb dX7_weightOf_33 rfl (lv_at hl 2 rfl) ?_
      cases hf
      exact reti X hK hP hD hS dX7_weightOf_34
    · have hf := ineg c1 hf
      refine lv_iload_n hx hb dX7_weightOf_10 rfl (lv_at hl 1 rfl) ?_
      refine lv_iload_n hx hb dX7_weightOf_11 rfl (lv_at hl 3 rfl) ?_
      refine lv_ishr hx hb dX7_weightOf_12 ?_
      refine lv_iconst (v := (1 : Int32)) hx hb dX7_weightOf_13 (by decide) ?_
      refine lv_iand hx hb dX7_weightOf_14 ?_
      refine lv_if_eq (tgt := 27) hx hb dX7_weightOf_15 (by decide) (fun c2 => ?_) (fun c2 => ?_)
      · have hf := ipos c2 hf
        refine lv_iinc (v := (x3 + (1 : Int32))) (lv' := [(3, .int (x3 + (1 : Int32))), (0, .ref a_t), (1, .int x1), (2, .int x2)]) hx hb dX7_weightOf_27 hl (k := 3) rfl rfl (by decide) rfl (fun ls hl => ?_)
        refine lv_goto (tgt := 4) hx hb dX7_weightOf_30 (by decide) ?_
        exact ih x2 (x3 + (1 : Int32)) hf _ _ hP hD hS _ (lv_sub hl [1, 2, 3, 0] rfl)
      · have hf := ineg c2 hf
        refine lv_iload_n hx hb dX7_weightOf_18 rfl (lv_at hl 2 rfl) ?_
        refine lv_aload_n hx hb dX7_weightOf_19 rfl (lv_at hl 0 rfl) ?_
        refine va_get (D := D) (ci := 7) (v := .ref a_t_weight) (C := RX7) (T := TX7) (N := 4) hx hb hts in_X7_weightOf_X7 hown hK hP 0 rfl rfl 0 (by decide) (hts (.fieldLink RX7 9 "DivisionHall$Seats" "weight" "[I") (by decide +kernel)) (fun _ h9 => h9) rfl dX7_weightOf_20 ?_
        refine lv_iload_n hx hb dX7_weightOf_23 rfl (lv_at hl 3 rfl) ?_
        obtain ⟨hi3, hf⟩ := gin_s hf
        refine va_iald hx hb hK hP 1 0 rfl rfl hi3 dX7_weightOf_24 ?_
        refine lv_iadd hx hb dX7_weightOf_25 ?_
        refine lv_istore_n (lv' := [(2, .int (x2 + (t_weight_r (x3).toNatClampNeg))), (0, .ref a_t), (1, .int x1), (3, .int x3)]) hx hb dX7_weightOf_26 rfl hl (by decide) rfl (fun ls hl => ?_)
        refine lv_iinc (v := (x3 + (1 : Int32))) (lv' := [(3, .int (x3 + (1 : Int32))), (2, .int (x2 + (t_weight_r (x3).toNatClampNeg))), (0, .ref a_t), (1, .int x1)]) hx hb dX7_weightOf_27 hl (k := 3) rfl rfl (by decide) rfl (fun ls hl => ?_)
        refine lv_goto (tgt := 4) hx hb dX7_weightOf_30 (by decide) ?_
        exact ih (x2 + (t_weight_r (x3).toNatClampNeg)) (x3 + (1 : Int32)) hf _ _ hP hD hS _ (lv_sub hl [2, 3, 1, 0] rfl)
set_option maxHeartbeats 4000000 in
set_option maxRecDepth 100000 in
theorem c_X7_weightOf (l : Launch) (D : va_G) (cI cZ cR : ClassId) {a_t a_t_weight a_t_membersOf : Nat} {t_in : Int32} {t_all : Int32} {t_weight_r : Nat → Int32} {x1 : Int32} {sz : Nat} {out : Int32} (hf : F_X7_weightOf x1 t_weight_r = some out) : CI l yX7_weightOf wsX7_weightOf ({ frames := 0, cells := 0, slots := 0, locals := 0 } : Room) D cI cZ cR [.ref a_t, .int x1] (wd_X7_weightOf cI cZ cR a_t a_t_weight a_t_membersOf t_in t_all t_weight_r) sz (out) (wd_X7_weightOf cI cZ cR a_t a_t_weight a_t_membersOf t_in t_all t_weight_r) := by
  refine met_of (Qf := fun A => qi D cI cZ cR A (out) (wd_X7_weightOf cI cZ cR a_t a_t_weight a_t_membersOf t_in t_all t_weight_r)) RX7 (by decide +kernel) rfl rfl (Nat.le_of_ble_eq_true rfl) ?_
  intro p e s m below meth c A X hK hA hP hD hS ls hl
  have hl : lv_has ls 4 [(0, .ref a_t), (1, .int x1)] := hl
  obtain ⟨hx, hb, hml, hr, hown, hts, hlocks, hN⟩ := id X
  unfold F_X7_weightOf at hf
  refine lv_iconst (v := (0 : Int32)) hx hb dX7_weightOf_0 (by decide) ?_
  refine lv_istore_n (lv' := [(2, .int (0 : Int32)), (0, .ref a_t), (1, .int x1)]) hx hb dX7_weightOf_1 rfl hl (by decide) rfl (fun ls hl => ?_)
  refine lv_iconst (v := (0 : Int32)) hx hb dX7_weightOf_2 (by decide) ?_
  refine lv_istore_n (lv' := [(3, .int (0 : Int32)), (2, .int (0 : Int32)), (0, .ref a_t), (1, .int x1)]) hx hb dX7_weightOf_3 rfl hl (by decide) rfl (fun ls hl => ?_)
  exact w_X7_weightOf_4 X hK hA _ (0 : Int32) (0 : Int32) hf _ _ hP hD hS _ (lv_sub hl [2, 3, 1, 0] rfl)
