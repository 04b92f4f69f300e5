abbrev wd_X3_lastTold (cI cZ cR : ClassId) (a_t a_t_member a_t_day a_t_weight a_t_bloc a_t_told a_t_latest : Nat) (t_count : Int32) (t_told_r : Nat → Int32) : va_W := [(a_t, oB 3 [.ref a_t_member, .ref a_t_day, .ref a_t_weight, .ref a_t_bloc, .ref a_t_told, .ref a_t_latest, .int t_count]), (a_t_told, aI cI 200 t_told_r)]
set_option maxRecDepth 100000 in
theorem in_X3_lastTold_X3 : ∀ w ∈ wsX30, w ∈ wsX3_lastTold := by decide +kernel
set_option maxHeartbeats 4000000 in
set_option maxRecDepth 100000 in
theorem c_X3_lastTold (l : Launch) (D : va_G) (cI cZ cR : ClassId) {a_t a_t_member a_t_day a_t_weight a_t_bloc a_t_told a_t_latest : Nat} {t_count : Int32} {t_told_r : Nat → Int32} {sz : Nat} {out : Int32} (hf : F_X3_lastTold t_count t_told_r = some out) : CI l yX3_lastTold wsX3_lastTold ({ frames := 1, cells := 0, slots := 0, locals := 21 } : Room) D cI cZ cR [.ref a_t] (wd_X3_lastTold cI cZ cR a_t a_t_member a_t_day a_t_weight a_t_bloc a_t_told a_t_latest t_count t_told_r) sz (out) (wd_X3_lastTold cI cZ cR a_t a_t_member a_t_day a_t_weight a_t_bloc a_t_told a_t_latest t_count t_told_r) := by
  refine met_of (Qf := fun A => qi D cI cZ cR A (out) (wd_X3_lastTold cI cZ cR a_t a_t_member a_t_day a_t_weight a_t_bloc a_t_told a_t_latest t_count t_told_r)) RX3 (by decide +kernel) rfl rfl (Nat.le_of_ble_eq_true rfl) ?_
  intro p e s m below meth c A X hK hA hP hD hS ls hl
  have hl : lv_has ls 1 [(0, .ref a_t)] := hl
  obtain ⟨hx, hb, hml, hr, hown, hts, hlocks, hN⟩ := id X
  unfold F_X3_lastTold at hf
  refine lv_aload_n hx hb dX3_lastTold_0 rfl (lv_at hl 0 rfl) ?_
  refine va_get (D := D) (ci := 3) (v := .int t_count) (C := RX3) (T := TX3) (N := 7) hx hb hts in_X3_lastTold_X3 hown hK hP 0 rfl rfl 6 (by decide) (hts (.fieldLink RX3 30 "DivisionHall$Log" "count" "I") (by decide +kernel)) (fun _ h9 => h9) rfl dX3_lastTold_1 ?_
  refine lv_iconst (v := (1 : Int32)) hx hb dX3_lastTold_4 (by decide) ?_
  refine lv_isub hx hb dX3_lastTold_5 ?_
  refine lv_sipush (v := (200 : Int32)) hx hb dX3_lastTold_6 (by decide) ?_
  obtain ⟨r1, hr2, hf⟩ := bnd hf
  refine wcalli (D := D) (cI := cI) (cZ := cZ) (cR := cR) (wc := (wd_X11_inside cI cZ cR)) (w' := (wd_X11_inside cI cZ cR)) [] hP hD hS hA rfl rfl rfl (rnSN (As := [.int (t_count - (1 : Int32)), .int (200 : Int32)]) X [] hK hP hD rfl rfl (c_X11_inside l D cI cZ cR hr2) ⟨va_cnB (host := "DivisionHall") 2 hts ggX3_lastTold_X11_inside rfl rfl rfl (hN.2.1 ("DivisionHall$Log", 34, yX11_inside, "DivisionHall") (by decide +kernel)) (hts (.initialized RX11) (by decide +kernel)) (by decide +kernel) ⟨Nat.le_of_ble_eq_true rfl, Nat.le_of_ble_eq_true rfl⟩, hts (.static yX11_inside) (by decide +kernel), trivial⟩ rfl hl.1 rfl (Nat.le_of_ble_eq_true rfl) dX3_lastTold_9) (fun H locs hP hD hS => ?_)
  have hP : va_P D vwCl (wd_X3_lastTold cI cZ cR a_t a_t_member a_t_day a_t_weight a_t_bloc a_t_told a_t_latest t_count t_told_r) H := hP
  have hD : va_D A (wd_X3_lastTold cI cZ cR a_t a_t_member a_t_day a_t_weight a_t_bloc a_t_told a_t_latest t_count t_told_r) := hD
  refine lv_if_eq (tgt := 29) hx hb dX3_lastTold_12 (by decide) (fun c3 => ?_) (fun c3 => ?_)
  · have hf := ipos c3 hf
    refine lv_iconst (v := (0 : Int32)) hx hb dX3_lastTold_29 (by decide) ?_
    cases hf
    exact reti X hK hP hD hS dX3_lastTold_30
  · have hf := ineg c3 hf
    refine lv_aload_n hx hb dX3_lastTold_15 rfl (lv_at hl 0 rfl) ?_
    refine va_get (D := D) (ci := 3) (v := .ref a_t_told) (C := RX3) (T := TX3) (N := 7) hx hb hts in_X3_lastTold_X3 hown hK hP 0 rfl rfl 4 (by decide) (hts (.fieldLink RX3 24 "DivisionHall$Log" "told" "[I") (by decide +kernel)) (fun _ h9 => h9) rfl dX3_lastTold_16 ?_
    refine lv_aload_n hx hb dX3_lastTold_19 rfl (lv_at hl 0 rfl) ?_
    refine va_get (D := D) (ci := 3) (v := .int t_count) (C := RX3) (T := TX3) (N := 7) hx hb hts in_X3_lastTold_X3 hown hK hP 0 rfl rfl 6 (by decide) (hts (.fieldLink RX3 30 "DivisionHall$Log" "count" "I") (by decide +kernel)) (fun _ h9 => h9) rfl dX3_lastTold_20 ?_
    refine lv_iconst (v := (1 : Int32)) hx hb dX3_lastTold_23 (by decide) ?_
    refine lv_isub hx hb dX3_lastTold_24 ?_
    obtain ⟨hi4, hf⟩ := gin_s hf
    refine va_iald hx hb hK hP 1 0 rfl rfl hi4 dX3_lastTold_25 ?_
    refine lv_goto (tgt := 30) hx hb dX3_lastTold_26 (by decide) ?_
    cases hf
    exact reti X hK hP hD hS dX3_lastTold_30

abbrev wd_X3_add (cI cZ cR : ClassId) (a_t a_t_member a_t_day a_t_weight a_t_bloc a_t_told a_t_latest : Nat) (t_count : Int32) (t_bloc_r : Nat → Int32) (t_day_r : Nat → Int32) (t_member_r : Nat → Int32) (t_told_r : Nat → Int32) (t_weight_r : Nat → Int32) : va_W := [(a_t, oB 3 [.ref a_t_member, .ref a_t_day, .ref a_t_weight, .ref a_t_bloc, .ref a_t_told, .ref a_t_latest, .int t_count]), (a_t_bloc, aI cI 200 t_bloc_r), (a_t_day, aI cI 200 t_day_r), (a_t_member, aI cI 200 t_member_r), (a_t_told, aI cI 200 t_told_r), (a_t_weight, aI cI 200 t_weight_r)]
set_option maxRecDepth 100000 in
theorem in_X3_add_X3 : ∀ w ∈ wsX30, w ∈ wsX3_add := by decide +kernel
set_option maxHeartbeats 4000000 in
set_option maxRecDepth 100000 in
theorem c_X3_add (l : Launch) (D : va_G) (cI cZ cR : ClassId) {a_t a_t_member a_t_day a_t_weight a_t_bloc a_t_told a_t_latest : Nat} {t_count : Int32} {t_bloc_r : Nat → Int32} {t_day_r : Nat → Int32} {t_member_r : Nat → Int32} {t_told_r : Nat → Int32} {t_weight_r : Nat → Int32} {x1 : Int32} {x2 : Int32} {x3 : Int32} {x4 : Int32} {x5 : Int32} {sz : Nat} {out : Int32 × (Nat → Int32) × (Nat → Int32) × (Nat → Int32) × (Nat → Int32) × (Nat → Int32)} (hf : F_X3_add x1 x2 x3 x4 x5 t_count t_bloc_r t_day_r t_member_r t_told_r t_weight_r = some out) : CV l yX3_add wsX3_add ({ frames := 1, cells := 0, slots := 0, locals := 21 } : Room) D cI cZ cR [.ref a_t, .int x1, .int x2, .int x3, .int x4, .int x5] (wd_X3_add cI cZ cR a_t a_t_member a_t_day a_t_weight a_t_bloc a_t_told a_t_latest t_count t_bloc_r t_day_r t_member_r t_told_r t_weight_r) sz (wd_X3_add cI cZ cR a_t a_t_member a_t_day a_t_weight a_t_bloc a_t_told a_t_latest (out.1) (out.2.1) (out.2.2.1) (out.2.2.2.1) (out.2.2.2.2.1) (out.2.2.2.2.2)) := by
  refine met_of (Qf := fun A => qv D cI cZ cR A (wd_X3_add cI cZ cR a_t a_t_member a_t_day a_t_weight a_t_bloc a_t_told a_t_latest (out.1) (out.2.1) (out.2.2.1) (out.2.2.2.1) (out.2.2.2.2.1) (out.2.2.2.2.2))) RX3 (by decide +kernel) rfl rfl (Nat.le_of_ble_eq_true rfl) ?_
  intro p e s m below meth c A X hK hA hP hD hS ls hl
  have hl : lv_has ls 6 [(0, .ref a_t), (1, .int x1), (2, .int x2), (3, .int x3), (4, .int x4), (5, .int x5)] := hl
  obtain ⟨hx, hb, hml, hr, hown, hts, hlocks, hN⟩ := id X
  unfold F_X3_add at hf
  refine lv_aload_n hx hb dX3_add_0 rfl (lv_at hl 0 rfl) ?_
  refine va_get (D := D) (ci := 3) (v := .int t_count) (C := RX3) (T := TX3) (N := 7) hx hb hts in_X3_add_X3 hown hK hP 0 rfl rfl 6 (by decide) (hts (.fieldLink RX3 30 "DivisionHall$Log" "count" "I") (by decide +kernel)) (fun _ h9 => h9) rfl dX3_add_1 ?_
  refine lv_sipush (v := (200 : Int32)) hx hb dX3_add_4 (by decide) ?_
  obtain ⟨r1, hr2, hf⟩ := bnd hf
  refine wcalli (D := D) (cI := cI) (cZ := cZ) (cR := cR) (wc := (wd_X11_inside cI cZ cR)) (w' := (wd_X11_inside cI cZ cR)) [] hP hD hS hA rfl rfl rfl (rnSN (As := [.int t_count, .int (200 : Int32)]) X [] hK hP hD rfl rfl (c_X11_inside l D cI cZ cR hr2) ⟨va_cnB (host := "DivisionHall") 2 hts ggX3_add_X11_inside rfl rfl rfl (hN.2.1 ("DivisionHall$Log", 34, yX11_inside, "DivisionHall") (by decide +kernel)) (hts (.initialized RX11) (by decide +kernel)) (by decide +kernel) ⟨Nat.le_of_ble_eq_true rfl, Nat.le_of_ble_eq_true rfl⟩, hts (.static yX11_inside) (by decide +kernel), trivial⟩ rfl hl.1 rfl (Nat.le_of_ble_eq_true rfl) dX3_add_7) (fun H locs hP hD hS => ?_)
  have hP : va_P D vwCl (wd_X3_add cI cZ cR a_t a_t_member a_t_day a_t_weight a_t_bloc a_t_told a_t_latest t_count t_bloc_r t_day_r t_member_r t_told_r t_weight_r) H := hP
  have hD : va_D A (wd_X3_add cI cZ cR a_t a_t_member a_t_day a_t_weight a_t_bloc a_t_told a_t_latest t_count t_bloc_r t_day_r t_member_r t_told_r t_weight_r) := hD
  refine lv_if_ne (tgt := 14) hx hb dX3_add_10 (by decide) (fun c3 => ?_) (fun c3 => ?_)
  · have hf := ineg c3 hf
    refine lv_aload_n hx hb dX3_add_14 rfl (lv_at hl 0 rfl) ?_
    refine va_get (D := D) (ci := 3) (v := .ref a_t_member) (C := RX3) (T := TX3) (N := 7) hx hb hts in_X3_add_X3 hown hK hP 0 rfl rfl 0 (by decide) (hts (.fieldLink RX3 9 "DivisionHall$Log" "member" "[I") (by decide +kernel)) (fun _ h9 => h9) rfl dX3_add_15 ?_
    refine lv_aload_n hx hb dX3_add_18 rfl (lv_at hl 0 rfl) ?_
    refine va_get (D := D) (ci := 3) (v := .int t_count) (C := RX3) (T := TX3) (N := 7) hx hb hts in_X3_add_X3 hown hK hP 0 rfl rfl 6 (by decide) (hts (.fieldLink RX3 30 "DivisionHall$Log" "count" "I") (by decide +kernel)) (fun _ h9 => h9) rfl dX3_add_19 ?_
    refine lv_iload_n hx hb dX3_add_22 rfl (lv_at hl 1 rfl) ?_
    obtain ⟨hi4, hf⟩ := gin_s hf
    refine va_iast hx hb hK hP hD hS 3 0 rfl rfl hi4 dX3_add_23 (fun H locs hP hD hS => ?_)
    have hP : va_P D vwCl (wd_X3_add cI cZ cR a_t a_t_member a_t_day a_t_weight a_t_bloc a_t_told a_t_latest t_count t_bloc_r t_day_r (upd t_member_r (t_count).toNatClampNeg x1) t_told_r t_weight_r) H := hP
    have hD : va_D A (wd_X3_add cI cZ cR a_t a_t_member a_t_day a_t_weight a_t_bloc a_t_told a_t_latest t_count t_bloc_r t_day_r (upd t_member_r (t_count).toNatClampNeg x1) t_told_r t_weight_r) := hD
    refine lv_aload_n hx hb dX3_add_24 rfl (lv_at hl 0 rfl) ?_
    refine va_get (D := D) (ci := 3) (v := .ref a_t_day) (C := RX3) (T := TX3) (N := 7) hx hb hts in_X3_add_X3 hown hK hP 0 rfl rfl 1 (by decide) (hts (.fieldLink RX3 15 "DivisionHall$Log" "day" "[I") (by decide +kernel)) (fun _ h9 => h9) rfl dX3_add_25 ?_
    refine lv_aload_n hx hb dX3_add_28 rfl (lv_at hl 0 rfl) ?_
    refine va_get (D := D) (ci := 3) (v := .int t_count) (C := RX3) (T := TX3) (N := 7) hx hb hts in_X3_add_X3 hown hK hP 0 rfl rfl 6 (by decide) (hts (.fieldLink RX3 30 "DivisionHall$Log" "count" "I") (by decide +kernel)) (fun _ h9 => h9) rfl dX3_add_29 ?_
    refine lv_iload_n hx hb dX3_add_32 rfl (lv_at hl 2 rfl) ?_
    obtain ⟨hi5, hf⟩ := gin_s hf
    refine va_iast hx hb hK hP hD hS 2 0 rfl rfl hi5 dX3_add_33 (fun H locs hP hD hS => ?_)
    have hP : va_P D vwCl (wd_X3_add cI cZ cR a_t a_t_member a_t_day a_t_weight a_t_bloc a_t_told a_t_latest t_count t_bloc_r (upd t_day_r (t_count).toNatClampNeg x2) (upd t_member_r (t_count).toNatClampNeg x1) t_told_r t_weight_r) H := hP
    have hD : va_D A (wd_X3_add cI cZ cR a_t a_t_member a_t_day a_t_weight a_t_bloc a_t_told a_t_latest t_count t_bloc_r (upd t_day_r (t_count).toNatClampNeg x2) (upd t_member_r (t_count).toNatClampNeg x1) t_told_r t_weight_r) := hD
    refine lv_aload_n hx hb dX3_add_34 rfl (lv_at hl 0 rfl) ?_
    refine va_get (D := D) (ci := 3) (v := .ref a_t_weight) (C := RX3) (T := TX3) (N := 7) hx hb hts in_X3_add_X3 hown hK hP 0 rfl rfl 2 (by decide) (hts (.fieldLink RX3 18 "DivisionHall$Log" "weight" "[I") (by decide +kernel)) (fun _ h9 => h9) rfl dX3_add_35 ?_
    refine lv_aload_n hx hb dX3_add_38 rfl (lv_at hl 0 rfl) ?_
    refine va_get (D := D) (ci := 3) (v := .int t_count) (C := RX3) (T := TX3) (N := 7) hx hb hts in_X3_add_X3 hown hK hP 0 rfl rfl 6 (by decide) (hts (.fieldLink RX3 30 "DivisionHall$Log" "count" "I") (by decide +kernel)) (fun _ h9 => h9) rfl dX3_add_39 ?_
    refine lv_iload_n hx hb dX3_add_42 rfl (lv_at hl 3 rfl) ?_
    obtain ⟨hi6, hf⟩ := gin_s hf
    refine va_iast hx hb hK hP hD hS 5 0 rfl rfl hi6 dX3_add_43 (fun H locs hP hD hS => ?_)
    have hP : va_P D vwCl (wd_X3_add cI cZ cR a_t a_t_member a_t_day a_t_weight a_t_bloc a_t_told a_t_latest t_count t_bloc_r (upd t_day_r (t_count).toNatClampNeg x2) (upd t_member_r (t_count).toNatClampNeg x1) t_told_r (upd t_weight_r (t_count).toNatClampNeg x3)) H := hP
    have hD : va_D A (wd_X3_add cI cZ cR a_t a_t_member a_t_day a_t_weight a_t_bloc a_t_told a_t_latest t_count t_bloc_r (upd t_day_r (t_count).toNatClampNeg x2) (upd t_member_r (t_count).toNatClampNeg x1) t_told_r (upd t_weight_r (t_count).toNatClampNeg x3)) := hD
    refine lv_aload_n hx hb dX3_add_44 rfl (lv_at hl 0 rfl) ?_
    refine va_get (D := D) (ci := 3) (v := .ref a_t_bloc) (C := RX3) (T := TX3) (N := 7) hx hb hts in_X3_add_X3 hown hK hP 0 rfl rfl 3 (by decide) (hts (.fieldLink RX3 21 "DivisionHall$Log" "bloc" "[I") (by decide +kernel)) (fun _ h9 => h9) rfl dX3_add_45 ?_
    refine lv_aload_n hx hb dX3_add_48 rfl (lv_at hl 0 rfl) ?_
    refine va_get (D := D) (ci := 3) (v := .int t_count) (C := RX3) (T := TX3) (N := 7) hx hb hts in_X3_add_X3 hown hK hP 0 rfl rfl 6 (by decide) (hts (.fieldLink RX3 30 "DivisionHall$Log" "count" "I") (by decide +kernel)) (fun _ h9 => h9) rfl dX3_add_49 ?_
    refine lv_iload hx hb dX3_add_52 (lv_at hl 4 rfl) ?_
    obtain ⟨hi7, hf⟩ := gin_s hf
    refine va_iast hx hb hK hP hD hS 1 0 rfl rfl hi7 dX3_add_54 (fun H locs hP hD hS => ?_)
    have hP : va_P D vwCl (wd_X3_add cI cZ cR a_t a_t_member a_t_day a_t_weight a_t_bloc a_t_told a_t_latest t_count (upd t_bloc_r (t_count).toNatClampNeg x4) (upd t_day_r (t_count).toNatClampNeg x2) (upd t_member_r (t_count).toNatClampNeg x1) t_told_r (upd t_weight_r (t_count).toNatClampNeg x3)) H := hP
    have hD : va_D A (wd_X3_add cI cZ cR a_t a_t_member a_t_day a_t_weight a_t_bloc a_t_told a_t_latest t_count (upd t_bloc_r (t_count).toNatClampNeg x4) (upd t_day_r (t_count).toNatClampNeg x2) (upd t_member_r (t_count).toNatClampNeg x1) t_told_r (upd t_weight_r (t_count).toNatClampNeg x3)) := hD
    refine lv_aload_n hx hb dX3_add_55 rfl (lv_at hl 0 rfl) ?_
    refine va_get (D := D) (ci := 3) (v := .ref a_t_told) (C := RX3) (T := TX3) (N := 7) hx hb hts in_X3_add_X3 hown hK hP 0 rfl rfl 4 (by decide) (hts (.fieldLink RX3 24 "DivisionHall$Log" "told" "[I") (by decide +kernel)) (fun _ h9 => h9) rfl dX3_add_56 ?_
    refine lv_aload_n hx hb dX3_add_59 rfl (lv_at hl 0 rfl) ?_
    refine va_get (D := D) (ci := 3) (v := .int t_count) (C := RX3) (T := TX3) (N := 7) hx hb hts in_X3_add_X3 hown hK hP 0 rfl rfl 6 (by decide) (hts (.fieldLink RX3 30 "DivisionHall$Log" "count" "I") (by decide +kernel)) (fun _ h9 => h9) rfl dX3_add_60 ?_
    refine lv_iload hx hb dX3_add_63 (lv_at hl 5 rfl) ?_
    obtain ⟨hi8, hf⟩ := gin_s hf
    refine va_iast hx hb hK hP hD hS 4 0 rfl rfl hi8 dX3_add_65 (fun H locs hP hD hS => ?_)
    have hP : va_P D vwCl (wd_X3_add cI cZ cR a_t a_t_member a_t_day a_t_weight a_t_bloc a_t_told a_t_latest t_count (upd t_bloc_r (t_count).toNatClampNeg x4) (upd t_day_r (t_count).toNatClampNeg x2) (upd t_member_r (t_count).toNatClampNeg x1) (upd t_told_r (t_count).toNatClampNeg x5) (upd t_weight_r (t_count).toNatClampNeg x3)) H := hP
    have hD : va_D A (wd_X3_add cI cZ cR a_t a_t_member a_t_day a_t_weight a_t_bloc a_t_told a_t_latest t_count (upd t_bloc_r (t_count).toNatClampNeg x4) (upd t_day_r (t_count).toNatClampNeg x2) (upd t_member_r (t_count).toNatClampNeg x1) (upd t_told_r (t_count).toNatClampNeg x5) (upd t_weight_r (t_count).toNatClampNeg x3)) := hD
    refine lv_aload_n hx hb dX3_add_66 rfl (lv_at hl 0 rfl) ?_
    refine lv_dup hx hb dX3_add_67 rfl ?_
    refine va_get (D := D) (ci := 3) (v := .int t_count) (C := RX3) (T := TX3) (N := 7) hx hb hts in_X3_add_X3 hown hK hP 0 rfl rfl 6 (by decide) (hts (.fieldLink RX3 30 "DivisionHall$Log" "count" "I") (by decide +kernel)) (fun _ h9 => h9) rfl dX3_add_68 ?_
    refine lv_iconst (v := (1 : Int32)) hx hb dX3_add_71 (by decide) ?_
    refine lv_iadd hx hb dX3_add_72 ?_
    refine va_put (D := D) (ci := 3) (v := .int (t_count + (1 : Int32))) (ty := .int) (C := RX3) (T := TX3) (N := 7) hx hb hts in_X3_add_X3 tyX3 tyX3_ok nmX3 hown hK hP hD hS 0 rfl rfl 6 (by decide) (hts (.fieldLink RX3 30 "DivisionHall$Log" "count" "I") (by decide +kernel)) (fun _ h9 => h9) rfl (by decide +kernel) rfl rfl (Nat.le_of_ble_eq_true rfl) dX3_add_73 (fun H locs hP hD hS => ?_)
    have hP : va_P D vwCl (wd_X3_add cI cZ cR a_t a_t_member a_t_day a_t_weight a_t_bloc a_t_told a_t_latest (t_count + (1 : Int32)) (upd t_bloc_r (t_count).toNatClampNeg x4) (upd t_day_r (t_count).toNatClampNeg x2) (upd t_member_r (t_count).toNatClampNeg x1) (upd t_told_r (t_count).toNatClampNeg x5) (upd t_weight_r (t_count).toNatClampNeg x3)) H := hP
    have hD : va_D A (wd_X3_add cI cZ cR a_t a_t_member a_t_day a_t_weight a_t_bloc a_t_told a_t_latest (t_count + (1 : Int32)) (upd t_bloc_r (t_count).toNatClampNeg x4) (upd t_day_r (t_count).toNatClampNeg x2) (upd t_member_r (t_count).toNatClampNeg x1) (upd t_told_r (t_count).toNatClampNeg x5) (upd t_weight_r (t_count).toNatClampNeg x3)) := hD
    cases hf
    exact retv X hK hP hD hS dX3_add_76
  · have hf := ipos c3 hf
    cases hf
    exact retv X hK hP hD hS dX3_add_13

abbrev wd_X3_keepLatest (cI cZ cR : ClassId) (a_t a_t_member a_t_day a_t_weight a_t_bloc a_t_told a_t_latest : Nat) (t_count : Int32) (t_day_r : Nat → Int32) (t_latest_r : Nat → Int32) (t_member_r : Nat → Int32) : va_W := [(a_t, oB 3 [.ref a_t_member, .ref a_t_day, .ref a_t_weight, .ref a_t_bloc, .ref a_t_told, .ref a_t_latest, .int t_count]), (a_t_day, aI cI 200 t_day_r), (a_t_latest, aI cI 10 t_latest_r), (a_t_member, aI cI 200 t_member_r)]
set_option maxRecDepth 100000 in
theorem in_X3_keepLatest_X3 : ∀ w ∈ wsX30, w ∈ wsX3_keepLatest := by decide +kernel
set_option maxHeartbeats 4000000 in
set_option maxRecDepth 100000 in
theorem c_X3_keepLatest (l : Launch) (D : va_G) (cI cZ cR : ClassId) {a_t a_t_member a_t_day a_t_weight a_t_bloc a_t_told a_t_latest : Nat} {t_count : Int32} {t_day_r : Nat → Int32} {t_latest_r : Nat → Int32} {t_member_r : Nat → Int32} {x1 : Int32} {sz : Nat} {out : (Nat → Int32)} (hf : F_X3_keepLatest x1 t_day_r t_latest_r t_member_r = some out) : CV l yX3_keepLatest wsX3_keepLatest ({ frames := 1, cells := 0, slots := 0, locals := 21 } : Room) D cI cZ cR [.ref a_t, .int x1] (wd_X3_keepLatest cI cZ cR a_t a_t_member a_t_day a_t_weight a_t_bloc a_t_told a_t_latest t_count t_day_r t_latest_r t_member_r) sz (wd_X3_keepLatest cI cZ cR a_t a_t_member a_t_day a_t_weight a_t_bloc a_t_told a_t_latest t_count t_day_r out t_member_r) := by
  refine met_of (Qf := fun A => qv D cI cZ cR A (wd_X3_keepLatest cI cZ cR a_t a_t_member a_t_day a_t_weight a_t_bloc a_t_told a_t_latest t_count t_day_r out t_member_r)) RX3 (by decide +kernel) rfl rfl (Nat.le_of_ble_eq_true rfl) ?_
  intro p e s m below meth c A X hK hA hP hD hS ls hl
  have hl : lv_has ls 4 [(0, .ref a_t), (1, .int x1)] := hl
  obtain ⟨hx, hb, hml, hr, hown, hts, hlocks, hN⟩ := id X
  unfold F_X3_keepLatest at hf
  refine lv_iload_n hx hb dX3_keepLatest_0 rfl (lv_at hl 1 rfl) ?_
  refine lv_sipush (v := (200 : Int32)) hx hb dX3_keepLatest_1 (by decide) ?_
  obtain ⟨r1, hr2, hf⟩ := bnd hf
  refine wcalli (D := D) (cI := cI) (cZ := cZ) (cR := cR) (wc := (wd_X11_inside cI cZ cR)) (w' := (wd_X11_inside cI cZ cR)) [] hP hD hS hA rfl rfl rfl (rnSN (As := [.int x1, .int (200 : Int32)]) X [] hK hP hD rfl rfl (c_X11_inside l D cI cZ cR hr2) ⟨va_cnB (host := "DivisionHall") 2 hts ggX3_keepLatest_X11_inside rfl rfl rfl (hN.2.1 ("DivisionHall$Log", 34, yX11_inside, "DivisionHall") (by decide +kernel)) (hts (.initialized RX11) (by decide +kernel)) (by decide +kernel) ⟨Nat.le_of_ble_eq_true rfl, Nat.le_of_ble_eq_true rfl⟩, hts (.static yX11_inside) (by decide +kernel), trivial⟩ rfl hl.1 rfl (Nat.le_of_ble_eq_true rfl) dX3_keepLatest_4) (fun H locs hP hD hS => ?_)
  have hP : va_P D vwCl (wd_X3_keepLatest cI cZ cR a_t a_t_member a_t_day a_t_weight a_t_bloc a_t_told a_t_latest t_count t_day_r t_latest_r t_member_r) H := hP
  have hD : va_D A (wd_X3_keepLatest cI cZ cR a_t a_t_member a_t_day a_t_weight a_t_bloc a_t_told a_t_latest t_count t_day_r t_latest_r t_member_r) := hD
  refine lv_if_eq (tgt := 24) hx hb dX3_keepLatest_7 (by decide) (fun c3 => ?_) (fun c3 => ?_)
  · have hf := ipos c3 hf
    cases hf
    exact retv X hK hP hD hS dX3_keepLatest_24
  · have hf := ineg c3 hf
    refine lv_aload_n hx hb dX3_keepLatest_10 rfl (lv_at hl 0 rfl) ?_
    refine va_get (D := D) (ci := 3) (v := .ref a_t_member) (C := RX3) (T := TX3) (N := 7) hx hb hts in_X3_keepLatest_X3 hown hK hP 0 rfl rfl 0 (by decide) (hts (.fieldLink RX3 9 "DivisionHall$Log" "member" "[I") (by decide +kernel)) (fun _ h9 => h9) rfl dX3_keepLatest_11 ?_
    refine lv_iload_n hx hb dX3_keepLatest_14 rfl (lv_at hl 1 rfl) ?_
    obtain ⟨hi4, hf⟩ := gin_s hf
    refine va_iald hx hb hK hP 3 0 rfl rfl hi4 dX3_keepLatest_15 ?_
    refine lv_bipush (v := (10 : Int32)) hx hb dX3_keepLatest_16 (by decide) ?_
    obtain ⟨r5, hr6, hf⟩ := bnd hf
    refine wcalli (D := D) (cI := cI) (cZ := cZ) (cR := cR) (wc := (wd_X11_inside cI cZ cR)) (w' := (wd_X11_inside cI cZ cR)) [] hP hD hS hA rfl rfl rfl (rnSN (As := [.int (t_member_r (x1).toNatClampNeg), .int (10 : Int32)]) X [] hK hP hD rfl rfl (c_X11_inside l D cI cZ cR hr6) ⟨va_cnB (host := "DivisionHall") 2 hts ggX3_keepLatest_X11_inside rfl rfl rfl (hN.2.1 ("DivisionHall$Log", 34, yX11_inside, "DivisionHall") (by decide +kernel)) (hts (.initialized RX11) (by decide +kernel)) (by decide +kernel) ⟨Nat.le_of_ble_eq_true rfl, Nat.le_of_ble_eq_true rfl⟩, hts (.static yX11_inside) (by decide +kernel), trivial⟩ rfl hl.1 rfl (Nat.le_of_ble_eq_true rfl) dX3_keepLatest_18) (fun H locs hP hD hS => ?_)
    have hP : va_P D vwCl (wd_X3_keepLatest cI cZ cR a_t a_t_member a_t_day a_t_weight a_t_bloc a_t_told a_t_latest t_count t_day_r t_latest_r t_member_r) H := hP
    have hD : va_D A (wd_X3_keepLatest cI cZ cR a_t a_t_member a_t_day a_t_weight a_t_bloc a_t_told a_t_latest t_count t_day_r t_latest_r t_member_r) := hD
    refine lv_if_ne (tgt := 25) hx hb dX3_keepLatest_21 (by decide) (fun c7 => ?_) (fun c7 => ?_)
    · have hf := ineg c7 hf
      refine lv_aload_n hx hb dX3_keepLatest_25 rfl (lv_at hl 0 rfl) ?_
      refine va_get (D := D) (ci := 3) (v := .ref a_t_member) (C := RX3) (T := TX3) (N := 7) hx hb hts in_X3_keepLatest_X3 hown hK hP 0 rfl rfl 0 (by decide) (hts (.fieldLink RX3 9 "DivisionHall$Log" "member" "[I") (by decide +kernel)) (fun _ h9 => h9) rfl dX3_keepLatest_26 ?_
      refine lv_iload_n hx hb dX3_keepLatest_29 rfl (lv_at hl 1 rfl) ?_
      obtain ⟨hi8, hf⟩ := gin_s hf
      refine va_iald hx hb hK hP 3 0 rfl rfl hi8 dX3_keepLatest_30 ?_
      refine lv_istore_n (lv' := [(2, .int (t_member_r (x1).toNatClampNeg)), (0, .ref a_t), (1, .int x1)]) hx hb dX3_keepLatest_31 rfl hl (by decide) rfl (fun ls hl => ?_)
      refine lv_aload_n hx hb dX3_keepLatest_32 rfl (lv_at hl 1 rfl) ?_
      refine va_get (D := D) (ci := 3) (v := .ref a_t_latest) (C := RX3) (T := TX3) (N := 7) hx hb hts in_X3_keepLatest_X3 hown hK hP 0 rfl rfl 5 (by decide) (hts (.fieldLink RX3 27 "DivisionHall$Log" "latest" "[I") (by decide +kernel)) (fun _ h9 => h9) rfl dX3_keepLatest_33 ?_
      refine lv_iload_n hx hb dX3_keepLatest_36 rfl (lv_at hl 0 rfl) ?_
      obtain ⟨hi9, hf⟩ := gin_s hf
      refine va_iald hx hb hK hP 2 0 rfl rfl hi9 dX3_keepLatest_37 ?_
      refine lv_istore_n (lv' := [(3, .int (t_latest_r ((t_member_r (x1).toNatClampNeg)).toNatClampNeg)), (2, .int (t_member_r (x1).toNatClampNeg)), (0, .ref a_t), (1, .int x1)]) hx hb dX3_keepLatest_38 rfl hl (by decide) rfl (fun ls hl => ?_)
      refine lv_iload_n hx hb dX3_keepLatest_39 rfl (lv_at hl 0 rfl) ?_
      refine lv_sipush (v := (200 : Int32)) hx hb dX3_keepLatest_40 (by decide) ?_
      obtain ⟨r10, hr11, hf⟩ := bnd hf
      refine wcalli (D := D) (cI := cI) (cZ := cZ) (cR := cR) (wc := (wd_X11_inside cI cZ cR)) (w' := (wd_X11_inside cI cZ cR)) [] hP hD hS hA rfl rfl rfl (rnSN (As := [.int (t_latest_r ((t_member_r (x1).toNatClampNeg)).toNatClampNeg), .int (200 : Int32)]) X [] hK hP hD rfl rfl (c_X11_inside l D cI cZ cR hr11) ⟨va_cnB (host := "DivisionHall") 2 hts ggX3_keepLatest_X11_inside rfl rfl rfl (hN.2.1 ("DivisionHall$Log", 34, yX11_inside, "DivisionHall") (by decide +kernel)) (hts (.initialized RX11) (by decide +kernel)) (by decide +kernel) ⟨Nat.le_of_ble_eq_true rfl, Nat.le_of_ble_eq_true rfl⟩, hts (.static yX11_inside) (by decide +kernel), trivial⟩ rfl hl.1 rfl (Nat.le_of_ble_eq_true rfl) dX3_keepLatest_43) (fun H locs hP hD hS => ?_)
      have hP : va_P D vwCl (wd_X3_keepLatest cI cZ cR a_t a_t_member a_t_day a_t_weight a_t_bloc a_t_told a_t_latest t_count t_day_r t_latest_r t_member_r) H := hP
      have hD : va_D A (wd_X3_keepLatest cI cZ cR a_t a_t_member a_t_day a_t_weight a_t_bloc a_t_told a_t_latest t_count t_day_r t_latest_r t_member_r) := hD
      refine lv_if_eq (tgt := 64) hx hb dX3_keepLatest_46 (by decide) (fun c12 => ?_) (fun c12 => ?_)
      · have hf := ipos c12 hf
        refine lv_aload_n hx hb dX3_keepLatest_64 rfl (lv_at hl 2 rfl) ?_
        refine va_get (D := D) (ci := 3) (v := .ref a_t_latest) (C := RX3) (T := TX3) (N := 7) hx hb hts in_X3_keepLatest_X3 hown hK hP 0 rfl rfl 5 (by decide) (hts (.fieldLink RX3 27 "DivisionHall$Log" "latest" "[I") (by decide +kernel)) (fun _ h9 => h9) rfl dX3_keepLatest_65 ?_
        refine lv_iload_n hx hb dX3_keepLatest_68 rfl (lv_at hl 1 rfl) ?_
        refine lv_iload_n hx hb dX3_keepLatest_69 rfl (lv_at hl 3 rfl) ?_
        obtain ⟨hi13, hf⟩ := gin_s hf
        refine va_iast hx hb hK hP hD hS 2 0 rfl rfl hi13 dX3_keepLatest_70 (fun H locs hP hD hS => ?_)
        have hP : va_P D vwCl (wd_X3_keepLatest cI cZ cR a_t a_t_member a_t_day a_t_weight a_t_bloc a_t_told a_t_latest t_count t_day_r (upd t_latest_r ((t_member_r (x1).toNatClampNeg)).toNatClampNeg x1) t_member_r) H := hP
        have hD : va_D A (wd_X3_keepLatest cI cZ cR a_t a_t_member a_t_day a_t_weight a_t_bloc a_t_told a_t_latest t_count t_day_r (upd t_latest_r ((t_member_r (x1).toNatClampNeg)).toNatClampNeg x1) t_member_r) := hD
        cases hf
        exact retv X hK hP hD hS dX3_keepLatest_71
      · have hf := ineg c12 hf
        refine lv_aload_n hx hb dX3_keepLatest_49 rfl (lv_at hl 2 rfl) ?_
        refine va_get (D := D) (ci := 3) (v := .ref a_t_day) (C := RX3) (T := TX3) (N := 7) hx hb hts in_X3_keepLatest_X3 hown hK hP 0 rfl rfl 1 (by decide) (hts (.fieldLink RX3 15 "DivisionHall$Log" "day" "[I") (by decide +kernel)) (fun _ h9 => h9) rfl dX3_keepLatest_50 ?_
        refine lv_iload_n hx hb dX3_keepLatest_53 rfl (lv_at hl 3 rfl) ?_
        obtain ⟨hi14, hf⟩ := gin_s hf
        refine va_iald hx hb hK hP 1 0 rfl rfl hi14 dX3_keepLatest_54 ?_
        refine lv_aload_n hx hb dX3_keepLatest_55 rfl (lv_at hl 2 rfl) ?_
        refine va_get (D := D) (ci := 3) (v := .ref a_t_day) (C := RX3) (T := TX3) (N := 7) hx hb hts in_X3_keepLatest_X3 hown hK hP 0 rfl rfl 1 (by decide) (hts (.fieldLink RX3 15 "DivisionHall$Log" "day" "[I") (by decide +kernel)) (fun _ h9 => h9) rfl dX3_keepLatest_56 ?_
        refine lv_iload_n hx hb dX3_keepLatest_59 rfl (lv_at hl 0 rfl) ?_
        obtain ⟨hi15, hf⟩ := gin_s hf
        refine va_iald hx hb hK hP 1 0 rfl rfl hi15 dX3_keepLatest_60 ?_
        refine lv_icmp_lt (tgt := 71) hx hb dX3_keepLatest_61 (by decide) (fun c16 => ?_) (fun c16 => ?_)
        · have hf := ipos c16 hf
          cases hf
          exact retv X hK hP hD hS dX3_keepLatest_71
        · have hf := ineg c16 hf
          refine lv_aload_n hx hb dX3_keepLatest_64 rfl (lv_at hl 2 rfl) ?_
          refine va_get (D := D) (ci := 3) (v := .ref a_t_latest) (C := RX3) (T := TX3) (N := 7) hx hb hts in_X3_keepLatest_X3 hown hK hP 0 rfl rfl 5 (by decide) (hts (.fieldLink RX3 27 "DivisionHall$Log" "latest" "[I") (by decide +kernel)) (fun _ h9 => h9) rfl dX3_keepLatest_65 ?_
          refine lv_iload_n hx hb dX3_keepLatest_68 rfl (lv_at hl 1 rfl) ?_
          refine lv_iload_n hx hb dX3_keepLatest_69 rfl (lv_at hl 3 rfl) ?_
          obtain ⟨hi17, hf⟩ := gin_s hf
          refine va_iast hx hb hK hP hD hS 2 0 rfl rfl hi17 dX3_keepLatest_70 (fun H locs hP hD hS => ?_)
          have hP : va_P D vwCl (wd_X3_keepLatest cI cZ cR a_t a_t_member a_t_day a_t_weight a_t_bloc a_t_told a_t_latest t_count t_day_r (upd t_latest_r ((t_member_r (x1).toNatClampNeg)).toNatClampNeg x1) t_member_r) H := hP
          have hD : va_D A (wd_X3_keepLatest cI cZ cR a_t a_t_member a_t_day a_t_weight a_t_bloc a_t_told a_t_latest t_count t_day_r (upd t_latest_r ((t_member_r (x1).toNatClampNeg)).toNatClampNeg x1) t_member_r) := hD
          cases hf
          exact retv X hK hP hD hS dX3_keepLatest_71
    · have hf := ipos c7 hf
      cases hf
      exact retv X hK hP hD hS dX3_keepLatest_24

abbrev wd_X3_seat (cI cZ cR : ClassId) (a_p1 a_p1_weight a_p1_membersOf a_t a_t_member a_t_day a_t_weight a_t_bloc a_t_told a_t_latest : Nat) (p1_in p1_all t_count : Int32) (p1_membersOf_r : Nat → Int32) (p1_weight_r : Nat → Int32) (t_bloc_r : Nat → Int32) (t_day_r : Nat → Int32) (t_latest_r : Nat → Int32) (t_member_r : Nat → Int32) (t_told_r : Nat → Int32) (t_weight_r : Nat → Int32) : va_W := [(a_p1, oB 7 [.ref a_p1_weight, .ref a_p1_membersOf, .int p1_in, .int p1_all]), (a_t, oB 3 [.ref a_t_member, .ref a_t_day, .ref a_t_weight, .ref a_t_bloc, .ref a_t_told, .ref a_t_latest, .int t_count]), (a_p1_membersOf, aI cI 6 p1_membersOf_r), (a_p1_weight, aI cI 10 p1_weight_r), (a_t_bloc, aI cI 200 t_bloc_r), (a_t_day, aI cI 200 t_day_r), (a_t_latest, aI cI 10 t_latest_r), (a_t_member, aI cI 200 t_member_r), (a_t_told, aI cI 200 t_told_r), (a_t_weight, aI cI 200 t_weight_r)]
set_option maxRecDepth 100000 in
theorem in_X3_seat_X3 : ∀ w ∈ wsX30, w ∈ wsX3_seat := by decide +kernel
set_option maxHeartbeats 4000000 in
set_option maxRecDepth 100000 in
theorem w_X3_seat_69 {p : Program} {l : Launch} {e : Env} {s : State} {m : MethodId} {args : Array Value} {below : List Frame} {meth : Method} {c : Code} {D : va_G} {cI cZ cR : ClassId} {A : Nat → Prop} {a_p1 a_p1_weight a_p1_membersOf a_t a_t_member a_t_day a_t_weight a_t_bloc a_t_told a_t_latest : Nat} {t_count : Int32} {t_bloc_r : Nat → Int32} {t_day_r : Nat → Int32} {t_member_r : Nat → Int32} {t_told_r : Nat → Int32} {t_weight_r : Nat → Int32} {out : Int32 × Int32 × (Nat → Int32) × (Nat → Int32) × (Nat → Int32)} (X : cx p s m args meth c cX3_seat 6 none RX3 wsX3_seat) (hK : va_K D vwCl (ty3 cI cZ cR) s) (hA : ∀ q, s.heap.size ≤ q → A q) : ∀ (n : Nat) (x4 : Int32) (p1_all : Int32) (p1_in : Int32) (p1_membersOf_r : Nat → Int32) (p1_weight_r : Nat → Int32) (t_latest_r : Nat → Int32), F_X3_seat_69 t_count t_bloc_r t_day_r t_member_r t_told_r t_weight_r n x4 p1_all p1_in p1_membersOf_r p1_weight_r t_latest_r = some out → ∀ (H : Heap) (locs : List Loc), va_P D vwCl (wd_X3_seat cI cZ cR a_p1 a_p1_weight a_p1_membersOf a_t a_t_member a_t_day a_t_weight a_t_bloc a_t_told a_t_latest p1_in p1_all t_count p1_membersOf_r p1_weight_r t_bloc_r t_day_r t_latest_r t_member_r t_told_r t_weight_r) H → va_D A (wd_X3_seat cI cZ cR a_p1 a_p1_weight a_p1_membersOf a_t a_t_member a_t_day a_t_weight a_t_bloc a_t_told a_t_latest p1_in p1_all t_count p1_membersOf_r p1_weight_r t_bloc_r t_day_r t_latest_r t_member_r t_told_r t_weight_r) → va_S A s.heap H locs → ∀ (ls : Array Slot), lv_has ls 6 [(0, .ref a_t), (1, .ref a_p1), (4, .int x4)] → W p l e (headSpec wsX3_seat ({ frames := 2, cells := 0, slots := 0, locals := 44 } : Room)).room s m args below meth c H locs 0 0 (MQ below (qv D cI cZ cR A (wd_X3_seat cI cZ cR a_p1 a_p1_weight a_p1_membersOf a_t a_t_member a_t_day a_t_weight a_t_bloc a_t_told a_t_latest (out.2.1) (out.1) t_count (out.2.2.1) (out.2.2.2.1) t_bloc_r t_day_r (out.2.2.2.2) t_member_r t_told_r t_weight_r)) args s 0 0 A) (F0 m 69 ls []) := by
  obtain ⟨hx, hb, hml, hr, hown, hts, hlocks, hN⟩ := id X
  intro n
  induction n with
  | zero =>
    intro x4 p1_all p1_in p1_membersOf_r p1_weight_r t_latest_r hf
    cases (show (none : Option (Int32 × Int32 × (Nat → Int32) × (Nat → Int32) × (Nat → Int32))) = some out from hf)
  | succ n ih =>
    intro x4 p1_all p1_in p1_membersOf_r p1_weight_r t_latest_r hf H locs hP hD hS ls hl
    rw [F_X3_seat_69] at hf
    refine lv_iload hx hb dX3_seat_69 (lv_at hl 2 rfl) ?_
    refine lv_bipush (v := (10 : Int32)) hx hb dX3_seat_71 (by decide) ?_
    refine lv_icmp_ge (tgt := 122) hx hb dX3_seat_73 (by decide) (fun c15 => ?_) (fun c15 => ?_)
    · have hf := ipos c15 hf
      cases hf
      exact retv X hK hP hD hS dX3_seat_122
    · have hf := ineg c15 hf
      refine lv_aload_n hx hb dX3_seat_76 rfl (lv_at hl 0 rfl) ?_
      refine va_get (D := D) (ci := 3) (v := .ref a_t_latest) (C := RX3) (T := TX3) (N := 7) hx hb hts in_X3_seat_X3 hown hK hP 1 rfl rfl 5 (by decide) (hts (.fieldLink RX3 27 "DivisionHall$Log" "latest" "[I") (by decide +kernel)) (fun _ h9 => h9) rfl dX3_seat_77 ?_
      refine lv_iload hx hb dX3_seat_80 (lv_at hl 2 rfl) ?_
      obtain ⟨hi16, hf⟩ := gin_s hf
      refine va_iald hx hb hK hP 6 0 rfl rfl hi16 dX3_seat_82 ?_
      refine lv_istore (lv' := [(5, .int (t_latest_r (x4).toNatClampNeg)), (0, .ref a_t), (1, .ref a_p1), (4, .int x4)]) hx hb dX3_seat_83 hl (by decide) rfl (fun ls hl => ?_)
      refine lv_iload hx hb dX3_seat_85 (lv_at hl 0 rfl) ?_
      refine lv_sipush (v := (200 : Int32)) hx hb dX3_seat_87 (by decide) ?_
      obtain ⟨r17, hr18, hf⟩ := bnd hf
      refine wcalli (D := D) (cI := cI) (cZ := cZ) (cR := cR) (wc := (wd_X11_inside cI cZ cR)) (w' := (wd_X11_inside cI cZ cR)) [] hP hD hS hA rfl rfl rfl (rnSN (As := [.int (t_latest_r (x4).toNatClampNeg), .int (200 : Int32)]) X [] hK hP hD rfl rfl (c_X11_inside l D cI cZ cR hr18) ⟨va_cnB (host := "DivisionHall") 2 hts ggX3_seat_X11_inside rfl rfl rfl (hN.2.1 ("DivisionHall$Log", 34, yX11_inside, "DivisionHall") (by decide +kernel)) (hts (.initialized RX11) (by decide +kernel)) (by decide +kernel) ⟨Nat.le_of_ble_eq_true rfl, Nat.le_of_ble_eq_true rfl⟩, hts (.static yX11_inside) (by decide +kernel), trivial⟩ rfl hl.1 rfl (Nat.le_of_ble_eq_true rfl) dX3_seat_90) (fun H locs hP hD hS => ?_)
      have hP : va_P D vwCl (wd_X3_seat cI cZ cR a_p1 a_p1_weight a_p1_membersOf a_t a_t_member a_t_day a_t_weight a_t_bloc a_t_told a_t_latest p1_in p1_all t_count p1_membersOf_r p1_weight_r t_bloc_r t_day_r t_latest_r t_member_r t_told_r t_weight_r) H := hP
      have hD : va_D A (wd_X3_seat cI cZ cR a_p1 a_p1_weight a_p1_membersOf a_t a_t_member a_t_day a_t_weight a_t_bloc a_t_told a_t_latest p1_in p1_all t_count p1_membersOf_r p1_weight_r t_bloc_r t_day_r t_latest_r t_member_r t_told_r t_weight_r) := hD
      refine lv_if_eq (tgt := 116) hx hb dX3_seat_93 (by decide) (fun c19 => ?_) (fun c19 => ?_)
      · have hf := ipos c19 hf
        refine lv_iinc (v := (x4 + (1 : Int32))) (lv' := [(4, .int (x4 + (1 : Int32))), (5, .int (t_latest_r (x4).toNatClampNeg)), (0, .ref a_t), (1, .ref a_p1)]) hx hb dX3_seat_116 hl (k := 3) rfl rfl (by decide) rfl (fun ls hl => ?_)
        refine lv_goto (tgt := 69) hx hb dX3_seat_119 (by decide) ?_
        exact ih (x4 + (1 : Int32)) p1_all p1_in p1_membersOf_r p1_weight_r t_latest_r hf _ _ hP hD hS _ (lv_sub hl [2, 3, 0] rfl)
      · have hf := ineg c19 hf
        refine lv_aload_n hx hb dX3_seat_96 rfl (lv_at hl 2 rfl) ?_
        refine lv_iload hx hb dX3_seat_97 (lv_at hl 3 rfl) ?_
        refine lv_aload_n hx hb dX3_seat_99 rfl (lv_at hl 1 rfl) ?_
        refine va_get (D := D) (ci := 3) (v := .ref a_t_weight) (C := RX3) (T := TX3) (N := 7) hx hb hts in_X3_seat_X3 hown hK hP 1 rfl rfl 2 (by decide) (hts (.fieldLink RX3 18 "DivisionHall$Log" "weight" "[I") (by decide +kernel)) (fun _ h9 => h9) rfl dX3_seat_100 ?_
        refine lv_iload hx hb dX3_seat_103 (lv_at hl 0 rfl) ?_
        obtain ⟨hi20, hf⟩ := gin_s hf
        refine va_iald hx hb hK hP 9 0 rfl rfl hi20 dX3_seat_105 ?_
        refine lv_aload_n hx hb dX3_seat_106 rfl (lv_at hl 1 rfl) ?_
        refine va_get (D := D) (ci := 3) (v := .ref a_t_bloc) (C := RX3) (T := TX3) (N := 7) hx hb hts in_X3_seat_X3 hown hK hP 1 rfl rfl 3 (by decide) (hts (.fieldLink RX3 21 "DivisionHall$Log" "bloc" "[I") (by decide +kernel)) (fun _ h9 => h9) rfl dX3_seat_107 ?_
        refine lv_iload hx hb dX3_seat_110 (lv_at hl 0 rfl) ?_
        obtain ⟨hi21, hf⟩ := gin_s hf
        refine va_iald hx hb hK hP 4 0 rfl rfl hi21 dX3_seat_112 ?_
        obtain ⟨r22, hr23, hf⟩ := bnd hf
        refine wcallv (D := D) (cI := cI) (cZ := cZ) (cR := cR) (wc := (wd_X7_put cI cZ cR a_p1 a_p1_weight a_p1_membersOf p1_in p1_all p1_membersOf_r p1_weight_r)) (w' := (wd_X7_put cI cZ cR a_p1 a_p1_weight a_p1_membersOf (r22.2.1) (r22.1) (r22.2.2.1) (r22.2.2.2))) [0, 2, 3] hP hD hS hA rfl rfl rfl (rnV (As := [.int x4, .int (t_weight_r ((t_latest_r (x4).toNatClampNeg)).toNatClampNeg), .int (t_bloc_r ((t_latest_r (x4).toNatClampNeg)).toNatClampNeg)]) (ci := 7) (q0 := 0) X [0, 2, 3] hK hP hD rfl rfl rfl rfl (c_X7_put l D cI cZ cR hr23) (cwV 3 hts gX3_seat_X7_put rfl rfl rfl (by decide +kernel) ⟨Nat.le_of_ble_eq_true rfl, Nat.le_of_ble_eq_true rfl⟩) rfl hl.1 rfl (Nat.le_of_ble_eq_true rfl) dX3_seat_113) (fun H locs hP hD hS => ?_)
        have hP : va_P D vwCl (wd_X3_seat cI cZ cR a_p1 a_p1_weight a_p1_membersOf a_t a_t_member a_t_day a_t_weight a_t_bloc a_t_told a_t_latest (r22.2.1) (r22.1) t_count (r22.2.2.1) (r22.2.2.2) t_bloc_r t_day_r t_latest_r t_member_r t_told_r t_weight_r) H := hP
        have hD : va_D A (wd_X3_seat cI cZ cR a_p1 a_p1_weight a_p1_membersOf a_t a_t_member a_t_day a_t_weight a_t_bloc a_t_told a_t_latest (r22.2.1) (r22.1) t_count (r22.2.2.1) (r22.2.2.2) t_bloc_r t_day_r t_latest_r t_member_r t_told_r t_weight_r) := hD
        refine lv_iinc (v := (x4 + (1 : Int32))) (lv' := [(4, .int (x4 + (1 : Int32))), (5, .int (t_latest_r (x4).toNatClampNeg)), (0, .ref a_t), (1, .ref a_p1)]) hx hb dX3_seat_116 hl (k := 3) rfl rfl (by decide) rfl (fun ls hl => ?_)
        refine lv_goto (tgt := 69) hx hb dX3_seat_119 (by decide) ?_
        exact ih (x4 + (1 : Int32)) (r22.1) (r22.2.1) (r22.2.2.1) (r22.2.2.2) t_latest_r hf _ _ hP hD hS _ (lv_sub hl [2, 3, 0] rfl)
set_option maxHeartbeats 4000000 in
set_option maxRecDepth 100000 in
theorem w_X3_seat_11 {p : Program} {l : Launch} {e : Env} {s : State} {m : MethodId} {args : Array Value} {below : List Frame} {meth : Method} {c : Code} {D : va_G} {cI cZ cR : ClassId} {A : Nat → Prop} {a_p1 a_p1_weight a_p1_membersOf a_t a_t_member a_t_day a_t_weight a_t_bloc a_t_told a_t_latest : Nat} {t_count : Int32} {t_bloc_r : Nat → Int32} {t_day_r : Nat → Int32} {t_member_r : Nat → Int32} {t_told_r : Nat → Int32} {t_weight_r : Nat → Int32} {x2 : Int32} {x3 : Int32} {out : Int32 × Int32 × (Nat → Int32) × (Nat → Int32) × (Nat → Int32)} (X : cx p s m args meth c cX3_seat 6 none RX3 wsX3_seat) (hK : va_K D vwCl (ty3 cI cZ cR) s) (hA : ∀ q, s.heap.size ≤ q → A q) : ∀ (n : Nat) (x4 : Int32) (p1_all : Int32) (p1_in : Int32) (p1_membersOf_r : Nat → Int32) (p1_weight_r : Nat → Int32) (t_latest_r : Nat → Int32), F_X3_seat_11 x2 x3 t_count t_bloc_r t_day_r t_member_r t_told_r t_weight_r n x4 p1_all p1_in p1_membersOf_r p1_weight_r t_latest_r = some out → ∀ (H : Heap) (locs : List Loc), va_P D vwCl (wd_X3_seat cI cZ cR a_p1 a_p1_weight a_p1_membersOf a_t a_t_member a_t_day a_t_weight a_t_bloc a_t_told a_t_latest p1_in p1_all t_count p1_membersOf_r p1_weight_r t_bloc_r t_day_r t_latest_r t_member_r t_told_r t_weight_r) H → va_D A (wd_X3_seat cI cZ cR a_p1 a_p1_weight a_p1_membersOf a_t a_t_member a_t_day a_t_weight a_t_bloc a_t_told a_t_latest p1_in p1_all t_count p1_membersOf_r p1_weight_r t_bloc_r t_day_r t_latest_r t_member_r t_told_r t_weight_r) → va_S A s.heap H locs → ∀ (ls : Array Slot), lv_has ls 6 [(0, .ref a_t), (1, .ref a_p1), (2, .int x2), (3, .int x3), (4, .int x4)] → W p l e (headSpec wsX3_seat ({ frames := 2, cells := 0, slots := 0, locals := 44 } : Room)).room s m args below meth c H locs 0 0 (MQ below (qv D cI cZ cR A (wd_X3_seat cI cZ cR a_p1 a_p1_weight a_p1_membersOf a_t a_t_member a_t_day a_t_weight a_t_bloc a_t_told a_t_latest (out.2.1) (out.1) t_count (out.2.2.1) (out.2.2.2.1) t_bloc_r t_day_r (out.2.2.2.2) t_member_r t_told_r t_weight_r)) args s 0 0 A) (F0 m 11 ls []) := by
  obtain ⟨hx, hb, hml, hr, hown, hts, hlocks, hN⟩ := id X
  intro n
  induction n with
  | zero =>
    intro x4 p1_all p1_in p1_membersOf_r p1_weight_r t_latest_r hf
    cases (show (none : Option (Int32 × Int32 × (Nat → Int32) × (Nat → Int32) × (Nat → Int32))) = some out from hf)
  | succ n ih =>
    intro x4 p1_all p1_in p1_membersOf_r p1_weight_r t_latest_r hf H locs hP hD hS ls hl
    rw [F_X3_seat_11] at hf
    refine lv_iload hx hb dX3_seat_11 (lv_at hl 4 rfl) ?_
    refine lv_aload_n hx hb dX3_seat_13 rfl (lv_at hl 0 rfl) ?_
    refine va_get (D := D) (ci := 3) (v := .int t_count) (C := RX3) (T := TX3) (N := 7) hx hb hts in_X3_seat_X3 hown hK hP 1 rfl rfl 6 (by decide) (hts (.fieldLink RX3 30 "DivisionHall$Log" "count" "I") (by decide +kernel)) (fun _ h9 => h9) rfl dX3_seat_14 ?_
    refine lv_icmp_ge (tgt := 62) hx hb dX3_seat_17 (by decide) (fun c3 => ?_) (fun c3 => ?_)
    · have hf := ipos c3 hf
      refine lv_aload_n hx hb dX3_seat_62 rfl (lv_at hl 1 rfl) ?_
      obtain ⟨r4, hr5, hf⟩ := bnd hf
      refine wcallv (D := D) (cI := cI) (cZ := cZ) (cR := cR) (wc := (wd_X7_clear cI cZ cR a_p1 a_p1_weight a_p1_membersOf p1_in p1_all p1_membersOf_r p1_weight_r)) (w' := (wd_X7_clear cI cZ cR a_p1 a_p1_weight a_p1_membersOf (r4.2.1) (r4.1) (r4.2.2.1) (r4.2.2.2))) [0, 2, 3] hP hD hS hA rfl rfl rfl (rnV (As := []) (ci := 7) (q0 := 0) X [0, 2, 3] hK hP hD rfl rfl rfl rfl (c_X7_clear l D cI cZ cR hr5) (cwV 0 hts gX3_seat_X7_clear rfl rfl rfl (by decide +kernel) ⟨Nat.le_of_ble_eq_true rfl, Nat.le_of_ble_eq_true rfl⟩) rfl hl.1 rfl (Nat.le_of_ble_eq_true rfl) dX3_seat_63) (fun H locs hP hD hS => ?_)
      have hP : va_P D vwCl (wd_X3_seat cI cZ cR a_p1 a_p1_weight a_p1_membersOf a_t a_t_member a_t_day a_t_weight a_t_bloc a_t_told a_t_latest (r4.2.1) (r4.1) t_count (r4.2.2.1) (r4.2.2.2) t_bloc_r t_day_r t_latest_r t_member_r t_told_r t_weight_r) H := hP
      have hD : va_D A (wd_X3_seat cI cZ cR a_p1 a_p1_weight a_p1_membersOf a_t a_t_member a_t_day a_t_weight a_t_bloc a_t_told a_t_latest (r4.2.1) (r4.1) t_count (r4.2.2.1) (r4.2.2.2) t_bloc_r t_day_r t_latest_r t_member_r t_told_r t_weight_r) := hD
      refine lv_iconst (v := (0 : Int32)) hx hb dX3_seat_66 (by decide) ?_
      refine lv_istore (lv' := [(4, .int (0 : Int32)), (0, .ref a_t), (1, .ref a_p1), (2, .int x2), (3, .int x3)]) hx hb dX3_seat_67 hl (by decide) rfl (fun ls hl => ?_)
      exact w_X3_seat_69 X hK hA _ (0 : Int32) (r4.1) (r4.2.1) (r4.2.2.1) (r4.2.2.2) t_latest_r hf _ _ hP hD hS _ (lv_sub hl [1, 2, 0] rfl)
    · have hf := ineg c3 hf
      refine lv_iload hx hb dX3_seat_20 (lv_at hl 4 rfl) ?_
      refine lv_sipush (v := (200 : Int32)) hx hb dX3_seat_22 (by decide) ?_
      refine lv_icmp_ge (tgt := 62) hx hb dX3_seat_25 (by decide) (fun c6 => ?_) (fun c6 => ?_)
      · have hf := ipos c6 hf
        refine lv_aload_n hx hb dX3_seat_62 rfl (lv_at hl 1 rfl) ?_
        obtain ⟨r7, hr8, hf⟩ := bnd hf
        refine wcallv (D := D) (cI := cI) (cZ := cZ) (cR := cR) (wc := (wd_X7_clear cI cZ cR a_p1 a_p1_weight a_p1_membersOf p1_in p1_all p1_membersOf_r p1_weight_r)) (w' := (wd_X7_clear cI cZ cR a_p1 a_p1_weight a_p1_membersOf (r7.2.1) (r7.1) (r7.2.2.1) (r7.2.2.2))) [0, 2, 3] hP hD hS hA rfl rfl rfl (rnV (As := []) (ci := 7) (q0 := 0) X [0, 2, 3] hK hP hD rfl rfl rfl rfl (c_X7_clear l D cI cZ cR hr8) (cwV 0 hts gX3_seat_X7_clear rfl rfl rfl (by decide +kernel) ⟨Nat.le_of_ble_eq_true rfl, Nat.le_of_ble_eq_true rfl⟩) rfl hl.1 rfl (Nat.le_of_ble_eq_true rfl) dX3_seat_63) (fun H locs hP hD hS => ?_)
        have hP : va_P D vwCl (wd_X3_seat cI cZ cR a_p1 a_p1_weight a_p1_membersOf a_t a_t_member a_t_day a_t_weight a_t_bloc a_t_told a_t_latest (r7.2.1) (r7.1) t_count (r7.2.2.1) (r7.2.2.2) t_bloc_r t_day_r t_latest_r t_member_r t_told_r t_weight_r) H := hP
        have hD : va_D A (wd_X3_seat cI cZ cR a_p1 a_p1_weight a_p1_membersOf a_t a_t_member a_t_day a_t_weight a_t_bloc a_t_told a_t_latest (r7.2.1) (r7.1) t_count (r7.2.2.1) (r7.2.2.2) t_bloc_r t_day_r t_latest_r t_member_r t_told_r t_weight_r) := hD
        refine lv_iconst (v := (0 : Int32)) hx hb dX3_seat_66 (by decide) ?_
        refine lv_istore (lv' := [(4, .int (0 : Int32)), (0, .ref a_t), (1, .ref a_p1), (2, .int x2), (3, .int x3)]) hx hb dX3_seat_67 hl (by decide) rfl (fun ls hl => ?_)
        exact w_X3_seat_69 X hK hA _ (0 : Int32) (r7.1) (r7.2.1) (r7.2.2.1) (r7.2.2.2) t_latest_r hf _ _ hP hD hS _ (lv_sub hl [1, 2, 0] rfl)
      · have hf := ineg c6 hf
        refine lv_aload_n hx hb dX3_seat_28 rfl (lv_at hl 0 rfl) ?_
        refine va_get (D := D) (ci := 3) (v := .ref a_t_told) (C := RX3) (T := TX3) (N := 7) hx hb hts in_X3_seat_X3 hown hK hP 1 rfl rfl 4 (by decide) (hts (.fieldLink RX3 24 "DivisionHall$Log" "told" "[I") (by decide +kernel)) (fun _ h9 => h9) rfl dX3_seat_29 ?_
        refine lv_iload hx hb dX3_seat_32 (lv_at hl 4 rfl) ?_
        obtain ⟨hi9, hf⟩ := gin_s hf
        refine va_iald hx hb hK hP 8 0 rfl rfl hi9 dX3_seat_34 ?_
        refine lv_iload_n hx hb dX3_seat_35 rfl (lv_at hl 3 rfl) ?_
        refine lv_icmp_gt (tgt := 56) hx hb dX3_seat_36 (by decide) (fun c10 => ?_) (fun c10 => ?_)
        · have hf := ipos c10 hf
          refine lv_iinc (v := (x4 + (1 : Int32))) (lv' := [(4, .int (x4 + (1 : Int32))), (0, .ref a_t), (1, .ref a_p1), (2, .int x2), (3, .int x3)]) hx hb dX3_seat_56 hl (k := 4) rfl rfl (by decide) rfl (fun ls hl => ?_)
          refine lv_goto (tgt := 11) hx hb dX3_seat_59 (by decide) ?_
          exact ih (x4 + (1 : Int32)) p1_all p1_in p1_membersOf_r p1_weight_r t_latest_r hf _ _ hP hD hS _ (lv_sub hl [1, 2, 3, 4, 0] rfl)
        · have hf := ineg c10 hf
          refine lv_aload_n hx hb dX3_seat_39 rfl (lv_at hl 0 rfl) ?_
          refine va_get (D := D) (ci := 3) (v := .ref a_t_day) (C := RX3) (T := TX3) (N := 7) hx hb hts in_X3_seat_X3 hown hK hP 1 rfl rfl 1 (by decide) (hts (.fieldLink RX3 15 "DivisionHall$Log" "day" "[I") (by decide +kernel)) (fun _ h9 => h9) rfl dX3_seat_40 ?_
          refine lv_iload hx hb dX3_seat_43 (lv_at hl 4 rfl) ?_
          obtain ⟨hi11, hf⟩ := gin_s hf
          refine va_iald hx hb hK hP 5 0 rfl rfl hi11 dX3_seat_45 ?_
          refine lv_iload_n hx hb dX3_seat_46 rfl (lv_at hl 2 rfl) ?_
          refine lv_icmp_gt (tgt := 56) hx hb dX3_seat_47 (by decide) (fun c12 => ?_) (fun c12 => ?_)
          · have hf := ipos c12 hf
            refine lv_iinc (v := (x4 + (1 : Int32))) (lv' := [(4, .int (x4 + (1 : Int32))), (0, .ref a_t), (1, .ref a_p1), (2, .int x2), (3, .int x3)]) hx hb dX3_seat_56 hl (k := 4) rfl rfl (by decide) rfl (fun ls hl => ?_)
            refine lv_goto (tgt := 11) hx hb dX3_seat_59 (by decide) ?_
            exact ih (x4 + (1 : Int32)) p1_all p1_in p1_membersOf_r p1_weight_r t_latest_r hf _ _ hP hD hS _ (lv_sub hl [1, 2, 3, 4, 0] rfl)
          · have hf := ineg c12 hf
            refine lv_aload_n hx hb dX3_seat_50 rfl (lv_at hl 0 rfl) ?_
            refine lv_iload hx hb dX3_seat_51 (lv_at hl 4 rfl) ?_
            obtain ⟨r13, hr14, hf⟩ := bnd hf
            refine wcallv (D := D) (cI := cI) (cZ := cZ) (cR := cR) (wc := (wd_X3_keepLatest cI cZ cR a_t a_t_member a_t_day a_t_weight a_t_bloc a_t_told a_t_latest t_count t_day_r t_latest_r t_member_r)) (w' := (wd_X3_keepLatest cI cZ cR a_t a_t_member a_t_day a_t_weight a_t_bloc a_t_told a_t_latest t_count t_day_r r13 t_member_r)) [1, 5, 6, 7] hP hD hS hA rfl rfl rfl (rnV (As := [.int x4]) (ci := 3) (q0 := 1) X [1, 5, 6, 7] hK hP hD rfl rfl rfl rfl (c_X3_keepLatest l D cI cZ cR hr14) (cwV 1 hts gX3_seat_X3_keepLatest rfl rfl rfl (by decide +kernel) ⟨Nat.le_of_ble_eq_true rfl, Nat.le_of_ble_eq_true rfl⟩) rfl hl.1 rfl (Nat.le_of_ble_eq_true rfl) dX3_seat_53) (fun H locs hP hD hS => ?_)
            have hP : va_P D vwCl (wd_X3_seat cI cZ cR a_p1 a_p1_weight a_p1_membersOf a_t a_t_member a_t_day a_t_weight a_t_bloc a_t_told a_t_latest p1_in p1_all t_count p1_membersOf_r p1_weight_r t_bloc_r t_day_r r13 t_member_r t_told_r t_weight_r) H := hP
            have hD : va_D A (wd_X3_seat cI cZ cR a_p1 a_p1_weight a_p1_membersOf a_t a_t_member a_t_day a_t_weight a_t_bloc a_t_told a_t_latest p1_in p1_all t_count p1_membersOf_r p1_weight_r t_bloc_r t_day_r r13 t_member_r t_told_r t_weight_r) := hD
            refine lv_iinc (v := (x4 + (1 : Int32))) (lv' := [(4, .int (x4 + (1 : Int32))), (0, .ref a_t), (1, .ref a_p1), (2, .int x2), (3, .int x3)]) hx hb dX3_seat_56 hl (k := 4) rfl rfl (by decide) rfl (fun ls hl => ?_)
            refine lv_goto (tgt := 11) hx hb dX3_seat_59 (by decide) ?_
            exact ih (x4 + (1 : Int32)) p1_all p1_in p1_membersOf_r p1_weight_r r13 hf _ _ hP hD hS _ (lv_sub hl [1, 2, 3, 4, 0] rfl)
set_option maxHeartbeats 4000000 in
set_option maxRecDepth 100000 in
theorem c_X3_seat (l : Launch) (D : va_G) (cI cZ cR : ClassId) {a_p1 a_p1_weight a_p1_membersOf a_t a_t_member a_t_day a_t_weight a_t_bloc a_t_told a_t_latest : Nat} {p1_in : Int32} {p1_all : Int32} {t_count : Int32} {p1_membersOf_r : Nat → Int32} {p1_weight_r : Nat → Int32} {t_bloc_r : Nat → Int32} {t_day_r : Nat → Int32} {t_latest_r : Nat → Int32} {t_member_r : Nat → Int32} {t_told_r : Nat → Int32} {t_weight_r : Nat → Int32} {x2 : Int32} {x3 : Int32} {sz : Nat} {out : Int32 × Int32 × (Nat → Int32) × (Nat → Int32) × (Nat → Int32)} (hf : F_X3_seat x2 x3 p1_all p1_in p1_membersOf_r p1_weight_r t_count t_bloc_r t_day_r t_latest_r t_member_r t_told_r t_weight_r = some out) : CV l yX3_seat wsX3_seat ({ frames := 2, cells := 0, slots := 0, locals := 44 } : Room) D cI cZ cR [.ref a_t, .ref a_p1, .int x2, .int x3] (wd_X3_seat cI cZ cR a_p1 a_p1_weight a_p1_membersOf a_t a_t_member a_t_day a_t_weight a_t_bloc a_t_told a_t_latest p1_in p1_all t_count p1_membersOf_r p1_weight_r t_bloc_r t_day_r t_latest_r t_member_r t_told_r t_weight_r) sz (wd_X3_seat cI cZ cR a_p1 a_p1_weight a_p1_membersOf a_t a_t_member a_t_day a_t_weight a_t_bloc a_t_told a_t_latest (out.2.1) (out.1) t_count (out.2.2.1) (out.2.2.2.1) t_bloc_r t_day_r (out.2.2.2.2) t_member_r t_told_r t_weight_r) := by
  refine met_of (Qf := fun A => qv D cI cZ cR A (wd_X3_seat cI cZ cR a_p1 a_p1_weight a_p1_membersOf a_t a_t_member a_t_day a_t_weight a_t_bloc a_t_told a_t_latest (out.2.1) (out.1) t_count (out.2.2.1) (out.2.2.2.1) t_bloc_r t_day_r (out.2.2.2.2) t_member_r t_told_r t_weight_r)) RX3 (by decide +kernel) rfl rfl (Nat.le_of_ble_eq_true rfl) ?_
  intro p e s m below meth c A X hK hA hP hD hS ls hl
  have hl : lv_has ls 6 [(0, .ref a_t), (1, .ref a_p1), (2, .int x2), (3, .int x3)] := hl
  obtain ⟨hx, hb, hml, hr, hown, hts, hlocks, hN⟩ := id X
  unfold F_X3_seat at hf
  refine lv_aload_n hx hb dX3_seat_0 rfl (lv_at hl 0 rfl) ?_
  refine va_get (D := D) (ci := 3) (v := .ref a_t_latest) (C := RX3) (T := TX3) (N := 7) hx hb hts in_X3_seat_X3 hown hK hP 1 rfl rfl 5 (by decide) (hts (.fieldLink RX3 27 "DivisionHall$Log" "latest" "[I") (by decide +kernel)) (fun _ h9 => h9) rfl dX3_seat_1 ?_
  refine lv_iconst (v := (-1 : Int32)) hx hb dX3_seat_4 (by decide) ?_
  obtain ⟨r1, hr2, hf⟩ := bnd hf
  refine wcallv (D := D) (cI := cI) (cZ := cZ) (cR := cR) (wc := (wd_J7_fill_53178 cI cZ cR a_t_latest 10 t_latest_r)) (w' := (wd_J7_fill_53178 cI cZ cR a_t_latest 10 r1)) [6] hP hD hS hA rfl rfl rfl (rnS (As := [.ref a_t_latest, .int (-1 : Int32)]) X [6] hK hP hD rfl rfl (c_J7_fill_53178 l D cI cZ cR hr2) ⟨callB_of 2 hts ggX3_seat_J7_fill_53178 rfl rfl rfl (hts (.initialized RJ7) (by decide +kernel)) (hts (.methodLink RX3 38 yJ7_fill_53178) (by decide +kernel)) (by decide +kernel) ⟨Nat.le_of_ble_eq_true rfl, Nat.le_of_ble_eq_true rfl⟩, hts (.static yJ7_fill_53178) (by decide +kernel)⟩ rfl hl.1 rfl (Nat.le_of_ble_eq_true rfl) dX3_seat_5) (fun H locs hP hD hS => ?_)
  have hP : va_P D vwCl (wd_X3_seat cI cZ cR a_p1 a_p1_weight a_p1_membersOf a_t a_t_member a_t_day a_t_weight a_t_bloc a_t_told a_t_latest p1_in p1_all t_count p1_membersOf_r p1_weight_r t_bloc_r t_day_r r1 t_member_r t_told_r t_weight_r) H := hP
  have hD : va_D A (wd_X3_seat cI cZ cR a_p1 a_p1_weight a_p1_membersOf a_t a_t_member a_t_day a_t_weight a_t_bloc a_t_told a_t_latest p1_in p1_all t_count p1_membersOf_r p1_weight_r t_bloc_r t_day_r r1 t_member_r t_told_r t_weight_r) := hD
  refine lv_iconst (v := (0 : Int32)) hx hb dX3_seat_8 (by decide) ?_
  refine lv_istore (lv' := [(4, .int (0 : Int32)), (0, .ref a_t), (1, .ref a_p1), (2, .int x2), (3, .int x3)]) hx hb dX3_seat_9 hl (by decide) rfl (fun ls hl => ?_)
  exact w_X3_seat_11 X hK hA _ (0 : Int32) p1_all p1_in p1_membersOf_r p1_weight_r r1 hf _ _ hP hD hS _ (lv_sub hl [1, 2, 3, 4, 0] rfl)

abbrev wd_X3_dayBehind (cI cZ cR : ClassId) (a_t a_t_member a_t_day a_t_weight a_t_bloc a_t_told a_t_latest : Nat) (t_count : Int32) (t_day_r : Nat → Int32) : va_W := [(a_t, oB 3 [.ref a_t_member, .ref a_t_day, .ref a_t_weight, .ref a_t_bloc, .ref a_t_told, .ref a_t_latest, .int t_count]), (a_t_day, aI cI 200 t_day_r)]
set_option maxRecDepth 100000 in
theorem in_X3_dayBehind_X3 : ∀ w ∈ wsX30, w ∈ wsX3_dayBehind := by decide +kernel
set_option maxHeartbeats 4000000 in
set_option maxRecDepth 100000 in
theorem w_X3_dayBehind_6 {p : Program} {l : Launch} {e : Env} {s : State} {m : MethodId} {args : Array Value} {below : List Frame} {meth : Method} {c : Code} {D : va_G} {cI cZ cR : ClassId} {A : Nat → Prop} {a_t a_t_member a_t_day a_t_weight a_t_bloc a_t_told a_t_latest : Nat} {t_count : Int32} {t_day_r : Nat → Int32} {x1 : Int32} {out : Int32} (X : cx p s m args meth c cX3_dayBehind 4 (some .int) RX3 wsX3_dayBehind) (hK : va_K D vwCl (ty3 cI cZ cR) s) (hA : ∀ q, s.heap.size ≤ q → A q) : ∀ (n : Nat) (x2 : Int32) (x3 : Int32), F_X3_dayBehind_6 x1 t_count t_day_r n x2 x3 = some out → ∀ (H : Heap) (locs : List Loc), va_P D vwCl (wd_X3_dayBehind cI cZ cR a_t a_t_member a_t_day a_t_weight a_t_bloc a_t_told a_t_latest t_count t_day_r) H → va_D A (wd_X3_dayBehind cI cZ cR a_t a_t_member a_t_day a_t_weight a_t_bloc a_t_told a_t_latest t_count t_day_r) → va_S A s.heap H locs → ∀ (ls : Array Slot), lv_has ls 4 [(0, .ref a_t), (1, .int x1), (2, .int x2), (3, .int x3)] → W p l e (headSpec wsX3_dayBehind ({ frames := 0, cells := 0, slots := 0, locals := 0 } : Room)).room s m args below meth c H locs 0 0 (MQ below (qi D cI cZ cR A (out) (wd_X3_dayBehind cI cZ cR a_t a_t_member a_t_day a_t_weight a_t_bloc a_t_told a_t_latest t_count t_day_r)) args s 0 0 A) (F0 m 6 ls []) := by
  obtain ⟨hx, hb, hml, hr, hown, hts, hlocks, hN⟩ := id X
  intro n
  induction n with
  | zero =>
    intro x2 x3 hf
    cases (show (none : Option (Int32)) = some out from hf)
  | succ n ih =>
    intro x2 x3 hf H locs hP hD hS ls hl
    rw [F_X3_dayBehind_6] at hf
    refine lv_iload_n hx hb dX3_dayBehind_6 rfl (lv_at hl 3 rfl) ?_
    refine lv_aload_n hx hb dX3_dayBehind_7 rfl (lv_at hl 0 rfl) ?_
    refine va_get (D := D) (ci := 3) (v := .int t_count) (C := RX3) (T := TX3) (N := 7) hx hb hts in_X3_dayBehind_X3 hown hK hP 0 rfl rfl 6 (by decide) (hts (.fieldLink RX3 30 "DivisionHall$Log" "count" "I") (by decide +kernel)) (fun _ h9 => h9) rfl dX3_dayBehind_8 ?_
    refine lv_icmp_ge (tgt := 54) hx hb dX3_dayBehind_11 (by decide) (fun c1 => ?_) (fun c1 => ?_)
    · have hf := ipos c1 hf
      refine lv_iload_n hx hb dX3_dayBehind_54 rfl (lv_at hl 2 rfl) ?_
      cases hf
      exact reti X hK hP hD hS dX3_dayBehind_55
    · have hf := ineg c1 hf
      refine lv_iload_n hx hb dX3_dayBehind_14 rfl (lv_at hl 3 rfl) ?_
      refine lv_sipush (v := (200 : Int32)) hx hb dX3_dayBehind_15 (by decide) ?_
      refine lv_icmp_ge (tgt := 54) hx hb dX3_dayBehind_18 (by decide) (fun c2 => ?_) (fun c2 => ?_)
      · have hf := ipos c2 hf
        refine lv_iload_n hx hb dX3_dayBehind_54 rfl (lv_at hl 2 rfl) ?_
        cases hf
        exact reti X hK hP hD hS dX3_dayBehind_55
      · have hf := ineg c2 hf
        refine lv_aload_n hx hb dX3_dayBehind_21 rfl (lv_at hl 0 rfl) ?_
        refine va_get (D := D) (ci := 3) (v := .ref a_t_day) (C := RX3) (T := TX3) (N := 7) hx hb hts in_X3_dayBehind_X3 hown hK hP 0 rfl rfl 1 (by decide) (hts (.fieldLink RX3 15 "DivisionHall$Log" "day" "[I") (by decide +kernel)) (fun _ h9 => h9) rfl dX3_dayBehind_22 ?_
        refine lv_iload_n hx hb dX3_dayBehind_25 rfl (lv_at hl 3 rfl) ?_
        obtain ⟨hi3, hf⟩ := gin_s hf
        refine va_iald hx hb hK hP 1 0 rfl rfl hi3 dX3_dayBehind_26 ?_
        refine lv_iload_n hx hb dX3_dayBehind_27 rfl (lv_at hl 1 rfl) ?_
        refine lv_icmp_le (tgt := 48) hx hb dX3_dayBehind_28 (by decide) (fun c4 => ?_) (fun c4 => ?_)
        · have hf := ipos c4 hf
          refine lv_iinc (v := (x3 + (1 : Int32))) (lv' := [(3, .int (x3 + (1 : Int32))), (0, .ref a_t), (1, .int x1), (2, .int x2)]) hx hb dX3_dayBehind_48 hl (k := 3) rfl rfl (by decide) rfl (fun ls hl => ?_)
          refine lv_goto (tgt := 6) hx hb dX3_dayBehind_51 (by decide) ?_
          exact ih x2 (x3 + (1 : Int32)) hf _ _ hP hD hS _ (lv_sub hl [1, 2, 3, 0] rfl)
        · have hf := ineg c4 hf
          refine lv_aload_n hx hb dX3_dayBehind_31 rfl (lv_at hl 0 rfl) ?_
          refine va_get (D := D) (ci := 3) (v := .ref a_t_day) (C := RX3) (T := TX3) (N := 7) hx hb hts in_X3_dayBehind_X3 hown hK hP 0 rfl rfl 1 (by decide) (hts (.fieldLink RX3 15 "DivisionHall$Log" "day" "[I") (by decide +kernel)) (fun _ h9 => h9) rfl dX3_dayBehind_32 ?_
          refine lv_iload_n hx hb dX3_dayBehind_35 rfl (lv_at hl 3 rfl) ?_
          obtain ⟨hi5, hf⟩ := gin_s hf
          refine va_iald hx hb hK hP 1 0 rfl rfl hi5 dX3_dayBehind_36 ?_
          refine lv_iload_n hx hb dX3_dayBehind_37 rfl (lv_at hl 2 rfl) ?_
          refine lv_icmp_ge (tgt := 48) hx hb dX3_dayBehind_38 (by decide) (fun c6 => ?_) (fun c6 => ?_)
          · have hf := ipos c6 hf
            refine lv_iinc (v := (x3 + (1 : Int32))) (lv' := [(3, .int (x3 + (1 : Int32))), (0, .ref a_t), (1, .int x1), (2, .int x2)]) hx hb dX3_dayBehind_48 hl (k := 3) rfl rfl (by decide) rfl (fun ls hl => ?_)
            refine lv_goto (tgt := 6) hx hb dX3_dayBehind_51 (by decide) ?_
            exact ih x2 (x3 + (1 : Int32)) hf _ _ hP hD hS _ (lv_sub hl [1, 2, 3, 0] rfl)
          · have hf := ineg c6 hf
            refine lv_aload_n hx hb dX3_dayBehind_41 rfl (lv_at hl 0 rfl) ?_
            refine va_get (D := D) (ci := 3) (v := .ref a_t_day) (C := RX3) (T := TX3) (N := 7) hx hb hts in_X3_dayBehind_X3 hown hK hP 0 rfl rfl 1 (by decide) (hts (.fieldLink RX3 15 "DivisionHall$Log" "day" "[I") (by decide +kernel)) (fun _ h9 => h9) rfl dX3_dayBehind_42 ?_
            refine lv_iload_n hx hb dX3_dayBehind_45 rfl (lv_at hl 3 rfl) ?_
            obtain ⟨hi7, hf⟩ := gin_s hf
            refine va_iald hx hb hK hP 1 0 rfl rfl hi7 dX3_dayBehind_46 ?_
            refine lv_istore_n (lv' := [(2, .int (t_day_r (x3).toNatClampNeg)), (0, .ref a_t), (1, .int x1), (3, .int x3)]) hx hb dX3_dayBehind_47 rfl hl (by decide) rfl (fun ls hl => ?_)
            refine lv_iinc (v := (x3 + (1 : Int32))) (lv' := [(3, .int (x3 + (1 : Int32))), (2, .int (t_day_r (x3).toNatClampNeg)), (0, .ref a_t), (1, .int x1)]) hx hb dX3_dayBehind_48 hl (k := 3) rfl rfl (by decide) rfl (fun ls hl => ?_)
            refine lv_goto (tgt := 6) hx hb dX3_dayBehind_51 (by decide) ?_
            exact ih (t_day_r (x3).toNatClampNeg) (x3 + (1 : Int32)) hf _ _ hP hD hS _ (lv_sub hl [2, 3, 1, 0] rfl)
set_option maxHeartbeats 4000000 in
set_option maxRecDepth 100000 in
theorem c_X3_dayBehind (l : Launch) (D : va_G) (cI cZ cR : ClassId) {a_t a_t_member a_t_day a_t_weight a_t_bloc a_t_told a_t_latest : Nat} {t_count : Int32} {t_day_r : Nat → Int32} {x1 : Int32} {sz : Nat} {out : Int32} (hf : F_X3_dayBehind x1 t_count t_day_r = some out) : CI l yX3_dayBehind wsX3_dayBehind ({ frames := 0, cells := 0, slots := 0, locals := 0 } : Room) D cI cZ cR [.ref a_t, .int x1] (wd_X3_dayBehind cI cZ cR a_t a_t_member a_t_day a_t_weight a_t_bloc a_t_told a_t_latest t_count t_day_r) sz (out) (wd_X3_dayBehind cI cZ cR a_t a_t_member a_t_day a_t_weight a_t_bloc a_t_told a_t_latest t_count t_day_r) := by
  refine met_of (Qf := fun A => qi D cI cZ cR A (out) (wd_X3_dayBehind cI cZ cR a_t a_t_member a_t_day a_t_weight a_t_bloc a_t_told a_t_latest t_count t_day_r)) RX3 (by decide +kernel) rfl rfl (Nat.le_of_ble_eq_true rfl) ?_
  intro p e s m below meth c A X hK hA hP hD hS ls hl
  have hl : lv_has ls 4 [(0, .ref a_t), (1, .int x1)] := hl
  obtain ⟨hx, hb, hml, hr, hown, hts, hlocks, hN⟩ := id X
  unfold F_X3_dayBehind at hf
  refine lv_sipush (v := (1000 : Int32)) hx hb dX3_dayBehind_0 (by decide) ?_
  refine lv_istore_n (lv' := [(2, .int (1000 : Int32)), (0, .ref a_t), (1, .int x1)]) hx hb dX3_dayBehind_3 rfl hl (by decide) rfl (fun ls hl => ?_)
  refine lv_iconst (v := (0 : Int32)) hx hb dX3_dayBehind_4 (by decide) ?_
  refine lv_istore_n (lv' := [(3, .int (0 : Int32)), (2, .int (1000 : Int32)), (0, .ref a_t), (1, .int x1)]) hx hb dX3_dayBehind_5 rfl hl (by decide) rfl (fun ls hl => ?_)
  exact w_X3_dayBehind_6 X hK hA _ (1000 : Int32) (0 : Int32) hf _ _ hP hD hS _ (lv_sub hl [2, 3, 1, 0] rfl)
