abbrev wd_X12_leafOf (cI cZ cR : ClassId) (a_t a_t_shiftOf a_t_shiftDay a_t_shiftWeight a_t_shiftBloc a_t_shiftTold a_t_wishes a_t_hasWish a_t_weight a_t_bloc a_t_tape a_t_words a_t_codeMany a_t_op a_t_arg a_t_pending a_t_stack a_t_carry a_t_losing a_t_threes a_t_beats a_t_row a_t_leads a_t_places a_t_blocWeight a_t_values a_t_chooser a_t_choices a_t_gets a_t_takes a_t_goesTo a_t_has : Nat) (t_told t_members t_shifts t_viewDay t_viewKnown t_allIn t_manyIn t_weightIn t_taped t_at t_from t_token t_value t_many t_open t_pendings t_readFault t_readPlace t_faultKind t_faultPlace t_motions : Int32) (t_arg_r : Nat → Int32) (t_bloc_r : Nat → Int32) (t_op_r : Nat → Int32) (t_weight_r : Nat → Int32) : va_W := [(a_t, oB 11 [.int t_told, .int t_members, .int t_shifts, .ref a_t_shiftOf, .ref a_t_shiftDay, .ref a_t_shiftWeight, .ref a_t_shiftBloc, .ref a_t_shiftTold, .int t_viewDay, .int t_viewKnown, .ref a_t_wishes, .ref a_t_hasWish, .int t_allIn, .int t_manyIn, .int t_weightIn, .ref a_t_weight, .ref a_t_bloc, .ref a_t_tape, .int t_taped, .int t_at, .int t_from, .int t_token, .int t_value, .ref a_t_words, .ref a_t_codeMany, .ref a_t_op, .ref a_t_arg, .int t_many, .int t_open, .ref a_t_pending, .int t_pendings, .int t_readFault, .int t_readPlace, .int t_faultKind, .int t_faultPlace, .ref a_t_stack, .ref a_t_carry, .ref a_t_losing, .ref a_t_threes, .ref a_t_beats, .int t_motions, .ref a_t_row, .ref a_t_leads, .ref a_t_places, .ref a_t_blocWeight, .ref a_t_values, .ref a_t_chooser, .ref a_t_choices, .ref a_t_gets, .ref a_t_takes, .ref a_t_goesTo, .ref a_t_has]), (a_t_arg, aI cI 2500 t_arg_r), (a_t_bloc, aI cI 10 t_bloc_r), (a_t_op, aI cI 2500 t_op_r), (a_t_weight, aI cI 10 t_weight_r)]
set_option maxRecDepth 100000 in
theorem in_X12_leafOf_X12 : ∀ w ∈ wsX120, w ∈ wsX12_leafOf := by decide +kernel
set_option maxHeartbeats 4000000 in
set_option maxRecDepth 100000 in
theorem c_X12_leafOf (l : Launch) (D : va_G) (cI cZ cR : ClassId) {a_t a_t_shiftOf a_t_shiftDay a_t_shiftWeight a_t_shiftBloc a_t_shiftTold a_t_wishes a_t_hasWish a_t_weight a_t_bloc a_t_tape a_t_words a_t_codeMany a_t_op a_t_arg a_t_pending a_t_stack a_t_carry a_t_losing a_t_threes a_t_beats a_t_row a_t_leads a_t_places a_t_blocWeight a_t_values a_t_chooser a_t_choices a_t_gets a_t_takes a_t_goesTo a_t_has : Nat} {t_told : Int32} {t_members : Int32} {t_shifts : Int32} {t_viewDay : Int32} {t_viewKnown : Int32} {t_allIn : Int32} {t_manyIn : Int32} {t_weightIn : Int32} {t_taped : Int32} {t_at : Int32} {t_from : Int32} {t_token : Int32} {t_value : Int32} {t_many : Int32} {t_open : Int32} {t_pendings : Int32} {t_readFault : Int32} {t_readPlace : Int32} {t_faultKind : Int32} {t_faultPlace : Int32} {t_motions : Int32} {t_arg_r : Nat → Int32} {t_bloc_r : Nat → Int32} {t_op_r : Nat → Int32} {t_weight_r : Nat → Int32} {x1 : Int32} {x2 : Int32} {sz : Nat} {out : Int32} (hf : F_X12_leafOf x1 x2 t_manyIn t_members t_weightIn t_arg_r t_bloc_r t_op_r t_weight_r = some out) : CI l yX12_leafOf wsX12_leafOf ({ frames := 3, cells := 0, slots := 0, locals := 68 } : Room) D cI cZ cR [.ref a_t, .int x1, .int x2] (wd_X12_leafOf cI cZ cR a_t a_t_shiftOf a_t_shiftDay a_t_shiftWeight a_t_shiftBloc a_t_shiftTold a_t_wishes a_t_hasWish a_t_weight a_t_bloc a_t_tape a_t_words a_t_codeMany a_t_op a_t_arg a_t_pending a_t_stack a_t_carry a_t_losing a_t_threes a_t_beats a_t_row a_t_leads a_t_places a_t_blocWeight a_t_values a_t_chooser a_t_choices a_t_gets a_t_takes a_t_goesTo a_t_has t_told t_members t_shifts t_viewDay t_viewKnown t_allIn t_manyIn t_weightIn t_taped t_at t_from t_token t_value t_many t_open t_pendings t_readFault t_readPlace t_faultKind t_faultPlace t_motions t_arg_r t_bloc_r t_op_r t_weight_r) sz (out) (wd_X12_leafOf cI cZ cR a_t a_t_shiftOf a_t_shiftDay a_t_shiftWeight a_t_shiftBloc a_t_shiftTold a_t_wishes a_t_hasWish a_t_weight a_t_bloc a_t_tape a_t_words a_t_codeMany a_t_op a_t_arg a_t_pending a_t_stack a_t_carry a_t_losing a_t_threes a_t_beats a_t_row a_t_leads a_t_places a_t_blocWeight a_t_values a_t_chooser a_t_choices a_t_gets a_t_takes a_t_goesTo a_t_has t_told t_members t_shifts t_viewDay t_viewKnown t_allIn t_manyIn t_weightIn t_taped t_at t_from t_token t_value t_many t_open t_pendings t_readFault t_readPlace t_faultKind t_faultPlace t_motions t_arg_r t_bloc_r t_op_r t_weight_r) := by
  refine met_of (Qf := fun A => qi D cI cZ cR A (out) (wd_X12_leafOf cI cZ cR a_t a_t_shiftOf a_t_shiftDay a_t_shiftWeight a_t_shiftBloc a_t_shiftTold a_t_wishes a_t_hasWish a_t_weight a_t_bloc a_t_tape a_t_words a_t_codeMany a_t_op a_t_arg a_t_pending a_t_stack a_t_carry a_t_losing a_t_threes a_t_beats a_t_row a_t_leads a_t_places a_t_blocWeight a_t_values a_t_chooser a_t_choices a_t_gets a_t_takes a_t_goesTo a_t_has t_told t_members t_shifts t_viewDay t_viewKnown t_allIn t_manyIn t_weightIn t_taped t_at t_from t_token t_value t_many t_open t_pendings t_readFault t_readPlace t_faultKind t_faultPlace t_motions t_arg_r t_bloc_r t_op_r t_weight_r)) RX12 (by decide +kernel) rfl rfl (Nat.le_of_ble_eq_true rfl) ?_
  intro p e s m below meth c A X hK hA hP hD hS ls hl
  have hl : lv_has ls 4 [(0, .ref a_t), (1, .int x1), (2, .int x2)] := hl
  obtain ⟨hx, hb, hml, hr, hown, hts, hlocks, hN⟩ := id X
  unfold F_X12_leafOf at hf
  refine lv_aload_n hx hb dX12_leafOf_0 rfl (lv_at hl 0 rfl) ?_
  refine va_get (D := D) (ci := 11) (v := .ref a_t_arg) (C := RX12) (T := TX12) (N := 52) hx hb hts in_X12_leafOf_X12 hown hK hP 0 rfl rfl 26 (by decide) (hts (.fieldLink RX12 57 "DivisionHallModel" "arg" "[I") (by decide +kernel)) (fun _ h9 => h9) rfl dX12_leafOf_1 ?_
  refine lv_iload_n hx hb dX12_leafOf_4 rfl (lv_at hl 1 rfl) ?_
  obtain ⟨hi1, hf⟩ := gin_s hf
  refine va_iald hx hb hK hP 1 0 rfl rfl hi1 dX12_leafOf_5 ?_
  refine lv_istore_n (lv' := [(3, .int (t_arg_r (x1).toNatClampNeg)), (0, .ref a_t), (1, .int x1), (2, .int x2)]) hx hb dX12_leafOf_6 rfl hl (by decide) rfl (fun ls hl => ?_)
  refine lv_aload_n hx hb dX12_leafOf_7 rfl (lv_at hl 1 rfl) ?_
  refine va_get (D := D) (ci := 11) (v := .ref a_t_op) (C := RX12) (T := TX12) (N := 52) hx hb hts in_X12_leafOf_X12 hown hK hP 0 rfl rfl 25 (by decide) (hts (.fieldLink RX12 54 "DivisionHallModel" "op" "[I") (by decide +kernel)) (fun _ h9 => h9) rfl dX12_leafOf_8 ?_
  refine lv_iload_n hx hb dX12_leafOf_11 rfl (lv_at hl 2 rfl) ?_
  obtain ⟨hi2, hf⟩ := gin_s hf
  refine va_iald hx hb hK hP 3 0 rfl rfl hi2 dX12_leafOf_12 ?_
  refine lv_if_ne (tgt := 18) hx hb dX12_leafOf_13 (by decide) (fun c3 => ?_) (fun c3 => ?_)
  · have hf := ineg c3 hf
    refine lv_aload_n hx hb dX12_leafOf_18 rfl (lv_at hl 1 rfl) ?_
    refine va_get (D := D) (ci := 11) (v := .ref a_t_op) (C := RX12) (T := TX12) (N := 52) hx hb hts in_X12_leafOf_X12 hown hK hP 0 rfl rfl 25 (by decide) (hts (.fieldLink RX12 54 "DivisionHallModel" "op" "[I") (by decide +kernel)) (fun _ h9 => h9) rfl dX12_leafOf_19 ?_
    refine lv_iload_n hx hb dX12_leafOf_22 rfl (lv_at hl 2 rfl) ?_
    obtain ⟨hi4, hf⟩ := gin_s hf
    refine va_iald hx hb hK hP 3 0 rfl rfl hi4 dX12_leafOf_23 ?_
    refine lv_iconst (v := (1 : Int32)) hx hb dX12_leafOf_24 (by decide) ?_
    refine lv_icmp_ne (tgt := 35) hx hb dX12_leafOf_25 (by decide) (fun c5 => ?_) (fun c5 => ?_)
    · have hf := ineg c5 hf
      refine lv_aload_n hx hb dX12_leafOf_35 rfl (lv_at hl 1 rfl) ?_
      refine va_get (D := D) (ci := 11) (v := .ref a_t_op) (C := RX12) (T := TX12) (N := 52) hx hb hts in_X12_leafOf_X12 hown hK hP 0 rfl rfl 25 (by decide) (hts (.fieldLink RX12 54 "DivisionHallModel" "op" "[I") (by decide +kernel)) (fun _ h9 => h9) rfl dX12_leafOf_36 ?_
      refine lv_iload_n hx hb dX12_leafOf_39 rfl (lv_at hl 2 rfl) ?_
      obtain ⟨hi6, hf⟩ := gin_s hf
      refine va_iald hx hb hK hP 3 0 rfl rfl hi6 dX12_leafOf_40 ?_
      refine lv_iconst (v := (3 : Int32)) hx hb dX12_leafOf_41 (by decide) ?_
      refine lv_icmp_ne (tgt := 60) hx hb dX12_leafOf_42 (by decide) (fun c7 => ?_) (fun c7 => ?_)
      · have hf := ineg c7 hf
        refine lv_iload_n hx hb dX12_leafOf_60 rfl (lv_at hl 0 rfl) ?_
        refine lv_bipush (v := (6 : Int32)) hx hb dX12_leafOf_61 (by decide) ?_
        refine lv_icmp_ge (tgt := 75) hx hb dX12_leafOf_63 (by decide) (fun c8 => ?_) (fun c8 => ?_)
        · have hf := ipos c8 hf
          refine lv_aload_n hx hb dX12_leafOf_75 rfl (lv_at hl 1 rfl) ?_
          refine lv_iload_n hx hb dX12_leafOf_76 rfl (lv_at hl 3 rfl) ?_
          refine lv_iload_n hx hb dX12_leafOf_77 rfl (lv_at hl 0 rfl) ?_
          refine lv_bipush (v := (6 : Int32)) hx hb dX12_leafOf_78 (by decide) ?_
          refine lv_isub hx hb dX12_leafOf_80 ?_
          obtain ⟨r9, hr10, hf⟩ := bnd hf
          refine wcalli (D := D) (cI := cI) (cZ := cZ) (cR := cR) (wc := (wd_X12_weightOf cI cZ cR a_t a_t_shiftOf a_t_shiftDay a_t_shiftWeight a_t_shiftBloc a_t_shiftTold a_t_wishes a_t_hasWish a_t_weight a_t_bloc a_t_tape a_t_words a_t_codeMany a_t_op a_t_arg a_t_pending a_t_stack a_t_carry a_t_losing a_t_threes a_t_beats a_t_row a_t_leads a_t_places a_t_blocWeight a_t_values a_t_chooser a_t_choices a_t_gets a_t_takes a_t_goesTo a_t_has t_told t_members t_shifts t_viewDay t_viewKnown t_allIn t_manyIn t_weightIn t_taped t_at t_from t_token t_value t_many t_open t_pendings t_readFault t_readPlace t_faultKind t_faultPlace t_motions t_bloc_r t_weight_r)) (w' := (wd_X12_weightOf cI cZ cR a_t a_t_shiftOf a_t_shiftDay a_t_shiftWeight a_t_shiftBloc a_t_shiftTold a_t_wishes a_t_hasWish a_t_weight a_t_bloc a_t_tape a_t_words a_t_codeMany a_t_op a_t_arg a_t_pending a_t_stack a_t_carry a_t_losing a_t_threes a_t_beats a_t_row a_t_leads a_t_places a_t_blocWeight a_t_values a_t_chooser a_t_choices a_t_gets a_t_takes a_t_goesTo a_t_has t_told t_members t_shifts t_viewDay t_viewKnown t_allIn t_manyIn t_weightIn t_taped t_at t_from t_token t_value t_many t_open t_pendings t_readFault t_readPlace t_faultKind t_faultPlace t_motions t_bloc_r t_weight_r)) [0, 2, 4] hP hD hS hA rfl rfl rfl (rnV (As := [.int x2, .int ((t_arg_r (x1).toNatClampNeg) - (6 : Int32))]) (ci := 11) (q0 := 0) X [0, 2, 4] hK hP hD rfl rfl rfl rfl (c_X12_weightOf l D cI cZ cR hr10) (cwV 2 hts gX12_leafOf_X12_weightOf rfl rfl rfl (by decide +kernel) ⟨Nat.le_of_ble_eq_true rfl, Nat.le_of_ble_eq_true rfl⟩) rfl hl.1 rfl (Nat.le_of_ble_eq_true rfl) dX12_leafOf_81) (fun H locs hP hD hS => ?_)
          have hP : va_P D vwCl (wd_X12_leafOf cI cZ cR a_t a_t_shiftOf a_t_shiftDay a_t_shiftWeight a_t_shiftBloc a_t_shiftTold a_t_wishes a_t_hasWish a_t_weight a_t_bloc a_t_tape a_t_words a_t_codeMany a_t_op a_t_arg a_t_pending a_t_stack a_t_carry a_t_losing a_t_threes a_t_beats a_t_row a_t_leads a_t_places a_t_blocWeight a_t_values a_t_chooser a_t_choices a_t_gets a_t_takes a_t_goesTo a_t_has t_told t_members t_shifts t_viewDay t_viewKnown t_allIn t_manyIn t_weightIn t_taped t_at t_from t_token t_value t_many t_open t_pendings t_readFault t_readPlace t_faultKind t_faultPlace t_motions t_arg_r t_bloc_r t_op_r t_weight_r) H := hP
          have hD : va_D A (wd_X12_leafOf cI cZ cR a_t a_t_shiftOf a_t_shiftDay a_t_shiftWeight a_t_shiftBloc a_t_shiftTold a_t_wishes a_t_hasWish a_t_weight a_t_bloc a_t_tape a_t_words a_t_codeMany a_t_op a_t_arg a_t_pending a_t_stack a_t_carry a_t_losing a_t_threes a_t_beats a_t_row a_t_leads a_t_places a_t_blocWeight a_t_values a_t_chooser a_t_choices a_t_gets a_t_takes a_t_goesTo a_t_has t_told t_members t_shifts t_viewDay t_viewKnown t_allIn t_manyIn t_weightIn t_taped t_at t_from t_token t_value t_many t_open t_pendings t_readFault t_readPlace t_faultKind t_faultPlace t_motions t_arg_r t_bloc_r t_op_r t_weight_r) := hD
          cases hf
          exact reti X hK hP hD hS dX12_leafOf_84
        · have hf := ineg c8 hf
          refine lv_aload_n hx hb dX12_leafOf_66 rfl (lv_at hl 1 rfl) ?_
          refine lv_iload_n hx hb dX12_leafOf_67 rfl (lv_at hl 3 rfl) ?_
          refine lv_iload_n hx hb dX12_leafOf_68 rfl (lv_at hl 0 rfl) ?_
          obtain ⟨r11, hr12, hf⟩ := bnd hf
          refine wcalli (D := D) (cI := cI) (cZ := cZ) (cR := cR) (wc := (wd_X12_headsOf cI cZ cR a_t a_t_shiftOf a_t_shiftDay a_t_shiftWeight a_t_shiftBloc a_t_shiftTold a_t_wishes a_t_hasWish a_t_weight a_t_bloc a_t_tape a_t_words a_t_codeMany a_t_op a_t_arg a_t_pending a_t_stack a_t_carry a_t_losing a_t_threes a_t_beats a_t_row a_t_leads a_t_places a_t_blocWeight a_t_values a_t_chooser a_t_choices a_t_gets a_t_takes a_t_goesTo a_t_has t_told t_members t_shifts t_viewDay t_viewKnown t_allIn t_manyIn t_weightIn t_taped t_at t_from t_token t_value t_many t_open t_pendings t_readFault t_readPlace t_faultKind t_faultPlace t_motions t_bloc_r)) (w' := (wd_X12_headsOf cI cZ cR a_t a_t_shiftOf a_t_shiftDay a_t_shiftWeight a_t_shiftBloc a_t_shiftTold a_t_wishes a_t_hasWish a_t_weight a_t_bloc a_t_tape a_t_words a_t_codeMany a_t_op a_t_arg a_t_pending a_t_stack a_t_carry a_t_losing a_t_threes a_t_beats a_t_row a_t_leads a_t_places a_t_blocWeight a_t_values a_t_chooser a_t_choices a_t_gets a_t_takes a_t_goesTo a_t_has t_told t_members t_shifts t_viewDay t_viewKnown t_allIn t_manyIn t_weightIn t_taped t_at t_from t_token t_value t_many t_open t_pendings t_readFault t_readPlace t_faultKind t_faultPlace t_motions t_bloc_r)) [0, 2] hP hD hS hA rfl rfl rfl (rnV (As := [.int x2, .int (t_arg_r (x1).toNatClampNeg)]) (ci := 11) (q0 := 0) X [0, 2] hK hP hD rfl rfl rfl rfl (c_X12_headsOf l D cI cZ cR hr12) (cwV 2 hts gX12_leafOf_X12_headsOf rfl rfl rfl (by decide +kernel) ⟨Nat.le_of_ble_eq_true rfl, Nat.le_of_ble_eq_true rfl⟩) rfl hl.1 rfl (Nat.le_of_ble_eq_true rfl) dX12_leafOf_69) (fun H locs hP hD hS => ?_)
          have hP : va_P D vwCl (wd_X12_leafOf cI cZ cR a_t a_t_shiftOf a_t_shiftDay a_t_shiftWeight a_t_shiftBloc a_t_shiftTold a_t_wishes a_t_hasWish a_t_weight a_t_bloc a_t_tape a_t_words a_t_codeMany a_t_op a_t_arg a_t_pending a_t_stack a_t_carry a_t_losing a_t_threes a_t_beats a_t_row a_t_leads a_t_places a_t_blocWeight a_t_values a_t_chooser a_t_choices a_t_gets a_t_takes a_t_goesTo a_t_has t_told t_members t_shifts t_viewDay t_viewKnown t_allIn t_manyIn t_weightIn t_taped t_at t_from t_token t_value t_many t_open t_pendings t_readFault t_readPlace t_faultKind t_faultPlace t_motions t_arg_r t_bloc_r t_op_r t_weight_r) H := hP
          have hD : va_D A (wd_X12_leafOf cI cZ cR a_t a_t_shiftOf a_t_shiftDay a_t_shiftWeight a_t_shiftBloc a_t_shiftTold a_t_wishes a_t_hasWish a_t_weight a_t_bloc a_t_tape a_t_words a_t_codeMany a_t_op a_t_arg a_t_pending a_t_stack a_t_carry a_t_losing a_t_threes a_t_beats a_t_row a_t_leads a_t_places a_t_blocWeight a_t_values a_t_chooser a_t_choices a_t_gets a_t_takes a_t_goesTo a_t_has t_told t_members t_shifts t_viewDay t_viewKnown t_allIn t_manyIn t_weightIn t_taped t_at t_from t_token t_value t_many t_open t_pendings t_readFault t_readPlace t_faultKind t_faultPlace t_motions t_arg_r t_bloc_r t_op_r t_weight_r) := hD
          refine lv_goto (tgt := 84) hx hb dX12_leafOf_72 (by decide) ?_
          cases hf
          exact reti X hK hP hD hS dX12_leafOf_84
      · have hf := ipos c7 hf
        refine lv_aload_n hx hb dX12_leafOf_45 rfl (lv_at hl 1 rfl) ?_
        refine lv_iload_n hx hb dX12_leafOf_46 rfl (lv_at hl 3 rfl) ?_
        refine lv_iload_n hx hb dX12_leafOf_47 rfl (lv_at hl 0 rfl) ?_
        obtain ⟨r13, hr14, hf⟩ := bnd hf
        refine wcalli (D := D) (cI := cI) (cZ := cZ) (cR := cR) (wc := (wd_X12_isOf cI cZ cR a_t a_t_shiftOf a_t_shiftDay a_t_shiftWeight a_t_shiftBloc a_t_shiftTold a_t_wishes a_t_hasWish a_t_weight a_t_bloc a_t_tape a_t_words a_t_codeMany a_t_op a_t_arg a_t_pending a_t_stack a_t_carry a_t_losing a_t_threes a_t_beats a_t_row a_t_leads a_t_places a_t_blocWeight a_t_values a_t_chooser a_t_choices a_t_gets a_t_takes a_t_goesTo a_t_has t_told t_members t_shifts t_viewDay t_viewKnown t_allIn t_manyIn t_weightIn t_taped t_at t_from t_token t_value t_many t_open t_pendings t_readFault t_readPlace t_faultKind t_faultPlace t_motions)) (w' := (wd_X12_isOf cI cZ cR a_t a_t_shiftOf a_t_shiftDay a_t_shiftWeight a_t_shiftBloc a_t_shiftTold a_t_wishes a_t_hasWish a_t_weight a_t_bloc a_t_tape a_t_words a_t_codeMany a_t_op a_t_arg a_t_pending a_t_stack a_t_carry a_t_losing a_t_threes a_t_beats a_t_row a_t_leads a_t_places a_t_blocWeight a_t_values a_t_chooser a_t_choices a_t_gets a_t_takes a_t_goesTo a_t_has t_told t_members t_shifts t_viewDay t_viewKnown t_allIn t_manyIn t_weightIn t_taped t_at t_from t_token t_value t_many t_open t_pendings t_readFault t_readPlace t_faultKind t_faultPlace t_motions)) [0] hP hD hS hA rfl rfl rfl (rnV (As := [.int x2, .int (t_arg_r (x1).toNatClampNeg)]) (ci := 11) (q0 := 0) X [0] hK hP hD rfl rfl rfl rfl (c_X12_isOf l D cI cZ cR hr14) (cwV 2 hts gX12_leafOf_X12_isOf rfl rfl rfl (by decide +kernel) ⟨Nat.le_of_ble_eq_true rfl, Nat.le_of_ble_eq_true rfl⟩) rfl hl.1 rfl (Nat.le_of_ble_eq_true rfl) dX12_leafOf_48) (fun H locs hP hD hS => ?_)
        have hP : va_P D vwCl (wd_X12_leafOf cI cZ cR a_t a_t_shiftOf a_t_shiftDay a_t_shiftWeight a_t_shiftBloc a_t_shiftTold a_t_wishes a_t_hasWish a_t_weight a_t_bloc a_t_tape a_t_words a_t_codeMany a_t_op a_t_arg a_t_pending a_t_stack a_t_carry a_t_losing a_t_threes a_t_beats a_t_row a_t_leads a_t_places a_t_blocWeight a_t_values a_t_chooser a_t_choices a_t_gets a_t_takes a_t_goesTo a_t_has t_told t_members t_shifts t_viewDay t_viewKnown t_allIn t_manyIn t_weightIn t_taped t_at t_from t_token t_value t_many t_open t_pendings t_readFault t_readPlace t_faultKind t_faultPlace t_motions t_arg_r t_bloc_r t_op_r t_weight_r) H := hP
        have hD : va_D A (wd_X12_leafOf cI cZ cR a_t a_t_shiftOf a_t_shiftDay a_t_shiftWeight a_t_shiftBloc a_t_shiftTold a_t_wishes a_t_hasWish a_t_weight a_t_bloc a_t_tape a_t_words a_t_codeMany a_t_op a_t_arg a_t_pending a_t_stack a_t_carry a_t_losing a_t_threes a_t_beats a_t_row a_t_leads a_t_places a_t_blocWeight a_t_values a_t_chooser a_t_choices a_t_gets a_t_takes a_t_goesTo a_t_has t_told t_members t_shifts t_viewDay t_viewKnown t_allIn t_manyIn t_weightIn t_taped t_at t_from t_token t_value t_many t_open t_pendings t_readFault t_readPlace t_faultKind t_faultPlace t_motions t_arg_r t_bloc_r t_op_r t_weight_r) := hD
        refine lv_if_eq (tgt := 58) hx hb dX12_leafOf_51 (by decide) (fun c15 => ?_) (fun c15 => ?_)
        · have hf := ipos c15 hf
          refine lv_iconst (v := (0 : Int32)) hx hb dX12_leafOf_58 (by decide) ?_
          cases hf
          exact reti X hK hP hD hS dX12_leafOf_59
        · have hf := ineg c15 hf
          refine lv_iconst (v := (1 : Int32)) hx hb dX12_leafOf_54 (by decide) ?_
          refine lv_goto (tgt := 59) hx hb dX12_leafOf_55 (by decide) ?_
          cases hf
          exact reti X hK hP hD hS dX12_leafOf_59
    · have hf := ipos c5 hf
      refine lv_aload_n hx hb dX12_leafOf_28 rfl (lv_at hl 1 rfl) ?_
      refine lv_iload_n hx hb dX12_leafOf_29 rfl (lv_at hl 0 rfl) ?_
      refine lv_iload_n hx hb dX12_leafOf_30 rfl (lv_at hl 3 rfl) ?_
      obtain ⟨r16, hr17, hf⟩ := bnd hf
      refine wcalli (D := D) (cI := cI) (cZ := cZ) (cR := cR) (wc := (wd_X12_askedOf cI cZ cR a_t a_t_shiftOf a_t_shiftDay a_t_shiftWeight a_t_shiftBloc a_t_shiftTold a_t_wishes a_t_hasWish a_t_weight a_t_bloc a_t_tape a_t_words a_t_codeMany a_t_op a_t_arg a_t_pending a_t_stack a_t_carry a_t_losing a_t_threes a_t_beats a_t_row a_t_leads a_t_places a_t_blocWeight a_t_values a_t_chooser a_t_choices a_t_gets a_t_takes a_t_goesTo a_t_has t_told t_members t_shifts t_viewDay t_viewKnown t_allIn t_manyIn t_weightIn t_taped t_at t_from t_token t_value t_many t_open t_pendings t_readFault t_readPlace t_faultKind t_faultPlace t_motions t_bloc_r t_weight_r)) (w' := (wd_X12_askedOf cI cZ cR a_t a_t_shiftOf a_t_shiftDay a_t_shiftWeight a_t_shiftBloc a_t_shiftTold a_t_wishes a_t_hasWish a_t_weight a_t_bloc a_t_tape a_t_words a_t_codeMany a_t_op a_t_arg a_t_pending a_t_stack a_t_carry a_t_losing a_t_threes a_t_beats a_t_row a_t_leads a_t_places a_t_blocWeight a_t_values a_t_chooser a_t_choices a_t_gets a_t_takes a_t_goesTo a_t_has t_told t_members t_shifts t_viewDay t_viewKnown t_allIn t_manyIn t_weightIn t_taped t_at t_from t_token t_value t_many t_open t_pendings t_readFault t_readPlace t_faultKind t_faultPlace t_motions t_bloc_r t_weight_r)) [0, 2, 4] hP hD hS hA rfl rfl rfl (rnV (As := [.int (t_arg_r (x1).toNatClampNeg), .int x2]) (ci := 11) (q0 := 0) X [0, 2, 4] hK hP hD rfl rfl rfl rfl (c_X12_askedOf l D cI cZ cR hr17) (cwV 2 hts gX12_leafOf_X12_askedOf rfl rfl rfl (by decide +kernel) ⟨Nat.le_of_ble_eq_true rfl, Nat.le_of_ble_eq_true rfl⟩) rfl hl.1 rfl (Nat.le_of_ble_eq_true rfl) dX12_leafOf_31) (fun H locs hP hD hS => ?_)
      have hP : va_P D vwCl (wd_X12_leafOf cI cZ cR a_t a_t_shiftOf a_t_shiftDay a_t_shiftWeight a_t_shiftBloc a_t_shiftTold a_t_wishes a_t_hasWish a_t_weight a_t_bloc a_t_tape a_t_words a_t_codeMany a_t_op a_t_arg a_t_pending a_t_stack a_t_carry a_t_losing a_t_threes a_t_beats a_t_row a_t_leads a_t_places a_t_blocWeight a_t_values a_t_chooser a_t_choices a_t_gets a_t_takes a_t_goesTo a_t_has t_told t_members t_shifts t_viewDay t_viewKnown t_allIn t_manyIn t_weightIn t_taped t_at t_from t_token t_value t_many t_open t_pendings t_readFault t_readPlace t_faultKind t_faultPlace t_motions t_arg_r t_bloc_r t_op_r t_weight_r) H := hP
      have hD : va_D A (wd_X12_leafOf cI cZ cR a_t a_t_shiftOf a_t_shiftDay a_t_shiftWeight a_t_shiftBloc a_t_shiftTold a_t_wishes a_t_hasWish a_t_weight a_t_bloc a_t_tape a_t_words a_t_codeMany a_t_op a_t_arg a_t_pending a_t_stack a_t_carry a_t_losing a_t_threes a_t_beats a_t_row a_t_leads a_t_places a_t_blocWeight a_t_values a_t_chooser a_t_choices a_t_gets a_t_takes a_t_goesTo a_t_has t_told t_members t_shifts t_viewDay t_viewKnown t_allIn t_manyIn t_weightIn t_taped t_at t_from t_token t_value t_many t_open t_pendings t_readFault t_readPlace t_faultKind t_faultPlace t_motions t_arg_r t_bloc_r t_op_r t_weight_r) := hD
      cases hf
      exact reti X hK hP hD hS dX12_leafOf_34
  · have hf := ipos c3 hf
    refine lv_iload_n hx hb dX12_leafOf_16 rfl (lv_at hl 0 rfl) ?_
    cases hf
    exact reti X hK hP hD hS dX12_leafOf_17

abbrev wd_X12_twoOf (cI cZ cR : ClassId) (a_t a_t_shiftOf a_t_shiftDay a_t_shiftWeight a_t_shiftBloc a_t_shiftTold a_t_wishes a_t_hasWish a_t_weight a_t_bloc a_t_tape a_t_words a_t_codeMany a_t_op a_t_arg a_t_pending a_t_stack a_t_carry a_t_losing a_t_threes a_t_beats a_t_row a_t_leads a_t_places a_t_blocWeight a_t_values a_t_chooser a_t_choices a_t_gets a_t_takes a_t_goesTo a_t_has : Nat) (t_told t_members t_shifts t_viewDay t_viewKnown t_allIn t_manyIn t_weightIn t_taped t_at t_from t_token t_value t_many t_open t_pendings t_readFault t_readPlace t_faultKind t_faultPlace t_motions : Int32) : va_W := [(a_t, oB 11 [.int t_told, .int t_members, .int t_shifts, .ref a_t_shiftOf, .ref a_t_shiftDay, .ref a_t_shiftWeight, .ref a_t_shiftBloc, .ref a_t_shiftTold, .int t_viewDay, .int t_viewKnown, .ref a_t_wishes, .ref a_t_hasWish, .int t_allIn, .int t_manyIn, .int t_weightIn, .ref a_t_weight, .ref a_t_bloc, .ref a_t_tape, .int t_taped, .int t_at, .int t_from, .int t_token, .int t_value, .ref a_t_words, .ref a_t_codeMany, .ref a_t_op, .ref a_t_arg, .int t_many, .int t_open, .ref a_t_pending, .int t_pendings, .int t_readFault, .int t_readPlace, .int t_faultKind, .int t_faultPlace, .ref a_t_stack, .ref a_t_carry, .ref a_t_losing, .ref a_t_threes, .ref a_t_beats, .int t_motions, .ref a_t_row, .ref a_t_leads, .ref a_t_places, .ref a_t_blocWeight, .ref a_t_values, .ref a_t_chooser, .ref a_t_choices, .ref a_t_gets, .ref a_t_takes, .ref a_t_goesTo, .ref a_t_has])]
set_option maxHeartbeats 4000000 in
set_option maxRecDepth 100000 in
theorem c_X12_twoOf (l : Launch) (D : va_G) (cI cZ cR : ClassId) {a_t a_t_shiftOf a_t_shiftDay a_t_shiftWeight a_t_shiftBloc a_t_shiftTold a_t_wishes a_t_hasWish a_t_weight a_t_bloc a_t_tape a_t_words a_t_codeMany a_t_op a_t_arg a_t_pending a_t_stack a_t_carry a_t_losing a_t_threes a_t_beats a_t_row a_t_leads a_t_places a_t_blocWeight a_t_values a_t_chooser a_t_choices a_t_gets a_t_takes a_t_goesTo a_t_has : Nat} {t_told : Int32} {t_members : Int32} {t_shifts : Int32} {t_viewDay : Int32} {t_viewKnown : Int32} {t_allIn : Int32} {t_manyIn : Int32} {t_weightIn : Int32} {t_taped : Int32} {t_at : Int32} {t_from : Int32} {t_token : Int32} {t_value : Int32} {t_many : Int32} {t_open : Int32} {t_pendings : Int32} {t_readFault : Int32} {t_readPlace : Int32} {t_faultKind : Int32} {t_faultPlace : Int32} {t_motions : Int32} {x1 : Int32} {x2 : Int32} {x3 : Int32} {sz : Nat} {out : Int32} (hf : F_X12_twoOf x1 x2 x3 = some out) : CI l yX12_twoOf wsX12_twoOf ({ frames := 0, cells := 0, slots := 0, locals := 0 } : Room) D cI cZ cR [.ref a_t, .int x1, .int x2, .int x3] (wd_X12_twoOf cI cZ cR a_t a_t_shiftOf a_t_shiftDay a_t_shiftWeight a_t_shiftBloc a_t_shiftTold a_t_wishes a_t_hasWish a_t_weight a_t_bloc a_t_tape a_t_words a_t_codeMany a_t_op a_t_arg a_t_pending a_t_stack a_t_carry a_t_losing a_t_threes a_t_beats a_t_row a_t_leads a_t_places a_t_blocWeight a_t_values a_t_chooser a_t_choices a_t_gets a_t_takes a_t_goesTo a_t_has t_told t_members t_shifts t_viewDay t_viewKnown t_allIn t_manyIn t_weightIn t_taped t_at t_from t_token t_value t_many t_open t_pendings t_readFault t_readPlace t_faultKind t_faultPlace t_motions) sz (out) (wd_X12_twoOf cI cZ cR a_t a_t_shiftOf a_t_shiftDay a_t_shiftWeight a_t_shiftBloc a_t_shiftTold a_t_wishes a_t_hasWish a_t_weight a_t_bloc a_t_tape a_t_words a_t_codeMany a_t_op a_t_arg a_t_pending a_t_stack a_t_carry a_t_losing a_t_threes a_t_beats a_t_row a_t_leads a_t_places a_t_blocWeight a_t_values a_t_chooser a_t_choices a_t_gets a_t_takes a_t_goesTo a_t_has t_told t_members t_shifts t_viewDay t_viewKnown t_allIn t_manyIn t_weightIn t_taped t_at t_from t_token t_value t_many t_open t_pendings t_readFault t_readPlace t_faultKind t_faultPlace t_motions) := by
  refine met_of (Qf := fun A => qi D cI cZ cR A (out) (wd_X12_twoOf cI cZ cR a_t a_t_shiftOf a_t_shiftDay a_t_shiftWeight a_t_shiftBloc a_t_shiftTold a_t_wishes a_t_hasWish a_t_weight a_t_bloc a_t_tape a_t_words a_t_codeMany a_t_op a_t_arg a_t_pending a_t_stack a_t_carry a_t_losing a_t_threes a_t_beats a_t_row a_t_leads a_t_places a_t_blocWeight a_t_values a_t_chooser a_t_choices a_t_gets a_t_takes a_t_goesTo a_t_has t_told t_members t_shifts t_viewDay t_viewKnown t_allIn t_manyIn t_weightIn t_taped t_at t_from t_token t_value t_many t_open t_pendings t_readFault t_readPlace t_faultKind t_faultPlace t_motions)) RX12 (by decide +kernel) rfl rfl (Nat.le_of_ble_eq_true rfl) ?_
  intro p e s m below meth c A X hK hA hP hD hS ls hl
  have hl : lv_has ls 4 [(0, .ref a_t), (1, .int x1), (2, .int x2), (3, .int x3)] := hl
  obtain ⟨hx, hb, hml, hr, hown, hts, hlocks, hN⟩ := id X
  unfold F_X12_twoOf at hf
  refine lv_iload_n hx hb dX12_twoOf_0 rfl (lv_at hl 1 rfl) ?_
  refine lv_iconst (v := (4 : Int32)) hx hb dX12_twoOf_1 (by decide) ?_
  refine lv_icmp_ne (tgt := 9) hx hb dX12_twoOf_2 (by decide) (fun c1 => ?_) (fun c1 => ?_)
  · have hf := ineg c1 hf
    refine lv_iload_n hx hb dX12_twoOf_9 rfl (lv_at hl 1 rfl) ?_
    refine lv_iconst (v := (5 : Int32)) hx hb dX12_twoOf_10 (by decide) ?_
    refine lv_icmp_ne (tgt := 18) hx hb dX12_twoOf_11 (by decide) (fun c2 => ?_) (fun c2 => ?_)
    · have hf := ineg c2 hf
      refine lv_iload_n hx hb dX12_twoOf_18 rfl (lv_at hl 1 rfl) ?_
      refine lv_bipush (v := (6 : Int32)) hx hb dX12_twoOf_19 (by decide) ?_
      refine lv_icmp_ne (tgt := 28) hx hb dX12_twoOf_21 (by decide) (fun c3 => ?_) (fun c3 => ?_)
      · have hf := ineg c3 hf
        refine lv_iload_n hx hb dX12_twoOf_28 rfl (lv_at hl 1 rfl) ?_
        refine lv_bipush (v := (7 : Int32)) hx hb dX12_twoOf_29 (by decide) ?_
        refine lv_icmp_ne (tgt := 45) hx hb dX12_twoOf_31 (by decide) (fun c4 => ?_) (fun c4 => ?_)
        · have hf := ineg c4 hf
          refine lv_iload_n hx hb dX12_twoOf_45 rfl (lv_at hl 1 rfl) ?_
          refine lv_bipush (v := (8 : Int32)) hx hb dX12_twoOf_46 (by decide) ?_
          refine lv_icmp_ne (tgt := 62) hx hb dX12_twoOf_48 (by decide) (fun c5 => ?_) (fun c5 => ?_)
          · have hf := ineg c5 hf
            refine lv_iload_n hx hb dX12_twoOf_62 rfl (lv_at hl 1 rfl) ?_
            refine lv_bipush (v := (9 : Int32)) hx hb dX12_twoOf_63 (by decide) ?_
            refine lv_icmp_ne (tgt := 79) hx hb dX12_twoOf_65 (by decide) (fun c6 => ?_) (fun c6 => ?_)
            · have hf := ineg c6 hf
              refine lv_iload_n hx hb dX12_twoOf_79 rfl (lv_at hl 1 rfl) ?_
              refine lv_bipush (v := (11 : Int32)) hx hb dX12_twoOf_80 (by decide) ?_
              refine lv_icmp_ne (tgt := 91) hx hb dX12_twoOf_82 (by decide) (fun c7 => ?_) (fun c7 => ?_)
              · have hf := ineg c7 hf
                refine lv_iload_n hx hb dX12_twoOf_91 rfl (lv_at hl 2 rfl) ?_
                refine lv_iload_n hx hb dX12_twoOf_92 rfl (lv_at hl 3 rfl) ?_
                refine lv_iadd hx hb dX12_twoOf_93 ?_
                refine lv_if_le (tgt := 101) hx hb dX12_twoOf_94 (by decide) (fun c8 => ?_) (fun c8 => ?_)
                · have hf := ipos c8 hf
                  refine lv_iconst (v := (0 : Int32)) hx hb dX12_twoOf_101 (by decide) ?_
                  cases hf
                  exact reti X hK hP hD hS dX12_twoOf_102
                · have hf := ineg c8 hf
                  refine lv_iconst (v := (1 : Int32)) hx hb dX12_twoOf_97 (by decide) ?_
                  refine lv_goto (tgt := 102) hx hb dX12_twoOf_98 (by decide) ?_
                  cases hf
                  exact reti X hK hP hD hS dX12_twoOf_102
              · have hf := ipos c7 hf
                refine lv_iload_n hx hb dX12_twoOf_85 rfl (lv_at hl 2 rfl) ?_
                refine lv_iload_n hx hb dX12_twoOf_86 rfl (lv_at hl 3 rfl) ?_
                refine lv_imul hx hb dX12_twoOf_87 ?_
                refine lv_goto (tgt := 102) hx hb dX12_twoOf_88 (by decide) ?_
                cases hf
                exact reti X hK hP hD hS dX12_twoOf_102
            · have hf := ipos c6 hf
              refine lv_iload_n hx hb dX12_twoOf_68 rfl (lv_at hl 2 rfl) ?_
              refine lv_iload_n hx hb dX12_twoOf_69 rfl (lv_at hl 3 rfl) ?_
              refine lv_icmp_le (tgt := 77) hx hb dX12_twoOf_70 (by decide) (fun c9 => ?_) (fun c9 => ?_)
              · have hf := ipos c9 hf
                refine lv_iconst (v := (0 : Int32)) hx hb dX12_twoOf_77 (by decide) ?_
                cases hf
                exact reti X hK hP hD hS dX12_twoOf_78
              · have hf := ineg c9 hf
                refine lv_iconst (v := (1 : Int32)) hx hb dX12_twoOf_73 (by decide) ?_
                refine lv_goto (tgt := 78) hx hb dX12_twoOf_74 (by decide) ?_
                cases hf
                exact reti X hK hP hD hS dX12_twoOf_78
          · have hf := ipos c5 hf
            refine lv_iload_n hx hb dX12_twoOf_51 rfl (lv_at hl 2 rfl) ?_
            refine lv_iload_n hx hb dX12_twoOf_52 rfl (lv_at hl 3 rfl) ?_
            refine lv_icmp_ne (tgt := 60) hx hb dX12_twoOf_53 (by decide) (fun c10 => ?_) (fun c10 => ?_)
            · have hf := ineg c10 hf
              refine lv_iconst (v := (0 : Int32)) hx hb dX12_twoOf_60 (by decide) ?_
              cases hf
              exact reti X hK hP hD hS dX12_twoOf_61
            · have hf := ipos c10 hf
              refine lv_iconst (v := (1 : Int32)) hx hb dX12_twoOf_56 (by decide) ?_
              refine lv_goto (tgt := 61) hx hb dX12_twoOf_57 (by decide) ?_
              cases hf
              exact reti X hK hP hD hS dX12_twoOf_61
        · have hf := ipos c4 hf
          refine lv_iload_n hx hb dX12_twoOf_34 rfl (lv_at hl 2 rfl) ?_
          refine lv_iload_n hx hb dX12_twoOf_35 rfl (lv_at hl 3 rfl) ?_
          refine lv_icmp_ge (tgt := 43) hx hb dX12_twoOf_36 (by decide) (fun c11 => ?_) (fun c11 => ?_)
          · have hf := ipos c11 hf
            refine lv_iconst (v := (0 : Int32)) hx hb dX12_twoOf_43 (by decide) ?_
            cases hf
            exact reti X hK hP hD hS dX12_twoOf_44
          · have hf := ineg c11 hf
            refine lv_iconst (v := (1 : Int32)) hx hb dX12_twoOf_39 (by decide) ?_
            refine lv_goto (tgt := 44) hx hb dX12_twoOf_40 (by decide) ?_
            cases hf
            exact reti X hK hP hD hS dX12_twoOf_44
      · have hf := ipos c3 hf
        refine lv_iload_n hx hb dX12_twoOf_24 rfl (lv_at hl 2 rfl) ?_
        refine lv_iload_n hx hb dX12_twoOf_25 rfl (lv_at hl 3 rfl) ?_
        refine lv_imul hx hb dX12_twoOf_26 ?_
        cases hf
        exact reti X hK hP hD hS dX12_twoOf_27
    · have hf := ipos c2 hf
      refine lv_iload_n hx hb dX12_twoOf_14 rfl (lv_at hl 2 rfl) ?_
      refine lv_iload_n hx hb dX12_twoOf_15 rfl (lv_at hl 3 rfl) ?_
      refine lv_isub hx hb dX12_twoOf_16 ?_
      cases hf
      exact reti X hK hP hD hS dX12_twoOf_17
  · have hf := ipos c1 hf
    refine lv_iload_n hx hb dX12_twoOf_5 rfl (lv_at hl 2 rfl) ?_
    refine lv_iload_n hx hb dX12_twoOf_6 rfl (lv_at hl 3 rfl) ?_
    refine lv_iadd hx hb dX12_twoOf_7 ?_
    cases hf
    exact reti X hK hP hD hS dX12_twoOf_8

abbrev wd_X12_carriesBy (cI cZ cR : ClassId) (a_t a_t_shiftOf a_t_shiftDay a_t_shiftWeight a_t_shiftBloc a_t_shiftTold a_t_wishes a_t_hasWish a_t_weight a_t_bloc a_t_tape a_t_words a_t_codeMany a_t_op a_t_arg a_t_pending a_t_stack a_t_carry a_t_losing a_t_threes a_t_beats a_t_row a_t_leads a_t_places a_t_blocWeight a_t_values a_t_chooser a_t_choices a_t_gets a_t_takes a_t_goesTo a_t_has : Nat) (t_told t_members t_shifts t_viewDay t_viewKnown t_allIn t_manyIn t_weightIn t_taped t_at t_from t_token t_value t_many t_open t_pendings t_readFault t_readPlace t_faultKind t_faultPlace t_motions : Int32) (t_arg_r : Nat → Int32) (t_bloc_r : Nat → Int32) (t_codeMany_r : Nat → Int32) (t_op_r : Nat → Int32) (t_stack_r : Nat → Int32) (t_weight_r : Nat → Int32) : va_W := [(a_t, oB 11 [.int t_told, .int t_members, .int t_shifts, .ref a_t_shiftOf, .ref a_t_shiftDay, .ref a_t_shiftWeight, .ref a_t_shiftBloc, .ref a_t_shiftTold, .int t_viewDay, .int t_viewKnown, .ref a_t_wishes, .ref a_t_hasWish, .int t_allIn, .int t_manyIn, .int t_weightIn, .ref a_t_weight, .ref a_t_bloc, .ref a_t_tape, .int t_taped, .int t_at, .int t_from, .int t_token, .int t_value, .ref a_t_words, .ref a_t_codeMany, .ref a_t_op, .ref a_t_arg, .int t_many, .int t_open, .ref a_t_pending, .int t_pendings, .int t_readFault, .int t_readPlace, .int t_faultKind, .int t_faultPlace, .ref a_t_stack, .ref a_t_carry, .ref a_t_losing, .ref a_t_threes, .ref a_t_beats, .int t_motions, .ref a_t_row, .ref a_t_leads, .ref a_t_places, .ref a_t_blocWeight, .ref a_t_values, .ref a_t_chooser, .ref a_t_choices, .ref a_t_gets, .ref a_t_takes, .ref a_t_goesTo, .ref a_t_has]), (a_t_arg, aI cI 2500 t_arg_r), (a_t_bloc, aI cI 10 t_bloc_r), (a_t_codeMany, aI cI 5 t_codeMany_r), (a_t_op, aI cI 2500 t_op_r), (a_t_stack, aI cI 60 t_stack_r), (a_t_weight, aI cI 10 t_weight_r)]
set_option maxRecDepth 100000 in
theorem in_X12_carriesBy_X12 : ∀ w ∈ wsX120, w ∈ wsX12_carriesBy := by decide +kernel
set_option maxHeartbeats 4000000 in
set_option maxRecDepth 100000 in
theorem w_X12_carriesBy_20 {p : Program} {l : Launch} {e : Env} {s : State} {m : MethodId} {args : Array Value} {below : List Frame} {meth : Method} {c : Code} {D : va_G} {cI cZ cR : ClassId} {A : Nat → Prop} {a_t a_t_shiftOf a_t_shiftDay a_t_shiftWeight a_t_shiftBloc a_t_shiftTold a_t_wishes a_t_hasWish a_t_weight a_t_bloc a_t_tape a_t_words a_t_codeMany a_t_op a_t_arg a_t_pending a_t_stack a_t_carry a_t_losing a_t_threes a_t_beats a_t_row a_t_leads a_t_places a_t_blocWeight a_t_values a_t_chooser a_t_choices a_t_gets a_t_takes a_t_goesTo a_t_has : Nat} {t_told : Int32} {t_members : Int32} {t_shifts : Int32} {t_viewDay : Int32} {t_viewKnown : Int32} {t_allIn : Int32} {t_manyIn : Int32} {t_weightIn : Int32} {t_taped : Int32} {t_at : Int32} {t_from : Int32} {t_token : Int32} {t_value : Int32} {t_many : Int32} {t_open : Int32} {t_pendings : Int32} {t_readFault : Int32} {t_readPlace : Int32} {t_faultKind : Int32} {t_faultPlace : Int32} {t_motions : Int32} {t_arg_r : Nat → Int32} {t_bloc_r : Nat → Int32} {t_codeMany_r : Nat → Int32} {t_op_r : Nat → Int32} {t_weight_r : Nat → Int32} {x1 : Int32} {x2 : Int32} {out : Int32 × (Nat → Int32)} (X : cx p s m args meth c cX12_carriesBy 5 (some .boolean) RX12 wsX12_carriesBy) (hK : va_K D vwCl (ty3 cI cZ cR) s) (hA : ∀ q, s.heap.size ≤ q → A q) : ∀ (n : Nat) (x3 : Int32) (x4 : Int32) (t_stack_r : Nat → Int32), F_X12_carriesBy_20 x1 x2 t_manyIn t_members t_weightIn t_arg_r t_bloc_r t_codeMany_r t_op_r t_weight_r n x3 x4 t_stack_r = some out → ∀ (H : Heap) (locs : List Loc), va_P D vwCl (wd_X12_carriesBy cI cZ cR a_t a_t_shiftOf a_t_shiftDay a_t_shiftWeight a_t_shiftBloc a_t_shiftTold a_t_wishes a_t_hasWish a_t_weight a_t_bloc a_t_tape a_t_words a_t_codeMany a_t_op a_t_arg a_t_pending a_t_stack a_t_carry a_t_losing a_t_threes a_t_beats a_t_row a_t_leads a_t_places a_t_blocWeight a_t_values a_t_chooser a_t_choices a_t_gets a_t_takes a_t_goesTo a_t_has t_told t_members t_shifts t_viewDay t_viewKnown t_allIn t_manyIn t_weightIn t_taped t_at t_from t_token t_value t_many t_open t_pendings t_readFault t_readPlace t_faultKind t_faultPlace t_motions t_arg_r t_bloc_r t_codeMany_r t_op_r t_stack_r t_weight_r) H → va_D A (wd_X12_carriesBy cI cZ cR a_t a_t_shiftOf a_t_shiftDay a_t_shiftWeight a_t_shiftBloc a_t_shiftTold a_t_wishes a_t_hasWish a_t_weight a_t_bloc a_t_tape a_t_words a_t_codeMany a_t_op a_t_arg a_t_pending a_t_stack a_t_carry a_t_losing a_t_threes a_t_beats a_t_row a_t_leads a_t_places a_t_blocWeight a_t_values a_t_chooser a_t_choices a_t_gets a_t_takes a_t_goesTo a_t_has t_told t_members t_shifts t_viewDay t_viewKnown t_allIn t_manyIn t_weightIn t_taped t_at t_from t_token t_value t_many t_open t_pendings t_readFault t_readPlace t_faultKind t_faultPlace t_motions t_arg_r t_bloc_r t_codeMany_r t_op_r t_stack_r t_weight_r) → va_S A s.heap H locs → ∀ (ls : Array Slot), lv_has ls 5 [(0, .ref a_t), (1, .int x1), (2, .int x2), (3, .int x3), (4, .int x4)] → W p l e (headSpec wsX12_carriesBy ({ frames := 4, cells := 0, slots := 0, locals := 91 } : Room)).room s m args below meth c H locs 0 0 (MQ below (qi D cI cZ cR A (out.1) (wd_X12_carriesBy cI cZ cR a_t a_t_shiftOf a_t_shiftDay a_t_shiftWeight a_t_shiftBloc a_t_shiftTold a_t_wishes a_t_hasWish a_t_weight a_t_bloc a_t_tape a_t_words a_t_codeMany a_t_op a_t_arg a_t_pending a_t_stack a_t_carry a_t_losing a_t_threes a_t_beats a_t_row a_t_leads a_t_places a_t_blocWeight a_t_values a_t_chooser a_t_choices a_t_gets a_t_takes a_t_goesTo a_t_has t_told t_members t_shifts t_viewDay t_viewKnown t_allIn t_manyIn t_weightIn t_taped t_at t_from t_token t_value t_many t_open t_pendings t_readFault t_readPlace t_faultKind t_faultPlace t_motions t_arg_r t_bloc_r t_codeMany_r t_op_r (out.2) t_weight_r)) args s 0 0 A) (F0 m 20 ls []) := by
  obtain ⟨hx, hb, hml, hr, hown, hts, hlocks, hN⟩ := id X
  intro n
  induction n with
  | zero =>
    intro x3 x4 t_stack_r hf
    cases (show (none : Option (Int32 × (Nat → Int32))) = some out from hf)
  | succ n ih =>
    intro x3 x4 t_stack_r hf H locs hP hD hS ls hl
    rw [F_X12_carriesBy_20] at hf
    refine lv_iload hx hb dX12_carriesBy_20 (lv_at hl 4 rfl) ?_
    refine lv_sipush (v := (500 : Int32)) hx hb dX12_carriesBy_22 (by decide) ?_
    refine lv_iload_n hx hb dX12_carriesBy_25 rfl (lv_at hl 1 rfl) ?_
    refine lv_imul hx hb dX12_carriesBy_26 ?_
    refine lv_aload_n hx hb dX12_carriesBy_27 rfl (lv_at hl 0 rfl) ?_
    refine va_get (D := D) (ci := 11) (v := .ref a_t_codeMany) (C := RX12) (T := TX12) (N := 52) hx hb hts in_X12_carriesBy_X12 hown hK hP 0 rfl rfl 24 (by decide) (hts (.fieldLink RX12 51 "DivisionHallModel" "codeMany" "[I") (by decide +kernel)) (fun _ h9 => h9) rfl dX12_carriesBy_28 ?_
    refine lv_iload_n hx hb dX12_carriesBy_31 rfl (lv_at hl 1 rfl) ?_
    obtain ⟨hi3, hf⟩ := gin_s hf
    refine va_iald hx hb hK hP 3 0 rfl rfl hi3 dX12_carriesBy_32 ?_
    refine lv_iadd hx hb dX12_carriesBy_33 ?_
    refine lv_icmp_ge (tgt := 144) hx hb dX12_carriesBy_34 (by decide) (fun c4 => ?_) (fun c4 => ?_)
    · have hf := ipos c4 hf
      refine lv_aload_n hx hb dX12_carriesBy_144 rfl (lv_at hl 0 rfl) ?_
      refine va_get (D := D) (ci := 11) (v := .ref a_t_stack) (C := RX12) (T := TX12) (N := 52) hx hb hts in_X12_carriesBy_X12 hown hK hP 0 rfl rfl 35 (by decide) (hts (.fieldLink RX12 66 "DivisionHallModel" "stack" "[I") (by decide +kernel)) (fun _ h9 => h9) rfl dX12_carriesBy_145 ?_
      refine lv_iconst (v := (0 : Int32)) hx hb dX12_carriesBy_148 (by decide) ?_
      obtain ⟨hi5, hf⟩ := gin_s hf
      refine va_iald hx hb hK hP 5 0 rfl rfl hi5 dX12_carriesBy_149 ?_
      refine lv_if_eq (tgt := 157) hx hb dX12_carriesBy_150 (by decide) (fun c6 => ?_) (fun c6 => ?_)
      · have hf := ipos c6 hf
        refine lv_iconst (v := (0 : Int32)) hx hb dX12_carriesBy_157 (by decide) ?_
        cases hf
        exact retz (Or.inl rfl) X hK hP hD hS dX12_carriesBy_158
      · have hf := ineg c6 hf
        refine lv_iconst (v := (1 : Int32)) hx hb dX12_carriesBy_153 (by decide) ?_
        refine lv_goto (tgt := 158) hx hb dX12_carriesBy_154 (by decide) ?_
        cases hf
        exact retz (Or.inr rfl) X hK hP hD hS dX12_carriesBy_158
    · have hf := ineg c4 hf
      refine lv_aload_n hx hb dX12_carriesBy_37 rfl (lv_at hl 0 rfl) ?_
      refine va_get (D := D) (ci := 11) (v := .ref a_t_op) (C := RX12) (T := TX12) (N := 52) hx hb hts in_X12_carriesBy_X12 hown hK hP 0 rfl rfl 25 (by decide) (hts (.fieldLink RX12 54 "DivisionHallModel" "op" "[I") (by decide +kernel)) (fun _ h9 => h9) rfl dX12_carriesBy_38 ?_
      refine lv_iload hx hb dX12_carriesBy_41 (lv_at hl 4 rfl) ?_
      obtain ⟨hi7, hf⟩ := gin_s hf
      refine va_iald hx hb hK hP 4 0 rfl rfl hi7 dX12_carriesBy_43 ?_
      refine lv_iconst (v := (3 : Int32)) hx hb dX12_carriesBy_44 (by decide) ?_
      refine lv_icmp_gt (tgt := 68) hx hb dX12_carriesBy_45 (by decide) (fun c8 => ?_) (fun c8 => ?_)
      · have hf := ipos c8 hf
        refine lv_aload_n hx hb dX12_carriesBy_68 rfl (lv_at hl 0 rfl) ?_
        refine va_get (D := D) (ci := 11) (v := .ref a_t_op) (C := RX12) (T := TX12) (N := 52) hx hb hts in_X12_carriesBy_X12 hown hK hP 0 rfl rfl 25 (by decide) (hts (.fieldLink RX12 54 "DivisionHallModel" "op" "[I") (by decide +kernel)) (fun _ h9 => h9) rfl dX12_carriesBy_69 ?_
        refine lv_iload hx hb dX12_carriesBy_72 (lv_at hl 4 rfl) ?_
        obtain ⟨hi9, hf⟩ := gin_s hf
        refine va_iald hx hb hK hP 4 0 rfl rfl hi9 dX12_carriesBy_74 ?_
        refine lv_bipush (v := (10 : Int32)) hx hb dX12_carriesBy_75 (by decide) ?_
        refine lv_icmp_ne (tgt := 101) hx hb dX12_carriesBy_77 (by decide) (fun c10 => ?_) (fun c10 => ?_)
        · have hf := ineg c10 hf
          refine lv_iload_n hx hb dX12_carriesBy_101 rfl (lv_at hl 3 rfl) ?_
          refine lv_iconst (v := (1 : Int32)) hx hb dX12_carriesBy_102 (by decide) ?_
          refine lv_isub hx hb dX12_carriesBy_103 ?_
          refine lv_istore_n (lv' := [(3, .int (x3 - (1 : Int32))), (0, .ref a_t), (1, .int x1), (2, .int x2), (4, .int x4)]) hx hb dX12_carriesBy_104 rfl hl (by decide) rfl (fun ls hl => ?_)
          refine lv_aload_n hx hb dX12_carriesBy_105 rfl (lv_at hl 1 rfl) ?_
          refine va_get (D := D) (ci := 11) (v := .ref a_t_stack) (C := RX12) (T := TX12) (N := 52) hx hb hts in_X12_carriesBy_X12 hown hK hP 0 rfl rfl 35 (by decide) (hts (.fieldLink RX12 66 "DivisionHallModel" "stack" "[I") (by decide +kernel)) (fun _ h9 => h9) rfl dX12_carriesBy_106 ?_
          refine lv_iload_n hx hb dX12_carriesBy_109 rfl (lv_at hl 0 rfl) ?_
          refine lv_iconst (v := (1 : Int32)) hx hb dX12_carriesBy_110 (by decide) ?_
          refine lv_isub hx hb dX12_carriesBy_111 ?_
          refine lv_aload_n hx hb dX12_carriesBy_112 rfl (lv_at hl 1 rfl) ?_
          refine lv_aload_n hx hb dX12_carriesBy_113 rfl (lv_at hl 1 rfl) ?_
          refine va_get (D := D) (ci := 11) (v := .ref a_t_op) (C := RX12) (T := TX12) (N := 52) hx hb hts in_X12_carriesBy_X12 hown hK hP 0 rfl rfl 25 (by decide) (hts (.fieldLink RX12 54 "DivisionHallModel" "op" "[I") (by decide +kernel)) (fun _ h9 => h9) rfl dX12_carriesBy_114 ?_
          refine lv_iload hx hb dX12_carriesBy_117 (lv_at hl 4 rfl) ?_
          obtain ⟨hi11, hf⟩ := gin_s hf
          refine va_iald hx hb hK hP 4 0 rfl rfl hi11 dX12_carriesBy_119 ?_
          refine lv_aload_n hx hb dX12_carriesBy_120 rfl (lv_at hl 1 rfl) ?_
          refine va_get (D := D) (ci := 11) (v := .ref a_t_stack) (C := RX12) (T := TX12) (N := 52) hx hb hts in_X12_carriesBy_X12 hown hK hP 0 rfl rfl 35 (by decide) (hts (.fieldLink RX12 66 "DivisionHallModel" "stack" "[I") (by decide +kernel)) (fun _ h9 => h9) rfl dX12_carriesBy_121 ?_
          refine lv_iload_n hx hb dX12_carriesBy_124 rfl (lv_at hl 0 rfl) ?_
          refine lv_iconst (v := (1 : Int32)) hx hb dX12_carriesBy_125 (by decide) ?_
          refine lv_isub hx hb dX12_carriesBy_126 ?_
          obtain ⟨hi12, hf⟩ := gin_s hf
          refine va_iald hx hb hK hP 5 0 rfl rfl hi12 dX12_carriesBy_127 ?_
          refine lv_aload_n hx hb dX12_carriesBy_128 rfl (lv_at hl 1 rfl) ?_
          refine va_get (D := D) (ci := 11) (v := .ref a_t_stack) (C := RX12) (T := TX12) (N := 52) hx hb hts in_X12_carriesBy_X12 hown hK hP 0 rfl rfl 35 (by decide) (hts (.fieldLink RX12 66 "DivisionHallModel" "stack" "[I") (by decide +kernel)) (fun _ h9 => h9) rfl dX12_carriesBy_129 ?_
          refine lv_iload_n hx hb dX12_carriesBy_132 rfl (lv_at hl 0 rfl) ?_
          obtain ⟨hi13, hf⟩ := gin_s hf
          refine va_iald hx hb hK hP 5 0 rfl rfl hi13 dX12_carriesBy_133 ?_
          obtain ⟨r14, hr15, hf⟩ := bnd hf
          refine wcalli (D := D) (cI := cI) (cZ := cZ) (cR := cR) (wc := (wd_X12_twoOf cI cZ cR a_t a_t_shiftOf a_t_shiftDay a_t_shiftWeight a_t_shiftBloc a_t_shiftTold a_t_wishes a_t_hasWish a_t_weight a_t_bloc a_t_tape a_t_words a_t_codeMany a_t_op a_t_arg a_t_pending a_t_stack a_t_carry a_t_losing a_t_threes a_t_beats a_t_row a_t_leads a_t_places a_t_blocWeight a_t_values a_t_chooser a_t_choices a_t_gets a_t_takes a_t_goesTo a_t_has t_told t_members t_shifts t_viewDay t_viewKnown t_allIn t_manyIn t_weightIn t_taped t_at t_from t_token t_value t_many t_open t_pendings t_readFault t_readPlace t_faultKind t_faultPlace t_motions)) (w' := (wd_X12_twoOf cI cZ cR a_t a_t_shiftOf a_t_shiftDay a_t_shiftWeight a_t_shiftBloc a_t_shiftTold a_t_wishes a_t_hasWish a_t_weight a_t_bloc a_t_tape a_t_words a_t_codeMany a_t_op a_t_arg a_t_pending a_t_stack a_t_carry a_t_losing a_t_threes a_t_beats a_t_row a_t_leads a_t_places a_t_blocWeight a_t_values a_t_chooser a_t_choices a_t_gets a_t_takes a_t_goesTo a_t_has t_told t_members t_shifts t_viewDay t_viewKnown t_allIn t_manyIn t_weightIn t_taped t_at t_from t_token t_value t_many t_open t_pendings t_readFault t_readPlace t_faultKind t_faultPlace t_motions)) [0] hP hD hS hA rfl rfl rfl (rnV (As := [.int (t_op_r (x4).toNatClampNeg), .int (t_stack_r (((x3 - (1 : Int32)) - (1 : Int32))).toNatClampNeg), .int (t_stack_r ((x3 - (1 : Int32))).toNatClampNeg)]) (ci := 11) (q0 := 0) X [0] hK hP hD rfl rfl rfl rfl (c_X12_twoOf l D cI cZ cR hr15) (cwV 3 hts gX12_carriesBy_X12_twoOf rfl rfl rfl (by decide +kernel) ⟨Nat.le_of_ble_eq_true rfl, Nat.le_of_ble_eq_true rfl⟩) rfl hl.1 rfl (Nat.le_of_ble_eq_true rfl) dX12_carriesBy_134) (fun H locs hP hD hS => ?_)
          have hP : va_P D vwCl (wd_X12_carriesBy cI cZ cR a_t a_t_shiftOf a_t_shiftDay a_t_shiftWeight a_t_shiftBloc a_t_shiftTold a_t_wishes a_t_hasWish a_t_weight a_t_bloc a_t_tape a_t_words a_t_codeMany a_t_op a_t_arg a_t_pending a_t_stack a_t_carry a_t_losing a_t_threes a_t_beats a_t_row a_t_leads a_t_places a_t_blocWeight a_t_values a_t_chooser a_t_choices a_t_gets a_t_takes a_t_goesTo a_t_has t_told t_members t_shifts t_viewDay t_viewKnown t_allIn t_manyIn t_weightIn t_taped t_at t_from t_token t_value t_many t_open t_pendings t_readFault t_readPlace t_faultKind t_faultPlace t_motions t_arg_r t_bloc_r t_codeMany_r t_op_r t_stack_r t_weight_r) H := hP
          have hD : va_D A (wd_X12_carriesBy cI cZ cR a_t a_t_shiftOf a_t_shiftDay a_t_shiftWeight a_t_shiftBloc a_t_shiftTold a_t_wishes a_t_hasWish a_t_weight a_t_bloc a_t_tape a_t_words a_t_codeMany a_t_op a_t_arg a_t_pending a_t_stack a_t_carry a_t_losing a_t_threes a_t_beats a_t_row a_t_leads a_t_places a_t_blocWeight a_t_values a_t_chooser a_t_choices a_t_gets a_t_takes a_t_goesTo a_t_has t_told t_members t_shifts t_viewDay t_viewKnown t_allIn t_manyIn t_weightIn t_taped t_at t_from t_token t_value t_many t_open t_pendings t_readFault t_readPlace t_faultKind t_faultPlace t_motions t_arg_r t_bloc_r t_codeMany_r t_op_r t_stack_r t_weight_r) := hD
          obtain ⟨hi16, hf⟩ := gin_s hf
          refine va_iast hx hb hK hP hD hS 5 0 rfl rfl hi16 dX12_carriesBy_137 (fun H locs hP hD hS => ?_)
          have hP : va_P D vwCl (wd_X12_carriesBy cI cZ cR a_t a_t_shiftOf a_t_shiftDay a_t_shiftWeight a_t_shiftBloc a_t_shiftTold a_t_wishes a_t_hasWish a_t_weight a_t_bloc a_t_tape a_t_words a_t_codeMany a_t_op a_t_arg a_t_pending a_t_stack a_t_carry a_t_losing a_t_threes a_t_beats a_t_row a_t_leads a_t_places a_t_blocWeight a_t_values a_t_chooser a_t_choices a_t_gets a_t_takes a_t_goesTo a_t_has t_told t_members t_shifts t_viewDay t_viewKnown t_allIn t_manyIn t_weightIn t_taped t_at t_from t_token t_value t_many t_open t_pendings t_readFault t_readPlace t_faultKind t_faultPlace t_motions t_arg_r t_bloc_r t_codeMany_r t_op_r (upd t_stack_r (((x3 - (1 : Int32)) - (1 : Int32))).toNatClampNeg r14) t_weight_r) H := hP
          have hD : va_D A (wd_X12_carriesBy cI cZ cR a_t a_t_shiftOf a_t_shiftDay a_t_shiftWeight a_t_shiftBloc a_t_shiftTold a_t_wishes a_t_hasWish a_t_weight a_t_bloc a_t_tape a_t_words a_t_codeMany a_t_op a_t_arg a_t_pending a_t_stack a_t_carry a_t_losing a_t_threes a_t_beats a_t_row a_t_leads a_t_places a_t_blocWeight a_t_values a_t_chooser a_t_choices a_t_gets a_t_takes a_t_goesTo a_t_has t_told t_members t_shifts t_viewDay t_viewKnown t_allIn t_manyIn t_weightIn t_taped t_at t_from t_token t_value t_many t_open t_pendings t_readFault t_readPlace t_faultKind t_faultPlace t_motions t_arg_r t_bloc_r t_codeMany_r t_op_r (upd t_stack_r (((x3 - (1 : Int32)) - (1 : Int32))).toNatClampNeg r14) t_weight_r) := hD
          refine lv_iinc (v := (x4 + (1 : Int32))) (lv' := [(4, .int (x4 + (1 : Int32))), (3, .int (x3 - (1 : Int32))), (0, .ref a_t), (1, .int x1), (2, .int x2)]) hx hb dX12_carriesBy_138 hl (k := 4) rfl rfl (by decide) rfl (fun ls hl => ?_)
          refine lv_goto (tgt := 20) hx hb dX12_carriesBy_141 (by decide) ?_
          exact ih (x3 - (1 : Int32)) (x4 + (1 : Int32)) (upd t_stack_r (((x3 - (1 : Int32)) - (1 : Int32))).toNatClampNeg r14) hf _ _ hP hD hS _ (lv_sub hl [2, 3, 4, 1, 0] rfl)
        · have hf := ipos c10 hf
          refine lv_aload_n hx hb dX12_carriesBy_80 rfl (lv_at hl 0 rfl) ?_
          refine va_get (D := D) (ci := 11) (v := .ref a_t_stack) (C := RX12) (T := TX12) (N := 52) hx hb hts in_X12_carriesBy_X12 hown hK hP 0 rfl rfl 35 (by decide) (hts (.fieldLink RX12 66 "DivisionHallModel" "stack" "[I") (by decide +kernel)) (fun _ h9 => h9) rfl dX12_carriesBy_81 ?_
          refine lv_iload_n hx hb dX12_carriesBy_84 rfl (lv_at hl 3 rfl) ?_
          refine lv_iconst (v := (1 : Int32)) hx hb dX12_carriesBy_85 (by decide) ?_
          refine lv_isub hx hb dX12_carriesBy_86 ?_
          refine lv_iconst (v := (1 : Int32)) hx hb dX12_carriesBy_87 (by decide) ?_
          refine lv_aload_n hx hb dX12_carriesBy_88 rfl (lv_at hl 0 rfl) ?_
          refine va_get (D := D) (ci := 11) (v := .ref a_t_stack) (C := RX12) (T := TX12) (N := 52) hx hb hts in_X12_carriesBy_X12 hown hK hP 0 rfl rfl 35 (by decide) (hts (.fieldLink RX12 66 "DivisionHallModel" "stack" "[I") (by decide +kernel)) (fun _ h9 => h9) rfl dX12_carriesBy_89 ?_
          refine lv_iload_n hx hb dX12_carriesBy_92 rfl (lv_at hl 3 rfl) ?_
          refine lv_iconst (v := (1 : Int32)) hx hb dX12_carriesBy_93 (by decide) ?_
          refine lv_isub hx hb dX12_carriesBy_94 ?_
          obtain ⟨hi17, hf⟩ := gin_s hf
          refine va_iald hx hb hK hP 5 0 rfl rfl hi17 dX12_carriesBy_95 ?_
          refine lv_isub hx hb dX12_carriesBy_96 ?_
          obtain ⟨hi18, hf⟩ := gin_s hf
          refine va_iast hx hb hK hP hD hS 5 0 rfl rfl hi18 dX12_carriesBy_97 (fun H locs hP hD hS => ?_)
          have hP : va_P D vwCl (wd_X12_carriesBy cI cZ cR a_t a_t_shiftOf a_t_shiftDay a_t_shiftWeight a_t_shiftBloc a_t_shiftTold a_t_wishes a_t_hasWish a_t_weight a_t_bloc a_t_tape a_t_words a_t_codeMany a_t_op a_t_arg a_t_pending a_t_stack a_t_carry a_t_losing a_t_threes a_t_beats a_t_row a_t_leads a_t_places a_t_blocWeight a_t_values a_t_chooser a_t_choices a_t_gets a_t_takes a_t_goesTo a_t_has t_told t_members t_shifts t_viewDay t_viewKnown t_allIn t_manyIn t_weightIn t_taped t_at t_from t_token t_value t_many t_open t_pendings t_readFault t_readPlace t_faultKind t_faultPlace t_motions t_arg_r t_bloc_r t_codeMany_r t_op_r (upd t_stack_r ((x3 - (1 : Int32))).toNatClampNeg ((1 : Int32) - (t_stack_r ((x3 - (1 : Int32))).toNatClampNeg))) t_weight_r) H := hP
          have hD : va_D A (wd_X12_carriesBy cI cZ cR a_t a_t_shiftOf a_t_shiftDay a_t_shiftWeight a_t_shiftBloc a_t_shiftTold a_t_wishes a_t_hasWish a_t_weight a_t_bloc a_t_tape a_t_words a_t_codeMany a_t_op a_t_arg a_t_pending a_t_stack a_t_carry a_t_losing a_t_threes a_t_beats a_t_row a_t_leads a_t_places a_t_blocWeight a_t_values a_t_chooser a_t_choices a_t_gets a_t_takes a_t_goesTo a_t_has t_told t_members t_shifts t_viewDay t_viewKnown t_allIn t_manyIn t_weightIn t_taped t_at t_from t_token t_value t_many t_open t_pendings t_readFault t_readPlace t_faultKind t_faultPlace t_motions t_arg_r t_bloc_r t_codeMany_r t_op_r (upd t_stack_r ((x3 - (1 : Int32))).toNatClampNeg ((1 : Int32) - (t_stack_r ((x3 - (1 : Int32))).toNatClampNeg))) t_weight_r) := hD
          refine lv_goto (tgt := 138) hx hb dX12_carriesBy_98 (by decide) ?_
          refine lv_iinc (v := (x4 + (1 : Int32))) (lv' := [(4, .int (x4 + (1 : Int32))), (0, .ref a_t), (1, .int x1), (2, .int x2), (3, .int x3)]) hx hb dX12_carriesBy_138 hl (k := 4) rfl rfl (by decide) rfl (fun ls hl => ?_)
          refine lv_goto (tgt := 20) hx hb dX12_carriesBy_141 (by decide) ?_
          exact ih x3 (x4 + (1 : Int32)) (upd t_stack_r ((x3 - (1 : Int32))).toNatClampNeg ((1 : Int32) - (t_stack_r ((x3 - (1 : Int32))).toNatClampNeg))) hf _ _ hP hD hS _ (lv_sub hl [1, 2, 3, 4, 0] rfl)
      · have hf := ineg c8 hf
        refine lv_aload_n hx hb dX12_carriesBy_48 rfl (lv_at hl 0 rfl) ?_
        refine va_get (D := D) (ci := 11) (v := .ref a_t_stack) (C := RX12) (T := TX12) (N := 52) hx hb hts in_X12_carriesBy_X12 hown hK hP 0 rfl rfl 35 (by decide) (hts (.fieldLink RX12 66 "DivisionHallModel" "stack" "[I") (by decide +kernel)) (fun _ h9 => h9) rfl dX12_carriesBy_49 ?_
        refine lv_iload_n hx hb dX12_carriesBy_52 rfl (lv_at hl 3 rfl) ?_
        refine lv_aload_n hx hb dX12_carriesBy_53 rfl (lv_at hl 0 rfl) ?_
        refine lv_iload hx hb dX12_carriesBy_54 (lv_at hl 4 rfl) ?_
        refine lv_iload_n hx hb dX12_carriesBy_56 rfl (lv_at hl 2 rfl) ?_
        obtain ⟨r19, hr20, hf⟩ := bnd hf
        refine wcalli (D := D) (cI := cI) (cZ := cZ) (cR := cR) (wc := (wd_X12_leafOf cI cZ cR a_t a_t_shiftOf a_t_shiftDay a_t_shiftWeight a_t_shiftBloc a_t_shiftTold a_t_wishes a_t_hasWish a_t_weight a_t_bloc a_t_tape a_t_words a_t_codeMany a_t_op a_t_arg a_t_pending a_t_stack a_t_carry a_t_losing a_t_threes a_t_beats a_t_row a_t_leads a_t_places a_t_blocWeight a_t_values a_t_chooser a_t_choices a_t_gets a_t_takes a_t_goesTo a_t_has t_told t_members t_shifts t_viewDay t_viewKnown t_allIn t_manyIn t_weightIn t_taped t_at t_from t_token t_value t_many t_open t_pendings t_readFault t_readPlace t_faultKind t_faultPlace t_motions t_arg_r t_bloc_r t_op_r t_weight_r)) (w' := (wd_X12_leafOf cI cZ cR a_t a_t_shiftOf a_t_shiftDay a_t_shiftWeight a_t_shiftBloc a_t_shiftTold a_t_wishes a_t_hasWish a_t_weight a_t_bloc a_t_tape a_t_words a_t_codeMany a_t_op a_t_arg a_t_pending a_t_stack a_t_carry a_t_losing a_t_threes a_t_beats a_t_row a_t_leads a_t_places a_t_blocWeight a_t_values a_t_chooser a_t_choices a_t_gets a_t_takes a_t_goesTo a_t_has t_told t_members t_shifts t_viewDay t_viewKnown t_allIn t_manyIn t_weightIn t_taped t_at t_from t_token t_value t_many t_open t_pendings t_readFault t_readPlace t_faultKind t_faultPlace t_motions t_arg_r t_bloc_r t_op_r t_weight_r)) [0, 1, 2, 4, 6] hP hD hS hA rfl rfl rfl (rnV (As := [.int x4, .int x2]) (ci := 11) (q0 := 0) X [0, 1, 2, 4, 6] hK hP hD rfl rfl rfl rfl (c_X12_leafOf l D cI cZ cR hr20) (cwV 2 hts gX12_carriesBy_X12_leafOf rfl rfl rfl (by decide +kernel) ⟨Nat.le_of_ble_eq_true rfl, Nat.le_of_ble_eq_true rfl⟩) rfl hl.1 rfl (Nat.le_of_ble_eq_true rfl) dX12_carriesBy_57) (fun H locs hP hD hS => ?_)
        have hP : va_P D vwCl (wd_X12_carriesBy cI cZ cR a_t a_t_shiftOf a_t_shiftDay a_t_shiftWeight a_t_shiftBloc a_t_shiftTold a_t_wishes a_t_hasWish a_t_weight a_t_bloc a_t_tape a_t_words a_t_codeMany a_t_op a_t_arg a_t_pending a_t_stack a_t_carry a_t_losing a_t_threes a_t_beats a_t_row a_t_leads a_t_places a_t_blocWeight a_t_values a_t_chooser a_t_choices a_t_gets a_t_takes a_t_goesTo a_t_has t_told t_members t_shifts t_viewDay t_viewKnown t_allIn t_manyIn t_weightIn t_taped t_at t_from t_token t_value t_many t_open t_pendings t_readFault t_readPlace t_faultKind t_faultPlace t_motions t_arg_r t_bloc_r t_codeMany_r t_op_r t_stack_r t_weight_r) H := hP
        have hD : va_D A (wd_X12_carriesBy cI cZ cR a_t a_t_shiftOf a_t_shiftDay a_t_shiftWeight a_t_shiftBloc a_t_shiftTold a_t_wishes a_t_hasWish a_t_weight a_t_bloc a_t_tape a_t_words a_t_codeMany a_t_op a_t_arg a_t_pending a_t_stack a_t_carry a_t_losing a_t_threes a_t_beats a_t_row a_t_leads a_t_places a_t_blocWeight a_t_values a_t_chooser a_t_choices a_t_gets a_t_takes a_t_goesTo a_t_has t_told t_members t_shifts t_viewDay t_viewKnown t_allIn t_manyIn t_weightIn t_taped t_at t_from t_token t_value t_many t_open t_pendings t_readFault t_readPlace t_faultKind t_faultPlace t_motions t_arg_r t_bloc_r t_codeMany_r t_op_r t_stack_r t_weight_r) := hD
        obtain ⟨hi21, hf⟩ := gin_s hf
        refine va_iast hx hb hK hP hD hS 5 0 rfl rfl hi21 dX12_carriesBy_60 (fun H locs hP hD hS => ?_)
        have hP : va_P D vwCl (wd_X12_carriesBy cI cZ cR a_t a_t_shiftOf a_t_shiftDay a_t_shiftWeight a_t_shiftBloc a_t_shiftTold a_t_wishes a_t_hasWish a_t_weight a_t_bloc a_t_tape a_t_words a_t_codeMany a_t_op a_t_arg a_t_pending a_t_stack a_t_carry a_t_losing a_t_threes a_t_beats a_t_row a_t_leads a_t_places a_t_blocWeight a_t_values a_t_chooser a_t_choices a_t_gets a_t_takes a_t_goesTo a_t_has t_told t_members t_shifts t_viewDay t_viewKnown t_allIn t_manyIn t_weightIn t_taped t_at t_from t_token t_value t_many t_open t_pendings t_readFault t_readPlace t_faultKind t_faultPlace t_motions t_arg_r t_bloc_r t_codeMany_r t_op_r (upd t_stack_r (x3).toNatClampNeg r19) t_weight_r) H := hP
        have hD : va_D A (wd_X12_carriesBy cI cZ cR a_t a_t_shiftOf a_t_shiftDay a_t_shiftWeight a_t_shiftBloc a_t_shiftTold a_t_wishes a_t_hasWish a_t_weight a_t_bloc a_t_tape a_t_words a_t_codeMany a_t_op a_t_arg a_t_pending a_t_stack a_t_carry a_t_losing a_t_threes a_t_beats a_t_row a_t_leads a_t_places a_t_blocWeight a_t_values a_t_chooser a_t_choices a_t_gets a_t_takes a_t_goesTo a_t_has t_told t_members t_shifts t_viewDay t_viewKnown t_allIn t_manyIn t_weightIn t_taped t_at t_from t_token t_value t_many t_open t_pendings t_readFault t_readPlace t_faultKind t_faultPlace t_motions t_arg_r t_bloc_r t_codeMany_r t_op_r (upd t_stack_r (x3).toNatClampNeg r19) t_weight_r) := hD
        refine lv_iload_n hx hb dX12_carriesBy_61 rfl (lv_at hl 3 rfl) ?_
        refine lv_iconst (v := (1 : Int32)) hx hb dX12_carriesBy_62 (by decide) ?_
        refine lv_iadd hx hb dX12_carriesBy_63 ?_
        refine lv_istore_n (lv' := [(3, .int (x3 + (1 : Int32))), (0, .ref a_t), (1, .int x1), (2, .int x2), (4, .int x4)]) hx hb dX12_carriesBy_64 rfl hl (by decide) rfl (fun ls hl => ?_)
        refine lv_goto (tgt := 138) hx hb dX12_carriesBy_65 (by decide) ?_
        refine lv_iinc (v := (x4 + (1 : Int32))) (lv' := [(4, .int (x4 + (1 : Int32))), (3, .int (x3 + (1 : Int32))), (0, .ref a_t), (1, .int x1), (2, .int x2)]) hx hb dX12_carriesBy_138 hl (k := 4) rfl rfl (by decide) rfl (fun ls hl => ?_)
        refine lv_goto (tgt := 20) hx hb dX12_carriesBy_141 (by decide) ?_
        exact ih (x3 + (1 : Int32)) (x4 + (1 : Int32)) (upd t_stack_r (x3).toNatClampNeg r19) hf _ _ hP hD hS _ (lv_sub hl [2, 3, 4, 1, 0] rfl)
set_option maxHeartbeats 4000000 in
set_option maxRecDepth 100000 in
theorem c_X12_carriesBy (l : Launch) (D : va_G) (cI cZ cR : ClassId) {a_t a_t_shiftOf a_t_shiftDay a_t_shiftWeight a_t_shiftBloc a_t_shiftTold a_t_wishes a_t_hasWish a_t_weight a_t_bloc a_t_tape a_t_words a_t_codeMany a_t_op a_t_arg a_t_pending a_t_stack a_t_carry a_t_losing a_t_threes a_t_beats a_t_row a_t_leads a_t_places a_t_blocWeight a_t_values a_t_chooser a_t_choices a_t_gets a_t_takes a_t_goesTo a_t_has : Nat} {t_told : Int32} {t_members : Int32} {t_shifts : Int32} {t_viewDay : Int32} {t_viewKnown : Int32} {t_allIn : Int32} {t_manyIn : Int32} {t_weightIn : Int32} {t_taped : Int32} {t_at : Int32} {t_from : Int32} {t_token : Int32} {t_value : Int32} {t_many : Int32} {t_open : Int32} {t_pendings : Int32} {t_readFault : Int32} {t_readPlace : Int32} {t_faultKind : Int32} {t_faultPlace : Int32} {t_motions : Int32} {t_arg_r : Nat → Int32} {t_bloc_r : Nat → Int32} {t_codeMany_r : Nat → Int32} {t_op_r : Nat → Int32} {t_stack_r : Nat → Int32} {t_weight_r : Nat → Int32} {x1 : Int32} {x2 : Int32} {sz : Nat} {out : Int32 × (Nat → Int32)} (hf : F_X12_carriesBy x1 x2 t_manyIn t_members t_weightIn t_arg_r t_bloc_r t_codeMany_r t_op_r t_stack_r t_weight_r = some out) : CI l yX12_carriesBy wsX12_carriesBy ({ frames := 4, cells := 0, slots := 0, locals := 91 } : Room) D cI cZ cR [.ref a_t, .int x1, .int x2] (wd_X12_carriesBy cI cZ cR a_t a_t_shiftOf a_t_shiftDay a_t_shiftWeight a_t_shiftBloc a_t_shiftTold a_t_wishes a_t_hasWish a_t_weight a_t_bloc a_t_tape a_t_words a_t_codeMany a_t_op a_t_arg a_t_pending a_t_stack a_t_carry a_t_losing a_t_threes a_t_beats a_t_row a_t_leads a_t_places a_t_blocWeight a_t_values a_t_chooser a_t_choices a_t_gets a_t_takes a_t_goesTo a_t_has t_told t_members t_shifts t_viewDay t_viewKnown t_allIn t_manyIn t_weightIn t_taped t_at t_from t_token t_value t_many t_open t_pendings t_readFault t_readPlace t_faultKind t_faultPlace t_motions t_arg_r t_bloc_r t_codeMany_r t_op_r t_stack_r t_weight_r) sz (out.1) (wd_X12_carriesBy cI cZ cR a_t a_t_shiftOf a_t_shiftDay a_t_shiftWeight a_t_shiftBloc a_t_shiftTold a_t_wishes a_t_hasWish a_t_weight a_t_bloc a_t_tape a_t_words a_t_codeMany a_t_op a_t_arg a_t_pending a_t_stack a_t_carry a_t_losing a_t_threes a_t_beats a_t_row a_t_leads a_t_places a_t_blocWeight a_t_values a_t_chooser a_t_choices a_t_gets a_t_takes a_t_goesTo a_t_has t_told t_members t_shifts t_viewDay t_viewKnown t_allIn t_manyIn t_weightIn t_taped t_at t_from t_token t_value t_many t_open t_pendings t_readFault t_readPlace t_faultKind t_faultPlace t_motions t_arg_r t_bloc_r t_codeMany_r t_op_r (out.2) t_weight_r) := by
  refine met_of (Qf := fun A => qi D cI cZ cR A (out.1) (wd_X12_carriesBy cI cZ cR a_t a_t_shiftOf a_t_shiftDay a_t_shiftWeight a_t_shiftBloc a_t_shiftTold a_t_wishes a_t_hasWish a_t_weight a_t_bloc a_t_tape a_t_words a_t_codeMany a_t_op a_t_arg a_t_pending a_t_stack a_t_carry a_t_losing a_t_threes a_t_beats a_t_row a_t_leads a_t_places a_t_blocWeight a_t_values a_t_chooser a_t_choices a_t_gets a_t_takes a_t_goesTo a_t_has t_told t_members t_shifts t_viewDay t_viewKnown t_allIn t_manyIn t_weightIn t_taped t_at t_from t_token t_value t_many t_open t_pendings t_readFault t_readPlace t_faultKind t_faultPlace t_motions t_arg_r t_bloc_r t_codeMany_r t_op_r (out.2) t_weight_r)) RX12 (by decide +kernel) rfl rfl (Nat.le_of_ble_eq_true rfl) ?_
  intro p e s m below meth c A X hK hA hP hD hS ls hl
  have hl : lv_has ls 5 [(0, .ref a_t), (1, .int x1), (2, .int x2)] := hl
  obtain ⟨hx, hb, hml, hr, hown, hts, hlocks, hN⟩ := id X
  unfold F_X12_carriesBy at hf
  refine lv_aload_n hx hb dX12_carriesBy_0 rfl (lv_at hl 0 rfl) ?_
  refine va_get (D := D) (ci := 11) (v := .ref a_t_codeMany) (C := RX12) (T := TX12) (N := 52) hx hb hts in_X12_carriesBy_X12 hown hK hP 0 rfl rfl 24 (by decide) (hts (.fieldLink RX12 51 "DivisionHallModel" "codeMany" "[I") (by decide +kernel)) (fun _ h9 => h9) rfl dX12_carriesBy_1 ?_
  refine lv_iload_n hx hb dX12_carriesBy_4 rfl (lv_at hl 1 rfl) ?_
  obtain ⟨hi1, hf⟩ := gin_s hf
  refine va_iald hx hb hK hP 3 0 rfl rfl hi1 dX12_carriesBy_5 ?_
  refine lv_if_ne (tgt := 11) hx hb dX12_carriesBy_6 (by decide) (fun c2 => ?_) (fun c2 => ?_)
  · have hf := ineg c2 hf
    refine lv_iconst (v := (0 : Int32)) hx hb dX12_carriesBy_11 (by decide) ?_
    refine lv_istore_n (lv' := [(3, .int (0 : Int32)), (0, .ref a_t), (1, .int x1), (2, .int x2)]) hx hb dX12_carriesBy_12 rfl hl (by decide) rfl (fun ls hl => ?_)
    refine lv_sipush (v := (500 : Int32)) hx hb dX12_carriesBy_13 (by decide) ?_
    refine lv_iload_n hx hb dX12_carriesBy_16 rfl (lv_at hl 2 rfl) ?_
    refine lv_imul hx hb dX12_carriesBy_17 ?_
    refine lv_istore (lv' := [(4, .int ((500 : Int32) * x1)), (3, .int (0 : Int32)), (0, .ref a_t), (1, .int x1), (2, .int x2)]) hx hb dX12_carriesBy_18 hl (by decide) rfl (fun ls hl => ?_)
    exact w_X12_carriesBy_20 X hK hA _ (0 : Int32) ((500 : Int32) * x1) t_stack_r hf _ _ hP hD hS _ (lv_sub hl [2, 3, 4, 1, 0] rfl)
  · have hf := ipos c2 hf
    refine lv_iconst (v := (0 : Int32)) hx hb dX12_carriesBy_9 (by decide) ?_
    cases hf
    exact retz (Or.inl rfl) X hK hP hD hS dX12_carriesBy_10
