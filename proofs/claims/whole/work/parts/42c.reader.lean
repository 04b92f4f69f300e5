abbrev wd_X5_takeLast (cI cZ cR : ClassId) (a_t a_t_text a_t_code a_t_waiting : Nat) (t_length t_codes t_waits t_fault t_faultPlace t_at t_place t_sign t_number t_state t_name t_compared t_open t_parentheses : Int32) : va_W := [(a_t, oB 5 [.ref a_t_text, .ref a_t_code, .ref a_t_waiting, .int t_length, .int t_codes, .int t_waits, .int t_fault, .int t_faultPlace, .int t_at, .int t_place, .int t_sign, .int t_number, .int t_state, .int t_name, .int t_compared, .int t_open, .int t_parentheses])]
set_option maxRecDepth 100000 in
theorem in_X5_takeLast_X5 : ∀ w ∈ wsX50, w ∈ wsX5_takeLast := by decide +kernel
set_option maxHeartbeats 4000000 in
set_option maxRecDepth 100000 in
theorem c_X5_takeLast (l : Launch) (D : va_G) (cI cZ cR : ClassId) {a_t a_t_text a_t_code a_t_waiting : Nat} {t_length : Int32} {t_codes : Int32} {t_waits : Int32} {t_fault : Int32} {t_faultPlace : Int32} {t_at : Int32} {t_place : Int32} {t_sign : Int32} {t_number : Int32} {t_state : Int32} {t_name : Int32} {t_compared : Int32} {t_open : Int32} {t_parentheses : Int32} {sz : Nat} {out : Int32 × Int32 × Int32} (hf : F_X5_takeLast t_fault t_faultPlace t_place t_sign t_state = some out) : CV l yX5_takeLast wsX5_takeLast ({ frames := 1, cells := 0, slots := 0, locals := 21 } : Room) D cI cZ cR [.ref a_t] (wd_X5_takeLast cI cZ cR a_t a_t_text a_t_code a_t_waiting t_length t_codes t_waits t_fault t_faultPlace t_at t_place t_sign t_number t_state t_name t_compared t_open t_parentheses) sz (wd_X5_takeLast cI cZ cR a_t a_t_text a_t_code a_t_waiting t_length t_codes t_waits (out.1) (out.2.1) t_at t_place t_sign t_number (out.2.2) t_name t_compared t_open t_parentheses) := by
  refine met_of (Qf := fun A => qv D cI cZ cR A (wd_X5_takeLast cI cZ cR a_t a_t_text a_t_code a_t_waiting t_length t_codes t_waits (out.1) (out.2.1) t_at t_place t_sign t_number (out.2.2) t_name t_compared t_open t_parentheses)) RX5 (by decide +kernel) rfl rfl (Nat.le_of_ble_eq_true rfl) ?_
  intro p e s m below meth c A X hK hA hP hD hS ls hl
  have hl : lv_has ls 1 [(0, .ref a_t)] := hl
  obtain ⟨hx, hb, hml, hr, hown, hts, hlocks, hN⟩ := id X
  unfold F_X5_takeLast at hf
  refine lv_aload_n hx hb dX5_takeLast_0 rfl (lv_at hl 0 rfl) ?_
  refine va_get (D := D) (ci := 5) (v := .int t_sign) (C := RX5) (T := TX5) (N := 17) hx hb hts in_X5_takeLast_X5 hown hK hP 0 rfl rfl 10 (by decide) (hts (.fieldLink RX5 64 "DivisionHall$Reader" "sign" "I") (by decide +kernel)) (fun _ h9 => h9) rfl dX5_takeLast_1 ?_
  refine lv_if_ne (tgt := 16) hx hb dX5_takeLast_4 (by decide) (fun c1 => ?_) (fun c1 => ?_)
  · have hf := ineg c1 hf
    refine lv_aload_n hx hb dX5_takeLast_16 rfl (lv_at hl 0 rfl) ?_
    refine lv_iconst (v := (1 : Int32)) hx hb dX5_takeLast_17 (by decide) ?_
    obtain ⟨r2, hr3, hf⟩ := bnd hf
    refine wcallvA (D := D) (cI := cI) (cZ := cZ) (cR := cR) (wc := (wd_X5_stop cI cZ cR a_t a_t_text a_t_code a_t_waiting t_length t_codes t_waits t_fault t_faultPlace t_at t_place t_sign t_number t_state t_name t_compared t_open t_parentheses)) (w' := (wd_X5_stop cI cZ cR a_t a_t_text a_t_code a_t_waiting t_length t_codes t_waits (r2.1) (r2.2.1) t_at t_place t_sign t_number (r2.2.2) t_name t_compared t_open t_parentheses)) hP hD hS hA rfl (rnVA (As := [.int (1 : Int32)]) (ci := 5) (q0 := 0) X hK hP hD rfl rfl (c_X5_stop l D cI cZ cR hr3) (cwV 1 hts gX5_takeLast_X5_stop rfl rfl rfl (by decide +kernel) ⟨Nat.le_of_ble_eq_true rfl, Nat.le_of_ble_eq_true rfl⟩) rfl hl.1 rfl (Nat.le_of_ble_eq_true rfl) dX5_takeLast_18) (fun H locs hP hD hS => ?_)
    have hP : va_P D vwCl (wd_X5_takeLast cI cZ cR a_t a_t_text a_t_code a_t_waiting t_length t_codes t_waits (r2.1) (r2.2.1) t_at t_place t_sign t_number (r2.2.2) t_name t_compared t_open t_parentheses) H := hP
    have hD : va_D A (wd_X5_takeLast cI cZ cR a_t a_t_text a_t_code a_t_waiting t_length t_codes t_waits (r2.1) (r2.2.1) t_at t_place t_sign t_number (r2.2.2) t_name t_compared t_open t_parentheses) := hD
    cases hf
    exact retv X hK hP hD hS dX5_takeLast_21
  · have hf := ipos c1 hf
    refine lv_aload_n hx hb dX5_takeLast_7 rfl (lv_at hl 0 rfl) ?_
    refine lv_bipush (v := (8 : Int32)) hx hb dX5_takeLast_8 (by decide) ?_
    refine va_put (D := D) (ci := 5) (v := .int (8 : Int32)) (ty := .int) (C := RX5) (T := TX5) (N := 17) hx hb hts in_X5_takeLast_X5 tyX5 tyX5_ok nmX5 hown hK hP hD hS 0 rfl rfl 12 (by decide) (hts (.fieldLink RX5 50 "DivisionHall$Reader" "state" "I") (by decide +kernel)) (fun _ h9 => h9) rfl (by decide +kernel) rfl rfl (Nat.le_of_ble_eq_true rfl) dX5_takeLast_10 (fun H locs hP hD hS => ?_)
    have hP : va_P D vwCl (wd_X5_takeLast cI cZ cR a_t a_t_text a_t_code a_t_waiting t_length t_codes t_waits t_fault t_faultPlace t_at t_place t_sign t_number (8 : Int32) t_name t_compared t_open t_parentheses) H := hP
    have hD : va_D A (wd_X5_takeLast cI cZ cR a_t a_t_text a_t_code a_t_waiting t_length t_codes t_waits t_fault t_faultPlace t_at t_place t_sign t_number (8 : Int32) t_name t_compared t_open t_parentheses) := hD
    refine lv_goto (tgt := 21) hx hb dX5_takeLast_13 (by decide) ?_
    cases hf
    exact retv X hK hP hD hS dX5_takeLast_21

abbrev wd_X5_takeOwner (cI cZ cR : ClassId) (a_t a_t_text a_t_code a_t_waiting : Nat) (t_length t_codes t_waits t_fault t_faultPlace t_at t_place t_sign t_number t_state t_name t_compared t_open t_parentheses : Int32) (t_code_r : Nat → Int32) : va_W := [(a_t, oB 5 [.ref a_t_text, .ref a_t_code, .ref a_t_waiting, .int t_length, .int t_codes, .int t_waits, .int t_fault, .int t_faultPlace, .int t_at, .int t_place, .int t_sign, .int t_number, .int t_state, .int t_name, .int t_compared, .int t_open, .int t_parentheses]), (a_t_code, aI cI 400 t_code_r)]
set_option maxRecDepth 100000 in
theorem in_X5_takeOwner_X5 : ∀ w ∈ wsX50, w ∈ wsX5_takeOwner := by decide +kernel
set_option maxHeartbeats 4000000 in
set_option maxRecDepth 100000 in
theorem w_X5_takeOwner_97 {p : Program} {l : Launch} {e : Env} {s : State} {m : MethodId} {args : Array Value} {below : List Frame} {meth : Method} {c : Code} {D : va_G} {cI cZ cR : ClassId} {A : Nat → Prop} {a_t a_t_text a_t_code a_t_waiting : Nat} {t_length : Int32} {t_waits : Int32} {t_at : Int32} {t_place : Int32} {t_sign : Int32} {t_number : Int32} {t_name : Int32} {t_compared : Int32} {t_open : Int32} {t_parentheses : Int32} {out : Int32 × Int32 × Int32 × Int32 × (Nat → Int32)} (X : cx p s m args meth c cX5_takeOwner 2 none RX5 wsX5_takeOwner) (hK : va_K D vwCl (ty3 cI cZ cR) s) (hA : ∀ q, s.heap.size ≤ q → A q) : ∀ (s0 : Int32) (t_codes : Int32) (t_fault : Int32) (t_faultPlace : Int32) (t_state : Int32) (t_code_r : Nat → Int32), F_X5_takeOwner_97 t_name t_number t_place t_sign s0 t_codes t_fault t_faultPlace t_state t_code_r = some out → ∀ (H : Heap) (locs : List Loc), va_P D vwCl (wd_X5_takeOwner cI cZ cR a_t a_t_text a_t_code a_t_waiting t_length t_codes t_waits t_fault t_faultPlace t_at t_place t_sign t_number t_state t_name t_compared t_open t_parentheses t_code_r) H → va_D A (wd_X5_takeOwner cI cZ cR a_t a_t_text a_t_code a_t_waiting t_length t_codes t_waits t_fault t_faultPlace t_at t_place t_sign t_number t_state t_name t_compared t_open t_parentheses t_code_r) → va_S A s.heap H locs → ∀ (ls : Array Slot), lv_has ls 2 [(0, .ref a_t)] → W p l e (headSpec wsX5_takeOwner ({ frames := 2, cells := 0, slots := 0, locals := 43 } : Room)).room s m args below meth c H locs 0 0 (MQ below (qv D cI cZ cR A (wd_X5_takeOwner cI cZ cR a_t a_t_text a_t_code a_t_waiting t_length (out.1) t_waits (out.2.1) (out.2.2.1) t_at t_place t_sign t_number (out.2.2.2.1) t_name t_compared t_open t_parentheses (out.2.2.2.2))) args s 0 0 A) (F0 m 97 ls [.int s0, .ref a_t]) := by
  obtain ⟨hx, hb, hml, hr, hown, hts, hlocks, hN⟩ := id X
  intro s0 t_codes t_fault t_faultPlace t_state t_code_r hf H locs hP hD hS ls hl
  unfold F_X5_takeOwner_97 at hf
  refine lv_aload_n hx hb dX5_takeOwner_97 rfl (lv_at hl 0 rfl) ?_
  refine va_get (D := D) (ci := 5) (v := .int t_number) (C := RX5) (T := TX5) (N := 17) hx hb hts in_X5_takeOwner_X5 hown hK hP 0 rfl rfl 11 (by decide) (hts (.fieldLink RX5 115 "DivisionHall$Reader" "number" "I") (by decide +kernel)) (fun _ h9 => h9) rfl dX5_takeOwner_98 ?_
  obtain ⟨r13, hr14, hf⟩ := bnd hf
  refine wcallvA (D := D) (cI := cI) (cZ := cZ) (cR := cR) (wc := (wd_X5_emit cI cZ cR a_t a_t_text a_t_code a_t_waiting t_length t_codes t_waits t_fault t_faultPlace t_at t_place t_sign t_number t_state t_name t_compared t_open t_parentheses t_code_r)) (w' := (wd_X5_emit cI cZ cR a_t a_t_text a_t_code a_t_waiting t_length (r13.1) t_waits t_fault t_faultPlace t_at t_place t_sign t_number t_state t_name t_compared t_open t_parentheses (r13.2))) hP hD hS hA rfl (rnVA (As := [.int s0, .int t_number]) (ci := 5) (q0 := 0) X hK hP hD rfl rfl (c_X5_emit l D cI cZ cR hr14) (cwV 2 hts gX5_takeOwner_X5_emit rfl rfl rfl (by decide +kernel) ⟨Nat.le_of_ble_eq_true rfl, Nat.le_of_ble_eq_true rfl⟩) rfl hl.1 rfl (Nat.le_of_ble_eq_true rfl) dX5_takeOwner_101) (fun H locs hP hD hS => ?_)
  have hP : va_P D vwCl (wd_X5_takeOwner cI cZ cR a_t a_t_text a_t_code a_t_waiting t_length (r13.1) t_waits t_fault t_faultPlace t_at t_place t_sign t_number t_state t_name t_compared t_open t_parentheses (r13.2)) H := hP
  have hD : va_D A (wd_X5_takeOwner cI cZ cR a_t a_t_text a_t_code a_t_waiting t_length (r13.1) t_waits t_fault t_faultPlace t_at t_place t_sign t_number t_state t_name t_compared t_open t_parentheses (r13.2)) := hD
  refine lv_aload_n hx hb dX5_takeOwner_104 rfl (lv_at hl 0 rfl) ?_
  refine lv_iconst (v := (4 : Int32)) hx hb dX5_takeOwner_105 (by decide) ?_
  refine va_put (D := D) (ci := 5) (v := .int (4 : Int32)) (ty := .int) (C := RX5) (T := TX5) (N := 17) hx hb hts in_X5_takeOwner_X5 tyX5 tyX5_ok nmX5 hown hK hP hD hS 0 rfl rfl 12 (by decide) (hts (.fieldLink RX5 50 "DivisionHall$Reader" "state" "I") (by decide +kernel)) (fun _ h9 => h9) rfl (by decide +kernel) rfl rfl (Nat.le_of_ble_eq_true rfl) dX5_takeOwner_106 (fun H locs hP hD hS => ?_)
  have hP : va_P D vwCl (wd_X5_takeOwner cI cZ cR a_t a_t_text a_t_code a_t_waiting t_length (r13.1) t_waits t_fault t_faultPlace t_at t_place t_sign t_number (4 : Int32) t_name t_compared t_open t_parentheses (r13.2)) H := hP
  have hD : va_D A (wd_X5_takeOwner cI cZ cR a_t a_t_text a_t_code a_t_waiting t_length (r13.1) t_waits t_fault t_faultPlace t_at t_place t_sign t_number (4 : Int32) t_name t_compared t_open t_parentheses (r13.2)) := hD
  cases hf
  exact retv X hK hP hD hS dX5_takeOwner_109
set_option maxHeartbeats 4000000 in
set_option maxRecDepth 100000 in
theorem w_X5_takeOwner_47 {p : Program} {l : Launch} {e : Env} {s : State} {m : MethodId} {args : Array Value} {below : List Frame} {meth : Method} {c : Code} {D : va_G} {cI cZ cR : ClassId} {A : Nat → Prop} {a_t a_t_text a_t_code a_t_waiting : Nat} {t_length : Int32} {t_waits : Int32} {t_at : Int32} {t_place : Int32} {t_sign : Int32} {t_number : Int32} {t_name : Int32} {t_compared : Int32} {t_open : Int32} {t_parentheses : Int32} {out : Int32 × Int32 × Int32 × Int32 × (Nat → Int32)} (X : cx p s m args meth c cX5_takeOwner 2 none RX5 wsX5_takeOwner) (hK : va_K D vwCl (ty3 cI cZ cR) s) (hA : ∀ q, s.heap.size ≤ q → A q) : ∀ (x1 : Int32) (s0 : Int32) (s1 : Int32) (t_codes : Int32) (t_fault : Int32) (t_faultPlace : Int32) (t_state : Int32) (t_code_r : Nat → Int32), F_X5_takeOwner_47 t_name t_number t_place t_sign x1 s0 s1 t_codes t_fault t_faultPlace t_state t_code_r = some out → ∀ (H : Heap) (locs : List Loc), va_P D vwCl (wd_X5_takeOwner cI cZ cR a_t a_t_text a_t_code a_t_waiting t_length t_codes t_waits t_fault t_faultPlace t_at t_place t_sign t_number t_state t_name t_compared t_open t_parentheses t_code_r) H → va_D A (wd_X5_takeOwner cI cZ cR a_t a_t_text a_t_code a_t_waiting t_length t_codes t_waits t_fault t_faultPlace t_at t_place t_sign t_number t_state t_name t_compared t_open t_parentheses t_code_r) → va_S A s.heap H locs → ∀ (ls : Array Slot), lv_has ls 2 [(0, .ref a_t), (1, .int x1)] → W p l e (headSpec wsX5_takeOwner ({ frames := 2, cells := 0, slots := 0, locals := 43 } : Room)).room s m args below meth c H locs 0 0 (MQ below (qv D cI cZ cR A (wd_X5_takeOwner cI cZ cR a_t a_t_text a_t_code a_t_waiting t_length (out.1) t_waits (out.2.1) (out.2.2.1) t_at t_place t_sign t_number (out.2.2.2.1) t_name t_compared t_open t_parentheses (out.2.2.2.2))) args s 0 0 A) (F0 m 47 ls [.int s0, .int s1]) := by
  obtain ⟨hx, hb, hml, hr, hown, hts, hlocks, hN⟩ := id X
  intro x1 s0 s1 t_codes t_fault t_faultPlace t_state t_code_r hf H locs hP hD hS ls hl
  unfold F_X5_takeOwner_47 at hf
  refine lv_icmp_lt (tgt := 58) hx hb dX5_takeOwner_47 (by decide) (fun c6 => ?_) (fun c6 => ?_)
  · have hf := ipos c6 hf
    refine lv_iload_n hx hb dX5_takeOwner_58 rfl (lv_at hl 1 rfl) ?_
    refine lv_if_eq (tgt := 80) hx hb dX5_takeOwner_59 (by decide) (fun c7 => ?_) (fun c7 => ?_)
    · have hf := ipos c7 hf
      refine lv_aload_n hx hb dX5_takeOwner_80 rfl (lv_at hl 0 rfl) ?_
      refine lv_aload_n hx hb dX5_takeOwner_81 rfl (lv_at hl 0 rfl) ?_
      refine va_get (D := D) (ci := 5) (v := .int t_name) (C := RX5) (T := TX5) (N := 17) hx hb hts in_X5_takeOwner_X5 hown hK hP 0 rfl rfl 13 (by decide) (hts (.fieldLink RX5 118 "DivisionHall$Reader" "name" "I") (by decide +kernel)) (fun _ h9 => h9) rfl dX5_takeOwner_82 ?_
      refine lv_bipush (v := (7 : Int32)) hx hb dX5_takeOwner_85 (by decide) ?_
      refine lv_icmp_ne (tgt := 95) hx hb dX5_takeOwner_87 (by decide) (fun c8 => ?_) (fun c8 => ?_)
      · have hf := ineg c8 hf
        refine lv_bipush (v := (13 : Int32)) hx hb dX5_takeOwner_95 (by decide) ?_
        exact w_X5_takeOwner_97 X hK hA (13 : Int32) t_codes t_fault t_faultPlace t_state t_code_r hf _ _ hP hD hS _ (lv_sub hl [0] rfl)
      · have hf := ipos c8 hf
        refine lv_bipush (v := (12 : Int32)) hx hb dX5_takeOwner_90 (by decide) ?_
        refine lv_goto (tgt := 97) hx hb dX5_takeOwner_92 (by decide) ?_
        exact w_X5_takeOwner_97 X hK hA (12 : Int32) t_codes t_fault t_faultPlace t_state t_code_r hf _ _ hP hD hS _ (lv_sub hl [0] rfl)
    · have hf := ineg c7 hf
      refine lv_aload_n hx hb dX5_takeOwner_62 rfl (lv_at hl 0 rfl) ?_
      refine lv_bipush (v := (11 : Int32)) hx hb dX5_takeOwner_63 (by decide) ?_
      refine lv_aload_n hx hb dX5_takeOwner_65 rfl (lv_at hl 0 rfl) ?_
      refine va_get (D := D) (ci := 5) (v := .int t_number) (C := RX5) (T := TX5) (N := 17) hx hb hts in_X5_takeOwner_X5 hown hK hP 0 rfl rfl 11 (by decide) (hts (.fieldLink RX5 115 "DivisionHall$Reader" "number" "I") (by decide +kernel)) (fun _ h9 => h9) rfl dX5_takeOwner_66 ?_
      obtain ⟨r9, hr10, hf⟩ := bnd hf
      refine wcallvA (D := D) (cI := cI) (cZ := cZ) (cR := cR) (wc := (wd_X5_emit cI cZ cR a_t a_t_text a_t_code a_t_waiting t_length t_codes t_waits t_fault t_faultPlace t_at t_place t_sign t_number t_state t_name t_compared t_open t_parentheses t_code_r)) (w' := (wd_X5_emit cI cZ cR a_t a_t_text a_t_code a_t_waiting t_length (r9.1) t_waits t_fault t_faultPlace t_at t_place t_sign t_number t_state t_name t_compared t_open t_parentheses (r9.2))) hP hD hS hA rfl (rnVA (As := [.int (11 : Int32), .int t_number]) (ci := 5) (q0 := 0) X hK hP hD rfl rfl (c_X5_emit l D cI cZ cR hr10) (cwV 2 hts gX5_takeOwner_X5_emit rfl rfl rfl (by decide +kernel) ⟨Nat.le_of_ble_eq_true rfl, Nat.le_of_ble_eq_true rfl⟩) rfl hl.1 rfl (Nat.le_of_ble_eq_true rfl) dX5_takeOwner_69) (fun H locs hP hD hS => ?_)
      have hP : va_P D vwCl (wd_X5_takeOwner cI cZ cR a_t a_t_text a_t_code a_t_waiting t_length (r9.1) t_waits t_fault t_faultPlace t_at t_place t_sign t_number t_state t_name t_compared t_open t_parentheses (r9.2)) H := hP
      have hD : va_D A (wd_X5_takeOwner cI cZ cR a_t a_t_text a_t_code a_t_waiting t_length (r9.1) t_waits t_fault t_faultPlace t_at t_place t_sign t_number t_state t_name t_compared t_open t_parentheses (r9.2)) := hD
      refine lv_aload_n hx hb dX5_takeOwner_72 rfl (lv_at hl 0 rfl) ?_
      refine lv_iconst (v := (5 : Int32)) hx hb dX5_takeOwner_73 (by decide) ?_
      refine va_put (D := D) (ci := 5) (v := .int (5 : Int32)) (ty := .int) (C := RX5) (T := TX5) (N := 17) hx hb hts in_X5_takeOwner_X5 tyX5 tyX5_ok nmX5 hown hK hP hD hS 0 rfl rfl 12 (by decide) (hts (.fieldLink RX5 50 "DivisionHall$Reader" "state" "I") (by decide +kernel)) (fun _ h9 => h9) rfl (by decide +kernel) rfl rfl (Nat.le_of_ble_eq_true rfl) dX5_takeOwner_74 (fun H locs hP hD hS => ?_)
      have hP : va_P D vwCl (wd_X5_takeOwner cI cZ cR a_t a_t_text a_t_code a_t_waiting t_length (r9.1) t_waits t_fault t_faultPlace t_at t_place t_sign t_number (5 : Int32) t_name t_compared t_open t_parentheses (r9.2)) H := hP
      have hD : va_D A (wd_X5_takeOwner cI cZ cR a_t a_t_text a_t_code a_t_waiting t_length (r9.1) t_waits t_fault t_faultPlace t_at t_place t_sign t_number (5 : Int32) t_name t_compared t_open t_parentheses (r9.2)) := hD
      refine lv_goto (tgt := 109) hx hb dX5_takeOwner_77 (by decide) ?_
      cases hf
      exact retv X hK hP hD hS dX5_takeOwner_109
  · have hf := ineg c6 hf
    refine lv_aload_n hx hb dX5_takeOwner_50 rfl (lv_at hl 0 rfl) ?_
    refine lv_iconst (v := (2 : Int32)) hx hb dX5_takeOwner_51 (by decide) ?_
    obtain ⟨r11, hr12, hf⟩ := bnd hf
    refine wcallv (D := D) (cI := cI) (cZ := cZ) (cR := cR) (wc := (wd_X5_stop cI cZ cR a_t a_t_text a_t_code a_t_waiting t_length t_codes t_waits t_fault t_faultPlace t_at t_place t_sign t_number t_state t_name t_compared t_open t_parentheses)) (w' := (wd_X5_stop cI cZ cR a_t a_t_text a_t_code a_t_waiting t_length t_codes t_waits (r11.1) (r11.2.1) t_at t_place t_sign t_number (r11.2.2) t_name t_compared t_open t_parentheses)) [0] hP hD hS hA rfl rfl rfl (rnV (As := [.int (2 : Int32)]) (ci := 5) (q0 := 0) X [0] hK hP hD rfl rfl rfl rfl (c_X5_stop l D cI cZ cR hr12) (cwV 1 hts gX5_takeOwner_X5_stop rfl rfl rfl (by decide +kernel) ⟨Nat.le_of_ble_eq_true rfl, Nat.le_of_ble_eq_true rfl⟩) rfl hl.1 rfl (Nat.le_of_ble_eq_true rfl) dX5_takeOwner_52) (fun H locs hP hD hS => ?_)
    have hP : va_P D vwCl (wd_X5_takeOwner cI cZ cR a_t a_t_text a_t_code a_t_waiting t_length t_codes t_waits (r11.1) (r11.2.1) t_at t_place t_sign t_number (r11.2.2) t_name t_compared t_open t_parentheses t_code_r) H := hP
    have hD : va_D A (wd_X5_takeOwner cI cZ cR a_t a_t_text a_t_code a_t_waiting t_length t_codes t_waits (r11.1) (r11.2.1) t_at t_place t_sign t_number (r11.2.2) t_name t_compared t_open t_parentheses t_code_r) := hD
    refine lv_goto (tgt := 109) hx hb dX5_takeOwner_55 (by decide) ?_
    cases hf
    exact retv X hK hP hD hS dX5_takeOwner_109
set_option maxHeartbeats 4000000 in
set_option maxRecDepth 100000 in
theorem w_X5_takeOwner_14 {p : Program} {l : Launch} {e : Env} {s : State} {m : MethodId} {args : Array Value} {below : List Frame} {meth : Method} {c : Code} {D : va_G} {cI cZ cR : ClassId} {A : Nat → Prop} {a_t a_t_text a_t_code a_t_waiting : Nat} {t_length : Int32} {t_waits : Int32} {t_at : Int32} {t_place : Int32} {t_sign : Int32} {t_number : Int32} {t_name : Int32} {t_compared : Int32} {t_open : Int32} {t_parentheses : Int32} {out : Int32 × Int32 × Int32 × Int32 × (Nat → Int32)} (X : cx p s m args meth c cX5_takeOwner 2 none RX5 wsX5_takeOwner) (hK : va_K D vwCl (ty3 cI cZ cR) s) (hA : ∀ q, s.heap.size ≤ q → A q) : ∀ (s0 : Int32) (t_codes : Int32) (t_fault : Int32) (t_faultPlace : Int32) (t_state : Int32) (t_code_r : Nat → Int32), F_X5_takeOwner_14 t_name t_number t_place t_sign s0 t_codes t_fault t_faultPlace t_state t_code_r = some out → ∀ (H : Heap) (locs : List Loc), va_P D vwCl (wd_X5_takeOwner cI cZ cR a_t a_t_text a_t_code a_t_waiting t_length t_codes t_waits t_fault t_faultPlace t_at t_place t_sign t_number t_state t_name t_compared t_open t_parentheses t_code_r) H → va_D A (wd_X5_takeOwner cI cZ cR a_t a_t_text a_t_code a_t_waiting t_length t_codes t_waits t_fault t_faultPlace t_at t_place t_sign t_number t_state t_name t_compared t_open t_parentheses t_code_r) → va_S A s.heap H locs → ∀ (ls : Array Slot), lv_has ls 2 [(0, .ref a_t)] → W p l e (headSpec wsX5_takeOwner ({ frames := 2, cells := 0, slots := 0, locals := 43 } : Room)).room s m args below meth c H locs 0 0 (MQ below (qv D cI cZ cR A (wd_X5_takeOwner cI cZ cR a_t a_t_text a_t_code a_t_waiting t_length (out.1) t_waits (out.2.1) (out.2.2.1) t_at t_place t_sign t_number (out.2.2.2.1) t_name t_compared t_open t_parentheses (out.2.2.2.2))) args s 0 0 A) (F0 m 14 ls [.int s0]) := by
  obtain ⟨hx, hb, hml, hr, hown, hts, hlocks, hN⟩ := id X
  intro s0 t_codes t_fault t_faultPlace t_state t_code_r hf H locs hP hD hS ls hl
  unfold F_X5_takeOwner_14 at hf
  refine lv_istore_n (lv' := [(1, .int s0), (0, .ref a_t)]) hx hb dX5_takeOwner_14 rfl hl (by decide) rfl (fun ls hl => ?_)
  refine lv_aload_n hx hb dX5_takeOwner_15 rfl (lv_at hl 1 rfl) ?_
  refine va_get (D := D) (ci := 5) (v := .int t_sign) (C := RX5) (T := TX5) (N := 17) hx hb hts in_X5_takeOwner_X5 hown hK hP 0 rfl rfl 10 (by decide) (hts (.fieldLink RX5 64 "DivisionHall$Reader" "sign" "I") (by decide +kernel)) (fun _ h9 => h9) rfl dX5_takeOwner_16 ?_
  refine lv_bipush (v := (6 : Int32)) hx hb dX5_takeOwner_19 (by decide) ?_
  refine lv_icmp_eq (tgt := 32) hx hb dX5_takeOwner_21 (by decide) (fun c2 => ?_) (fun c2 => ?_)
  · have hf := ipos c2 hf
    refine lv_aload_n hx hb dX5_takeOwner_32 rfl (lv_at hl 1 rfl) ?_
    refine va_get (D := D) (ci := 5) (v := .int t_number) (C := RX5) (T := TX5) (N := 17) hx hb hts in_X5_takeOwner_X5 hown hK hP 0 rfl rfl 11 (by decide) (hts (.fieldLink RX5 115 "DivisionHall$Reader" "number" "I") (by decide +kernel)) (fun _ h9 => h9) rfl dX5_takeOwner_33 ?_
    refine lv_iload_n hx hb dX5_takeOwner_36 rfl (lv_at hl 0 rfl) ?_
    refine lv_if_eq (tgt := 45) hx hb dX5_takeOwner_37 (by decide) (fun c3 => ?_) (fun c3 => ?_)
    · have hf := ipos c3 hf
      refine lv_bipush (v := (6 : Int32)) hx hb dX5_takeOwner_45 (by decide) ?_
      exact w_X5_takeOwner_47 X hK hA s0 (6 : Int32) t_number t_codes t_fault t_faultPlace t_state t_code_r hf _ _ hP hD hS _ (lv_sub hl [1, 0] rfl)
    · have hf := ineg c3 hf
      refine lv_bipush (v := (10 : Int32)) hx hb dX5_takeOwner_40 (by decide) ?_
      refine lv_goto (tgt := 47) hx hb dX5_takeOwner_42 (by decide) ?_
      exact w_X5_takeOwner_47 X hK hA s0 (10 : Int32) t_number t_codes t_fault t_faultPlace t_state t_code_r hf _ _ hP hD hS _ (lv_sub hl [1, 0] rfl)
  · have hf := ineg c2 hf
    refine lv_aload_n hx hb dX5_takeOwner_24 rfl (lv_at hl 1 rfl) ?_
    refine lv_iconst (v := (1 : Int32)) hx hb dX5_takeOwner_25 (by decide) ?_
    obtain ⟨r4, hr5, hf⟩ := bnd hf
    refine wcallv (D := D) (cI := cI) (cZ := cZ) (cR := cR) (wc := (wd_X5_stop cI cZ cR a_t a_t_text a_t_code a_t_waiting t_length t_codes t_waits t_fault t_faultPlace t_at t_place t_sign t_number t_state t_name t_compared t_open t_parentheses)) (w' := (wd_X5_stop cI cZ cR a_t a_t_text a_t_code a_t_waiting t_length t_codes t_waits (r4.1) (r4.2.1) t_at t_place t_sign t_number (r4.2.2) t_name t_compared t_open t_parentheses)) [0] hP hD hS hA rfl rfl rfl (rnV (As := [.int (1 : Int32)]) (ci := 5) (q0 := 0) X [0] hK hP hD rfl rfl rfl rfl (c_X5_stop l D cI cZ cR hr5) (cwV 1 hts gX5_takeOwner_X5_stop rfl rfl rfl (by decide +kernel) ⟨Nat.le_of_ble_eq_true rfl, Nat.le_of_ble_eq_true rfl⟩) rfl hl.1 rfl (Nat.le_of_ble_eq_true rfl) dX5_takeOwner_26) (fun H locs hP hD hS => ?_)
    have hP : va_P D vwCl (wd_X5_takeOwner cI cZ cR a_t a_t_text a_t_code a_t_waiting t_length t_codes t_waits (r4.1) (r4.2.1) t_at t_place t_sign t_number (r4.2.2) t_name t_compared t_open t_parentheses t_code_r) H := hP
    have hD : va_D A (wd_X5_takeOwner cI cZ cR a_t a_t_text a_t_code a_t_waiting t_length t_codes t_waits (r4.1) (r4.2.1) t_at t_place t_sign t_number (r4.2.2) t_name t_compared t_open t_parentheses t_code_r) := hD
    refine lv_goto (tgt := 109) hx hb dX5_takeOwner_29 (by decide) ?_
    cases hf
    exact retv X hK hP hD hS dX5_takeOwner_109
set_option maxHeartbeats 4000000 in
set_option maxRecDepth 100000 in
theorem c_X5_takeOwner (l : Launch) (D : va_G) (cI cZ cR : ClassId) {a_t a_t_text a_t_code a_t_waiting : Nat} {t_length : Int32} {t_codes : Int32} {t_waits : Int32} {t_fault : Int32} {t_faultPlace : Int32} {t_at : Int32} {t_place : Int32} {t_sign : Int32} {t_number : Int32} {t_state : Int32} {t_name : Int32} {t_compared : Int32} {t_open : Int32} {t_parentheses : Int32} {t_code_r : Nat → Int32} {sz : Nat} {out : Int32 × Int32 × Int32 × Int32 × (Nat → Int32)} (hf : F_X5_takeOwner t_codes t_fault t_faultPlace t_name t_number t_place t_sign t_state t_code_r = some out) : CV l yX5_takeOwner wsX5_takeOwner ({ frames := 2, cells := 0, slots := 0, locals := 43 } : Room) D cI cZ cR [.ref a_t] (wd_X5_takeOwner cI cZ cR a_t a_t_text a_t_code a_t_waiting t_length t_codes t_waits t_fault t_faultPlace t_at t_place t_sign t_number t_state t_name t_compared t_open t_parentheses t_code_r) sz (wd_X5_takeOwner cI cZ cR a_t a_t_text a_t_code a_t_waiting t_length (out.1) t_waits (out.2.1) (out.2.2.1) t_at t_place t_sign t_number (out.2.2.2.1) t_name t_compared t_open t_parentheses (out.2.2.2.2)) := by
  refine met_of (Qf := fun A => qv D cI cZ cR A (wd_X5_takeOwner cI cZ cR a_t a_t_text a_t_code a_t_waiting t_length (out.1) t_waits (out.2.1) (out.2.2.1) t_at t_place t_sign t_number (out.2.2.2.1) t_name t_compared t_open t_parentheses (out.2.2.2.2))) RX5 (by decide +kernel) rfl rfl (Nat.le_of_ble_eq_true rfl) ?_
  intro p e s m below meth c A X hK hA hP hD hS ls hl
  have hl : lv_has ls 2 [(0, .ref a_t)] := hl
  obtain ⟨hx, hb, hml, hr, hown, hts, hlocks, hN⟩ := id X
  unfold F_X5_takeOwner at hf
  refine lv_aload_n hx hb dX5_takeOwner_0 rfl (lv_at hl 0 rfl) ?_
  refine va_get (D := D) (ci := 5) (v := .int t_name) (C := RX5) (T := TX5) (N := 17) hx hb hts in_X5_takeOwner_X5 hown hK hP 0 rfl rfl 13 (by decide) (hts (.fieldLink RX5 118 "DivisionHall$Reader" "name" "I") (by decide +kernel)) (fun _ h9 => h9) rfl dX5_takeOwner_1 ?_
  refine lv_bipush (v := (11 : Int32)) hx hb dX5_takeOwner_4 (by decide) ?_
  refine lv_icmp_ne (tgt := 13) hx hb dX5_takeOwner_6 (by decide) (fun c1 => ?_) (fun c1 => ?_)
  · have hf := ineg c1 hf
    refine lv_iconst (v := (0 : Int32)) hx hb dX5_takeOwner_13 (by decide) ?_
    exact w_X5_takeOwner_14 X hK hA (0 : Int32) t_codes t_fault t_faultPlace t_state t_code_r hf _ _ hP hD hS _ (lv_sub hl [0] rfl)
  · have hf := ipos c1 hf
    refine lv_iconst (v := (1 : Int32)) hx hb dX5_takeOwner_9 (by decide) ?_
    refine lv_goto (tgt := 14) hx hb dX5_takeOwner_10 (by decide) ?_
    exact w_X5_takeOwner_14 X hK hA (1 : Int32) t_codes t_fault t_faultPlace t_state t_code_r hf _ _ hP hD hS _ (lv_sub hl [0] rfl)

abbrev wd_X5_takeToken (cI cZ cR : ClassId) (a_t a_t_text a_t_code a_t_waiting : Nat) (t_length t_codes t_waits t_fault t_faultPlace t_at t_place t_sign t_number t_state t_name t_compared t_open t_parentheses : Int32) (t_code_r : Nat → Int32) (t_waiting_r : Nat → Int32) : va_W := [(a_t, oB 5 [.ref a_t_text, .ref a_t_code, .ref a_t_waiting, .int t_length, .int t_codes, .int t_waits, .int t_fault, .int t_faultPlace, .int t_at, .int t_place, .int t_sign, .int t_number, .int t_state, .int t_name, .int t_compared, .int t_open, .int t_parentheses]), (a_t_code, aI cI 400 t_code_r), (a_t_waiting, aI cI 40 t_waiting_r)]
set_option maxRecDepth 100000 in
theorem in_X5_takeToken_X5 : ∀ w ∈ wsX50, w ∈ wsX5_takeToken := by decide +kernel
set_option maxHeartbeats 4000000 in
set_option maxRecDepth 100000 in
theorem w_X5_takeToken_60 {p : Program} {l : Launch} {e : Env} {s : State} {m : MethodId} {args : Array Value} {below : List Frame} {meth : Method} {c : Code} {D : va_G} {cI cZ cR : ClassId} {A : Nat → Prop} {a_t a_t_text a_t_code a_t_waiting : Nat} {t_length : Int32} {t_at : Int32} {t_place : Int32} {t_sign : Int32} {t_number : Int32} {out : Int32 × Int32 × Int32 × Int32 × Int32 × Int32 × Int32 × Int32 × Int32 × (Nat → Int32) × (Nat → Int32)} (X : cx p s m args meth c cX5_takeToken 1 none RX5 wsX5_takeToken) (hK : va_K D vwCl (ty3 cI cZ cR) s) (hA : ∀ q, s.heap.size ≤ q → A q) : ∀ (t_codes : Int32) (t_compared : Int32) (t_fault : Int32) (t_faultPlace : Int32) (t_name : Int32) (t_open : Int32) (t_parentheses : Int32) (t_state : Int32) (t_waits : Int32) (t_code_r : Nat → Int32) (t_waiting_r : Nat → Int32), F_X5_takeToken_60 t_number t_place t_sign t_codes t_compared t_fault t_faultPlace t_name t_open t_parentheses t_state t_waits t_code_r t_waiting_r = some out → ∀ (H : Heap) (locs : List Loc), va_P D vwCl (wd_X5_takeToken cI cZ cR a_t a_t_text a_t_code a_t_waiting t_length t_codes t_waits t_fault t_faultPlace t_at t_place t_sign t_number t_state t_name t_compared t_open t_parentheses t_code_r t_waiting_r) H → va_D A (wd_X5_takeToken cI cZ cR a_t a_t_text a_t_code a_t_waiting t_length t_codes t_waits t_fault t_faultPlace t_at t_place t_sign t_number t_state t_name t_compared t_open t_parentheses t_code_r t_waiting_r) → va_S A s.heap H locs → ∀ (ls : Array Slot), lv_has ls 1 [(0, .ref a_t)] → W p l e (headSpec wsX5_takeToken ({ frames := 5, cells := 0, slots := 0, locals := 103 } : Room)).room s m args below meth c H locs 0 0 (MQ below (qv D cI cZ cR A (wd_X5_takeToken cI cZ cR a_t a_t_text a_t_code a_t_waiting t_length (out.1) (out.2.2.2.2.2.2.2.2.1) (out.2.2.1) (out.2.2.2.1) t_at t_place t_sign t_number (out.2.2.2.2.2.2.2.1) (out.2.2.2.2.1) (out.2.1) (out.2.2.2.2.2.1) (out.2.2.2.2.2.2.1) (out.2.2.2.2.2.2.2.2.2.1) (out.2.2.2.2.2.2.2.2.2.2))) args s 0 0 A) (F0 m 60 ls []) := by
  obtain ⟨hx, hb, hml, hr, hown, hts, hlocks, hN⟩ := id X
  intro t_codes t_compared t_fault t_faultPlace t_name t_open t_parentheses t_state t_waits t_code_r t_waiting_r hf H locs hP hD hS ls hl
  unfold F_X5_takeToken_60 at hf
  refine lv_aload_n hx hb dX5_takeToken_60 rfl (lv_at hl 0 rfl) ?_
  refine va_get (D := D) (ci := 5) (v := .int t_state) (C := RX5) (T := TX5) (N := 17) hx hb hts in_X5_takeToken_X5 hown hK hP 0 rfl rfl 12 (by decide) (hts (.fieldLink RX5 50 "DivisionHall$Reader" "state" "I") (by decide +kernel)) (fun _ h9 => h9) rfl dX5_takeToken_61 ?_
  by_cases c10 : t_state = (0 : Int32)
  · have hf := ipos c10 hf
    refine lv_tableIn (tgt := 119) hx hb dX5_takeToken_64 (by rw [c10]; decide) (by rw [c10]; decide) (by rw [c10]; rfl) (by decide) ?_
    refine lv_aload_n hx hb dX5_takeToken_119 rfl (lv_at hl 0 rfl) ?_
    obtain ⟨r11, hr12, hf⟩ := bnd hf
    refine wcallvA (D := D) (cI := cI) (cZ := cZ) (cR := cR) (wc := (wd_X5_takeClause cI cZ cR a_t a_t_text a_t_code a_t_waiting t_length t_codes t_waits t_fault t_faultPlace t_at t_place t_sign t_number t_state t_name t_compared t_open t_parentheses t_code_r t_waiting_r)) (w' := (wd_X5_takeClause cI cZ cR a_t a_t_text a_t_code a_t_waiting t_length (r11.1) (r11.2.2.2.2.2.2.2.2.1) (r11.2.2.1) (r11.2.2.2.1) t_at t_place t_sign t_number (r11.2.2.2.2.2.2.2.1) (r11.2.2.2.2.1) (r11.2.1) (r11.2.2.2.2.2.1) (r11.2.2.2.2.2.2.1) (r11.2.2.2.2.2.2.2.2.2.1) (r11.2.2.2.2.2.2.2.2.2.2))) hP hD hS hA rfl (rnVA (As := []) (ci := 5) (q0 := 0) X hK hP hD rfl rfl (c_X5_takeClause l D cI cZ cR hr12) (cwV 0 hts gX5_takeToken_X5_takeClause rfl rfl rfl (by decide +kernel) ⟨Nat.le_of_ble_eq_true rfl, Nat.le_of_ble_eq_true rfl⟩) rfl hl.1 rfl (Nat.le_of_ble_eq_true rfl) dX5_takeToken_120) (fun H locs hP hD hS => ?_)
    have hP : va_P D vwCl (wd_X5_takeToken cI cZ cR a_t a_t_text a_t_code a_t_waiting t_length (r11.1) (r11.2.2.2.2.2.2.2.2.1) (r11.2.2.1) (r11.2.2.2.1) t_at t_place t_sign t_number (r11.2.2.2.2.2.2.2.1) (r11.2.2.2.2.1) (r11.2.1) (r11.2.2.2.2.2.1) (r11.2.2.2.2.2.2.1) (r11.2.2.2.2.2.2.2.2.2.1) (r11.2.2.2.2.2.2.2.2.2.2)) H := hP
    have hD : va_D A (wd_X5_takeToken cI cZ cR a_t a_t_text a_t_code a_t_waiting t_length (r11.1) (r11.2.2.2.2.2.2.2.2.1) (r11.2.2.1) (r11.2.2.2.1) t_at t_place t_sign t_number (r11.2.2.2.2.2.2.2.1) (r11.2.2.2.2.1) (r11.2.1) (r11.2.2.2.2.2.1) (r11.2.2.2.2.2.2.1) (r11.2.2.2.2.2.2.2.2.2.1) (r11.2.2.2.2.2.2.2.2.2.2)) := hD
    refine lv_goto (tgt := 166) hx hb dX5_takeToken_123 (by decide) ?_
    cases hf
    exact retv X hK hP hD hS dX5_takeToken_166
  have hf := ineg c10 hf
  by_cases c13 : t_state = (1 : Int32)
  · have hf := ipos c13 hf
    refine lv_tableIn (tgt := 126) hx hb dX5_takeToken_64 (by rw [c13]; decide) (by rw [c13]; decide) (by rw [c13]; rfl) (by decide) ?_
    refine lv_aload_n hx hb dX5_takeToken_126 rfl (lv_at hl 0 rfl) ?_
    obtain ⟨r14, hr15, hf⟩ := bnd hf
    refine wcallv (D := D) (cI := cI) (cZ := cZ) (cR := cR) (wc := (wd_X5_takeUnit cI cZ cR a_t a_t_text a_t_code a_t_waiting t_length t_codes t_waits t_fault t_faultPlace t_at t_place t_sign t_number t_state t_name t_compared t_open t_parentheses t_code_r)) (w' := (wd_X5_takeUnit cI cZ cR a_t a_t_text a_t_code a_t_waiting t_length (r14.1) t_waits (r14.2.1) (r14.2.2.1) t_at t_place t_sign t_number (r14.2.2.2.2.1) (r14.2.2.2.1) t_compared t_open t_parentheses (r14.2.2.2.2.2))) [0, 1] hP hD hS hA rfl rfl rfl (rnV (As := []) (ci := 5) (q0 := 0) X [0, 1] hK hP hD rfl rfl rfl rfl (c_X5_takeUnit l D cI cZ cR hr15) (cwV 0 hts gX5_takeToken_X5_takeUnit rfl rfl rfl (by decide +kernel) ⟨Nat.le_of_ble_eq_true rfl, Nat.le_of_ble_eq_true rfl⟩) rfl hl.1 rfl (Nat.le_of_ble_eq_true rfl) dX5_takeToken_127) (fun H locs hP hD hS => ?_)
    have hP : va_P D vwCl (wd_X5_takeToken cI cZ cR a_t a_t_text a_t_code a_t_waiting t_length (r14.1) t_waits (r14.2.1) (r14.2.2.1) t_at t_place t_sign t_number (r14.2.2.2.2.1) (r14.2.2.2.1) t_compared t_open t_parentheses (r14.2.2.2.2.2) t_waiting_r) H := hP
    have hD : va_D A (wd_X5_takeToken cI cZ cR a_t a_t_text a_t_code a_t_waiting t_length (r14.1) t_waits (r14.2.1) (r14.2.2.1) t_at t_place t_sign t_number (r14.2.2.2.2.1) (r14.2.2.2.1) t_compared t_open t_parentheses (r14.2.2.2.2.2) t_waiting_r) := hD
    refine lv_goto (tgt := 166) hx hb dX5_takeToken_130 (by decide) ?_
    cases hf
    exact retv X hK hP hD hS dX5_takeToken_166
  have hf := ineg c13 hf
  by_cases c16 : t_state = (2 : Int32)
  · have hf := ipos c16 hf
    refine lv_tableIn (tgt := 133) hx hb dX5_takeToken_64 (by rw [c16]; decide) (by rw [c16]; decide) (by rw [c16]; rfl) (by decide) ?_
    refine lv_aload_n hx hb dX5_takeToken_133 rfl (lv_at hl 0 rfl) ?_
    obtain ⟨r17, hr18, hf⟩ := bnd hf
    refine wcallv (D := D) (cI := cI) (cZ := cZ) (cR := cR) (wc := (wd_X5_takeOwner cI cZ cR a_t a_t_text a_t_code a_t_waiting t_length t_codes t_waits t_fault t_faultPlace t_at t_place t_sign t_number t_state t_name t_compared t_open t_parentheses t_code_r)) (w' := (wd_X5_takeOwner cI cZ cR a_t a_t_text a_t_code a_t_waiting t_length (r17.1) t_waits (r17.2.1) (r17.2.2.1) t_at t_place t_sign t_number (r17.2.2.2.1) t_name t_compared t_open t_parentheses (r17.2.2.2.2))) [0, 1] hP hD hS hA rfl rfl rfl (rnV (As := []) (ci := 5) (q0 := 0) X [0, 1] hK hP hD rfl rfl rfl rfl (c_X5_takeOwner l D cI cZ cR hr18) (cwV 0 hts gX5_takeToken_X5_takeOwner rfl rfl rfl (by decide +kernel) ⟨Nat.le_of_ble_eq_true rfl, Nat.le_of_ble_eq_true rfl⟩) rfl hl.1 rfl (Nat.le_of_ble_eq_true rfl) dX5_takeToken_134) (fun H locs hP hD hS => ?_)
    have hP : va_P D vwCl (wd_X5_takeToken cI cZ cR a_t a_t_text a_t_code a_t_waiting t_length (r17.1) t_waits (r17.2.1) (r17.2.2.1) t_at t_place t_sign t_number (r17.2.2.2.1) t_name t_compared t_open t_parentheses (r17.2.2.2.2) t_waiting_r) H := hP
    have hD : va_D A (wd_X5_takeToken cI cZ cR a_t a_t_text a_t_code a_t_waiting t_length (r17.1) t_waits (r17.2.1) (r17.2.2.1) t_at t_place t_sign t_number (r17.2.2.2.1) t_name t_compared t_open t_parentheses (r17.2.2.2.2) t_waiting_r) := hD
    refine lv_goto (tgt := 166) hx hb dX5_takeToken_137 (by decide) ?_
    cases hf
    exact retv X hK hP hD hS dX5_takeToken_166
  have hf := ineg c16 hf
  by_cases c19 : t_state = (3 : Int32)
  · have hf := ipos c19 hf
    refine lv_tableIn (tgt := 140) hx hb dX5_takeToken_64 (by rw [c19]; decide) (by rw [c19]; decide) (by rw [c19]; rfl) (by decide) ?_
    refine lv_aload_n hx hb dX5_takeToken_140 rfl (lv_at hl 0 rfl) ?_
    refine lv_iconst (v := (2 : Int32)) hx hb dX5_takeToken_141 (by decide) ?_
    refine va_put (D := D) (ci := 5) (v := .int (2 : Int32)) (ty := .int) (C := RX5) (T := TX5) (N := 17) hx hb hts in_X5_takeToken_X5 tyX5 tyX5_ok nmX5 hown hK hP hD hS 0 rfl rfl 12 (by decide) (hts (.fieldLink RX5 50 "DivisionHall$Reader" "state" "I") (by decide +kernel)) (fun _ h9 => h9) rfl (by decide +kernel) rfl rfl (Nat.le_of_ble_eq_true rfl) dX5_takeToken_142 (fun H locs hP hD hS => ?_)
    have hP : va_P D vwCl (wd_X5_takeToken cI cZ cR a_t a_t_text a_t_code a_t_waiting t_length t_codes t_waits t_fault t_faultPlace t_at t_place t_sign t_number (2 : Int32) t_name t_compared t_open t_parentheses t_code_r t_waiting_r) H := hP
    have hD : va_D A (wd_X5_takeToken cI cZ cR a_t a_t_text a_t_code a_t_waiting t_length t_codes t_waits t_fault t_faultPlace t_at t_place t_sign t_number (2 : Int32) t_name t_compared t_open t_parentheses t_code_r t_waiting_r) := hD
    refine lv_goto (tgt := 166) hx hb dX5_takeToken_145 (by decide) ?_
    cases hf
    exact retv X hK hP hD hS dX5_takeToken_166
  have hf := ineg c19 hf
  by_cases c20 : t_state = (4 : Int32)
  · have hf := ipos c20 hf
    refine lv_tableIn (tgt := 148) hx hb dX5_takeToken_64 (by rw [c20]; decide) (by rw [c20]; decide) (by rw [c20]; rfl) (by decide) ?_
    refine lv_aload_n hx hb dX5_takeToken_148 rfl (lv_at hl 0 rfl) ?_
    obtain ⟨r21, hr22, hf⟩ := bnd hf
    refine wcallvA (D := D) (cI := cI) (cZ := cZ) (cR := cR) (wc := (wd_X5_takeBehindUnit cI cZ cR a_t a_t_text a_t_code a_t_waiting t_length t_codes t_waits t_fault t_faultPlace t_at t_place t_sign t_number t_state t_name t_compared t_open t_parentheses t_code_r t_waiting_r)) (w' := (wd_X5_takeBehindUnit cI cZ cR a_t a_t_text a_t_code a_t_waiting t_length (r21.1) (r21.2.2.2.2.2.2.1) (r21.2.2.1) (r21.2.2.2.1) t_at t_place t_sign t_number (r21.2.2.2.2.2.1) t_name (r21.2.1) (r21.2.2.2.2.1) t_parentheses (r21.2.2.2.2.2.2.2.1) (r21.2.2.2.2.2.2.2.2))) hP hD hS hA rfl (rnVA (As := []) (ci := 5) (q0 := 0) X hK hP hD rfl rfl (c_X5_takeBehindUnit l D cI cZ cR hr22) (cwV 0 hts gX5_takeToken_X5_takeBehindUnit rfl rfl rfl (by decide +kernel) ⟨Nat.le_of_ble_eq_true rfl, Nat.le_of_ble_eq_true rfl⟩) rfl hl.1 rfl (Nat.le_of_ble_eq_true rfl) dX5_takeToken_149) (fun H locs hP hD hS => ?_)
    have hP : va_P D vwCl (wd_X5_takeToken cI cZ cR a_t a_t_text a_t_code a_t_waiting t_length (r21.1) (r21.2.2.2.2.2.2.1) (r21.2.2.1) (r21.2.2.2.1) t_at t_place t_sign t_number (r21.2.2.2.2.2.1) t_name (r21.2.1) (r21.2.2.2.2.1) t_parentheses (r21.2.2.2.2.2.2.2.1) (r21.2.2.2.2.2.2.2.2)) H := hP
    have hD : va_D A (wd_X5_takeToken cI cZ cR a_t a_t_text a_t_code a_t_waiting t_length (r21.1) (r21.2.2.2.2.2.2.1) (r21.2.2.1) (r21.2.2.2.1) t_at t_place t_sign t_number (r21.2.2.2.2.2.1) t_name (r21.2.1) (r21.2.2.2.2.1) t_parentheses (r21.2.2.2.2.2.2.2.1) (r21.2.2.2.2.2.2.2.2)) := hD
    refine lv_goto (tgt := 166) hx hb dX5_takeToken_152 (by decide) ?_
    cases hf
    exact retv X hK hP hD hS dX5_takeToken_166
  have hf := ineg c20 hf
  by_cases c23 : t_state = (5 : Int32)
  · have hf := ipos c23 hf
    refine lv_tableIn (tgt := 155) hx hb dX5_takeToken_64 (by rw [c23]; decide) (by rw [c23]; decide) (by rw [c23]; rfl) (by decide) ?_
    refine lv_aload_n hx hb dX5_takeToken_155 rfl (lv_at hl 0 rfl) ?_
    obtain ⟨r24, hr25, hf⟩ := bnd hf
    refine wcallvA (D := D) (cI := cI) (cZ := cZ) (cR := cR) (wc := (wd_X5_takeBehindClause cI cZ cR a_t a_t_text a_t_code a_t_waiting t_length t_codes t_waits t_fault t_faultPlace t_at t_place t_sign t_number t_state t_name t_compared t_open t_parentheses t_code_r t_waiting_r)) (w' := (wd_X5_takeBehindClause cI cZ cR a_t a_t_text a_t_code a_t_waiting t_length (r24.1) (r24.2.2.2.2.2.2.1) (r24.2.1) (r24.2.2.1) t_at t_place t_sign t_number (r24.2.2.2.2.2.1) t_name t_compared (r24.2.2.2.1) (r24.2.2.2.2.1) (r24.2.2.2.2.2.2.2.1) (r24.2.2.2.2.2.2.2.2))) hP hD hS hA rfl (rnVA (As := []) (ci := 5) (q0 := 0) X hK hP hD rfl rfl (c_X5_takeBehindClause l D cI cZ cR hr25) (cwV 0 hts gX5_takeToken_X5_takeBehindClause rfl rfl rfl (by decide +kernel) ⟨Nat.le_of_ble_eq_true rfl, Nat.le_of_ble_eq_true rfl⟩) rfl hl.1 rfl (Nat.le_of_ble_eq_true rfl) dX5_takeToken_156) (fun H locs hP hD hS => ?_)
    have hP : va_P D vwCl (wd_X5_takeToken cI cZ cR a_t a_t_text a_t_code a_t_waiting t_length (r24.1) (r24.2.2.2.2.2.2.1) (r24.2.1) (r24.2.2.1) t_at t_place t_sign t_number (r24.2.2.2.2.2.1) t_name t_compared (r24.2.2.2.1) (r24.2.2.2.2.1) (r24.2.2.2.2.2.2.2.1) (r24.2.2.2.2.2.2.2.2)) H := hP
    have hD : va_D A (wd_X5_takeToken cI cZ cR a_t a_t_text a_t_code a_t_waiting t_length (r24.1) (r24.2.2.2.2.2.2.1) (r24.2.1) (r24.2.2.1) t_at t_place t_sign t_number (r24.2.2.2.2.2.1) t_name t_compared (r24.2.2.2.1) (r24.2.2.2.2.1) (r24.2.2.2.2.2.2.2.1) (r24.2.2.2.2.2.2.2.2)) := hD
    refine lv_goto (tgt := 166) hx hb dX5_takeToken_159 (by decide) ?_
    cases hf
    exact retv X hK hP hD hS dX5_takeToken_166
  have hf := ineg c23 hf
  by_cases c26 : t_state = (6 : Int32)
  · have hf := ipos c26 hf
    refine lv_tableIn (tgt := 162) hx hb dX5_takeToken_64 (by rw [c26]; decide) (by rw [c26]; decide) (by rw [c26]; rfl) (by decide) ?_
    refine lv_aload_n hx hb dX5_takeToken_162 rfl (lv_at hl 0 rfl) ?_
    obtain ⟨r27, hr28, hf⟩ := bnd hf
    refine wcallv (D := D) (cI := cI) (cZ := cZ) (cR := cR) (wc := (wd_X5_takeLast cI cZ cR a_t a_t_text a_t_code a_t_waiting t_length t_codes t_waits t_fault t_faultPlace t_at t_place t_sign t_number t_state t_name t_compared t_open t_parentheses)) (w' := (wd_X5_takeLast cI cZ cR a_t a_t_text a_t_code a_t_waiting t_length t_codes t_waits (r27.1) (r27.2.1) t_at t_place t_sign t_number (r27.2.2) t_name t_compared t_open t_parentheses)) [0] hP hD hS hA rfl rfl rfl (rnV (As := []) (ci := 5) (q0 := 0) X [0] hK hP hD rfl rfl rfl rfl (c_X5_takeLast l D cI cZ cR hr28) (cwV 0 hts gX5_takeToken_X5_takeLast rfl rfl rfl (by decide +kernel) ⟨Nat.le_of_ble_eq_true rfl, Nat.le_of_ble_eq_true rfl⟩) rfl hl.1 rfl (Nat.le_of_ble_eq_true rfl) dX5_takeToken_163) (fun H locs hP hD hS => ?_)
    have hP : va_P D vwCl (wd_X5_takeToken cI cZ cR a_t a_t_text a_t_code a_t_waiting t_length t_codes t_waits (r27.1) (r27.2.1) t_at t_place t_sign t_number (r27.2.2) t_name t_compared t_open t_parentheses t_code_r t_waiting_r) H := hP
    have hD : va_D A (wd_X5_takeToken cI cZ cR a_t a_t_text a_t_code a_t_waiting t_length t_codes t_waits (r27.1) (r27.2.1) t_at t_place t_sign t_number (r27.2.2) t_name t_compared t_open t_parentheses t_code_r t_waiting_r) := hD
    cases hf
    exact retv X hK hP hD hS dX5_takeToken_166
  have hf := ineg c26 hf
  by_cases c29 : t_state = (7 : Int32)
  · have hf := ipos c29 hf
    refine lv_tableIn (tgt := 112) hx hb dX5_takeToken_64 (by rw [c29]; decide) (by rw [c29]; decide) (by rw [c29]; rfl) (by decide) ?_
    refine lv_aload_n hx hb dX5_takeToken_112 rfl (lv_at hl 0 rfl) ?_
    obtain ⟨r30, hr31, hf⟩ := bnd hf
    refine wcallvA (D := D) (cI := cI) (cZ := cZ) (cR := cR) (wc := (wd_X5_takeFirst cI cZ cR a_t a_t_text a_t_code a_t_waiting t_length t_codes t_waits t_fault t_faultPlace t_at t_place t_sign t_number t_state t_name t_compared t_open t_parentheses t_code_r t_waiting_r)) (w' := (wd_X5_takeFirst cI cZ cR a_t a_t_text a_t_code a_t_waiting t_length (r30.1) (r30.2.2.2.2.2.2.2.2.1) (r30.2.2.1) (r30.2.2.2.1) t_at t_place t_sign t_number (r30.2.2.2.2.2.2.2.1) (r30.2.2.2.2.1) (r30.2.1) (r30.2.2.2.2.2.1) (r30.2.2.2.2.2.2.1) (r30.2.2.2.2.2.2.2.2.2.1) (r30.2.2.2.2.2.2.2.2.2.2))) hP hD hS hA rfl (rnVA (As := []) (ci := 5) (q0 := 0) X hK hP hD rfl rfl (c_X5_takeFirst l D cI cZ cR hr31) (cwV 0 hts gX5_takeToken_X5_takeFirst rfl rfl rfl (by decide +kernel) ⟨Nat.le_of_ble_eq_true rfl, Nat.le_of_ble_eq_true rfl⟩) rfl hl.1 rfl (Nat.le_of_ble_eq_true rfl) dX5_takeToken_113) (fun H locs hP hD hS => ?_)
    have hP : va_P D vwCl (wd_X5_takeToken cI cZ cR a_t a_t_text a_t_code a_t_waiting t_length (r30.1) (r30.2.2.2.2.2.2.2.2.1) (r30.2.2.1) (r30.2.2.2.1) t_at t_place t_sign t_number (r30.2.2.2.2.2.2.2.1) (r30.2.2.2.2.1) (r30.2.1) (r30.2.2.2.2.2.1) (r30.2.2.2.2.2.2.1) (r30.2.2.2.2.2.2.2.2.2.1) (r30.2.2.2.2.2.2.2.2.2.2)) H := hP
    have hD : va_D A (wd_X5_takeToken cI cZ cR a_t a_t_text a_t_code a_t_waiting t_length (r30.1) (r30.2.2.2.2.2.2.2.2.1) (r30.2.2.1) (r30.2.2.2.1) t_at t_place t_sign t_number (r30.2.2.2.2.2.2.2.1) (r30.2.2.2.2.1) (r30.2.1) (r30.2.2.2.2.2.1) (r30.2.2.2.2.2.2.1) (r30.2.2.2.2.2.2.2.2.2.1) (r30.2.2.2.2.2.2.2.2.2.2)) := hD
    refine lv_goto (tgt := 166) hx hb dX5_takeToken_116 (by decide) ?_
    cases hf
    exact retv X hK hP hD hS dX5_takeToken_166
  have hf := ineg c29 hf
  refine lv_tableOut (tgt := 162) hx hb dX5_takeToken_64 (tout 0 7 (fun k hk => by match k, hk with | 0, _ => exact c10 | 1, _ => exact c13 | 2, _ => exact c16 | 3, _ => exact c19 | 4, _ => exact c20 | 5, _ => exact c23 | 6, _ => exact c26 | 7, _ => exact c29 | (q + 8), hk => exact absurd hk (by omega)) rfl rfl (by decide)) (by decide) ?_
  refine lv_aload_n hx hb dX5_takeToken_162 rfl (lv_at hl 0 rfl) ?_
  obtain ⟨r32, hr33, hf⟩ := bnd hf
  refine wcallv (D := D) (cI := cI) (cZ := cZ) (cR := cR) (wc := (wd_X5_takeLast cI cZ cR a_t a_t_text a_t_code a_t_waiting t_length t_codes t_waits t_fault t_faultPlace t_at t_place t_sign t_number t_state t_name t_compared t_open t_parentheses)) (w' := (wd_X5_takeLast cI cZ cR a_t a_t_text a_t_code a_t_waiting t_length t_codes t_waits (r32.1) (r32.2.1) t_at t_place t_sign t_number (r32.2.2) t_name t_compared t_open t_parentheses)) [0] hP hD hS hA rfl rfl rfl (rnV (As := []) (ci := 5) (q0 := 0) X [0] hK hP hD rfl rfl rfl rfl (c_X5_takeLast l D cI cZ cR hr33) (cwV 0 hts gX5_takeToken_X5_takeLast rfl rfl rfl (by decide +kernel) ⟨Nat.le_of_ble_eq_true rfl, Nat.le_of_ble_eq_true rfl⟩) rfl hl.1 rfl (Nat.le_of_ble_eq_true rfl) dX5_takeToken_163) (fun H locs hP hD hS => ?_)
  have hP : va_P D vwCl (wd_X5_takeToken cI cZ cR a_t a_t_text a_t_code a_t_waiting t_length t_codes t_waits (r32.1) (r32.2.1) t_at t_place t_sign t_number (r32.2.2) t_name t_compared t_open t_parentheses t_code_r t_waiting_r) H := hP
  have hD : va_D A (wd_X5_takeToken cI cZ cR a_t a_t_text a_t_code a_t_waiting t_length t_codes t_waits (r32.1) (r32.2.1) t_at t_place t_sign t_number (r32.2.2) t_name t_compared t_open t_parentheses t_code_r t_waiting_r) := hD
  cases hf
  exact retv X hK hP hD hS dX5_takeToken_166
set_option maxHeartbeats 4000000 in
set_option maxRecDepth 100000 in
theorem w_X5_takeToken_30 {p : Program} {l : Launch} {e : Env} {s : State} {m : MethodId} {args : Array Value} {below : List Frame} {meth : Method} {c : Code} {D : va_G} {cI cZ cR : ClassId} {A : Nat → Prop} {a_t a_t_text a_t_code a_t_waiting : Nat} {t_length : Int32} {t_at : Int32} {t_place : Int32} {t_sign : Int32} {t_number : Int32} {out : Int32 × Int32 × Int32 × Int32 × Int32 × Int32 × Int32 × Int32 × Int32 × (Nat → Int32) × (Nat → Int32)} (X : cx p s m args meth c cX5_takeToken 1 none RX5 wsX5_takeToken) (hK : va_K D vwCl (ty3 cI cZ cR) s) (hA : ∀ q, s.heap.size ≤ q → A q) : ∀ (t_codes : Int32) (t_compared : Int32) (t_fault : Int32) (t_faultPlace : Int32) (t_name : Int32) (t_open : Int32) (t_parentheses : Int32) (t_state : Int32) (t_waits : Int32) (t_code_r : Nat → Int32) (t_waiting_r : Nat → Int32), F_X5_takeToken_30 t_number t_place t_sign t_codes t_compared t_fault t_faultPlace t_name t_open t_parentheses t_state t_waits t_code_r t_waiting_r = some out → ∀ (H : Heap) (locs : List Loc), va_P D vwCl (wd_X5_takeToken cI cZ cR a_t a_t_text a_t_code a_t_waiting t_length t_codes t_waits t_fault t_faultPlace t_at t_place t_sign t_number t_state t_name t_compared t_open t_parentheses t_code_r t_waiting_r) H → va_D A (wd_X5_takeToken cI cZ cR a_t a_t_text a_t_code a_t_waiting t_length t_codes t_waits t_fault t_faultPlace t_at t_place t_sign t_number t_state t_name t_compared t_open t_parentheses t_code_r t_waiting_r) → va_S A s.heap H locs → ∀ (ls : Array Slot), lv_has ls 1 [(0, .ref a_t)] → W p l e (headSpec wsX5_takeToken ({ frames := 5, cells := 0, slots := 0, locals := 103 } : Room)).room s m args below meth c H locs 0 0 (MQ below (qv D cI cZ cR A (wd_X5_takeToken cI cZ cR a_t a_t_text a_t_code a_t_waiting t_length (out.1) (out.2.2.2.2.2.2.2.2.1) (out.2.2.1) (out.2.2.2.1) t_at t_place t_sign t_number (out.2.2.2.2.2.2.2.1) (out.2.2.2.2.1) (out.2.1) (out.2.2.2.2.2.1) (out.2.2.2.2.2.2.1) (out.2.2.2.2.2.2.2.2.2.1) (out.2.2.2.2.2.2.2.2.2.2))) args s 0 0 A) (F0 m 30 ls []) := by
  obtain ⟨hx, hb, hml, hr, hown, hts, hlocks, hN⟩ := id X
  intro t_codes t_compared t_fault t_faultPlace t_name t_open t_parentheses t_state t_waits t_code_r t_waiting_r hf H locs hP hD hS ls hl
  unfold F_X5_takeToken_30 at hf
  refine lv_aload_n hx hb dX5_takeToken_30 rfl (lv_at hl 0 rfl) ?_
  refine va_get (D := D) (ci := 5) (v := .int t_state) (C := RX5) (T := TX5) (N := 17) hx hb hts in_X5_takeToken_X5 hown hK hP 0 rfl rfl 12 (by decide) (hts (.fieldLink RX5 50 "DivisionHall$Reader" "state" "I") (by decide +kernel)) (fun _ h9 => h9) rfl dX5_takeToken_31 ?_
  refine lv_iconst (v := (4 : Int32)) hx hb dX5_takeToken_34 (by decide) ?_
  refine lv_icmp_ne (tgt := 60) hx hb dX5_takeToken_35 (by decide) (fun c5 => ?_) (fun c5 => ?_)
  · have hf := ineg c5 hf
    exact w_X5_takeToken_60 X hK hA t_codes t_compared t_fault t_faultPlace t_name t_open t_parentheses t_state t_waits t_code_r t_waiting_r hf _ _ hP hD hS _ (lv_sub hl [0] rfl)
  · have hf := ipos c5 hf
    refine lv_aload_n hx hb dX5_takeToken_38 rfl (lv_at hl 0 rfl) ?_
    refine va_get (D := D) (ci := 5) (v := .int t_compared) (C := RX5) (T := TX5) (N := 17) hx hb hts in_X5_takeToken_X5 hown hK hP 0 rfl rfl 14 (by decide) (hts (.fieldLink RX5 40 "DivisionHall$Reader" "compared" "Z") (by decide +kernel)) (fun _ h9 => h9) rfl dX5_takeToken_39 ?_
    refine lv_if_eq (tgt := 60) hx hb dX5_takeToken_42 (by decide) (fun c6 => ?_) (fun c6 => ?_)
    · have hf := ipos c6 hf
      exact w_X5_takeToken_60 X hK hA t_codes t_compared t_fault t_faultPlace t_name t_open t_parentheses t_state t_waits t_code_r t_waiting_r hf _ _ hP hD hS _ (lv_sub hl [0] rfl)
    · have hf := ineg c6 hf
      refine lv_aload_n hx hb dX5_takeToken_45 rfl (lv_at hl 0 rfl) ?_
      refine va_get (D := D) (ci := 5) (v := .int t_sign) (C := RX5) (T := TX5) (N := 17) hx hb hts in_X5_takeToken_X5 hown hK hP 0 rfl rfl 10 (by decide) (hts (.fieldLink RX5 64 "DivisionHall$Reader" "sign" "I") (by decide +kernel)) (fun _ h9 => h9) rfl dX5_takeToken_46 ?_
      obtain ⟨r7, hr8, hf⟩ := bnd hf
      refine wcalli (D := D) (cI := cI) (cZ := cZ) (cR := cR) (wc := (wd_X8_isSum cI cZ cR)) (w' := (wd_X8_isSum cI cZ cR)) [] hP hD hS hA rfl rfl rfl (rnS (As := [.int t_sign]) X [] hK hP hD rfl rfl (c_X8_isSum l D cI cZ cR hr8) ⟨callB_of 1 hts ggX5_takeToken_X8_isSum rfl rfl rfl (hts (.initialized RX8) (by decide +kernel)) (hts (.methodLink RX5 125 yX8_isSum) (by decide +kernel)) (by decide +kernel) ⟨Nat.le_of_ble_eq_true rfl, Nat.le_of_ble_eq_true rfl⟩, hts (.static yX8_isSum) (by decide +kernel)⟩ rfl hl.1 rfl (Nat.le_of_ble_eq_true rfl) dX5_takeToken_49) (fun H locs hP hD hS => ?_)
      have hP : va_P D vwCl (wd_X5_takeToken cI cZ cR a_t a_t_text a_t_code a_t_waiting t_length t_codes t_waits t_fault t_faultPlace t_at t_place t_sign t_number t_state t_name t_compared t_open t_parentheses t_code_r t_waiting_r) H := hP
      have hD : va_D A (wd_X5_takeToken cI cZ cR a_t a_t_text a_t_code a_t_waiting t_length t_codes t_waits t_fault t_faultPlace t_at t_place t_sign t_number t_state t_name t_compared t_open t_parentheses t_code_r t_waiting_r) := hD
      refine lv_if_ne (tgt := 60) hx hb dX5_takeToken_52 (by decide) (fun c9 => ?_) (fun c9 => ?_)
      · have hf := ineg c9 hf
        exact w_X5_takeToken_60 X hK hA t_codes t_compared t_fault t_faultPlace t_name t_open t_parentheses t_state t_waits t_code_r t_waiting_r hf _ _ hP hD hS _ (lv_sub hl [0] rfl)
      · have hf := ipos c9 hf
        refine lv_aload_n hx hb dX5_takeToken_55 rfl (lv_at hl 0 rfl) ?_
        refine lv_iconst (v := (5 : Int32)) hx hb dX5_takeToken_56 (by decide) ?_
        refine va_put (D := D) (ci := 5) (v := .int (5 : Int32)) (ty := .int) (C := RX5) (T := TX5) (N := 17) hx hb hts in_X5_takeToken_X5 tyX5 tyX5_ok nmX5 hown hK hP hD hS 0 rfl rfl 12 (by decide) (hts (.fieldLink RX5 50 "DivisionHall$Reader" "state" "I") (by decide +kernel)) (fun _ h9 => h9) rfl (by decide +kernel) rfl rfl (Nat.le_of_ble_eq_true rfl) dX5_takeToken_57 (fun H locs hP hD hS => ?_)
        have hP : va_P D vwCl (wd_X5_takeToken cI cZ cR a_t a_t_text a_t_code a_t_waiting t_length t_codes t_waits t_fault t_faultPlace t_at t_place t_sign t_number (5 : Int32) t_name t_compared t_open t_parentheses t_code_r t_waiting_r) H := hP
        have hD : va_D A (wd_X5_takeToken cI cZ cR a_t a_t_text a_t_code a_t_waiting t_length t_codes t_waits t_fault t_faultPlace t_at t_place t_sign t_number (5 : Int32) t_name t_compared t_open t_parentheses t_code_r t_waiting_r) := hD
        exact w_X5_takeToken_60 X hK hA t_codes t_compared t_fault t_faultPlace t_name t_open t_parentheses (5 : Int32) t_waits t_code_r t_waiting_r hf _ _ hP hD hS _ (lv_sub hl [0] rfl)
set_option maxHeartbeats 4000000 in
set_option maxRecDepth 100000 in
theorem c_X5_takeToken (l : Launch) (D : va_G) (cI cZ cR : ClassId) {a_t a_t_text a_t_code a_t_waiting : Nat} {t_length : Int32} {t_codes : Int32} {t_waits : Int32} {t_fault : Int32} {t_faultPlace : Int32} {t_at : Int32} {t_place : Int32} {t_sign : Int32} {t_number : Int32} {t_state : Int32} {t_name : Int32} {t_compared : Int32} {t_open : Int32} {t_parentheses : Int32} {t_code_r : Nat → Int32} {t_waiting_r : Nat → Int32} {sz : Nat} {out : Int32 × Int32 × Int32 × Int32 × Int32 × Int32 × Int32 × Int32 × Int32 × (Nat → Int32) × (Nat → Int32)} (hf : F_X5_takeToken t_codes t_compared t_fault t_faultPlace t_name t_number t_open t_parentheses t_place t_sign t_state t_waits t_code_r t_waiting_r = some out) : CV l yX5_takeToken wsX5_takeToken ({ frames := 5, cells := 0, slots := 0, locals := 103 } : Room) D cI cZ cR [.ref a_t] (wd_X5_takeToken cI cZ cR a_t a_t_text a_t_code a_t_waiting t_length t_codes t_waits t_fault t_faultPlace t_at t_place t_sign t_number t_state t_name t_compared t_open t_parentheses t_code_r t_waiting_r) sz (wd_X5_takeToken cI cZ cR a_t a_t_text a_t_code a_t_waiting t_length (out.1) (out.2.2.2.2.2.2.2.2.1) (out.2.2.1) (out.2.2.2.1) t_at t_place t_sign t_number (out.2.2.2.2.2.2.2.1) (out.2.2.2.2.1) (out.2.1) (out.2.2.2.2.2.1) (out.2.2.2.2.2.2.1) (out.2.2.2.2.2.2.2.2.2.1) (out.2.2.2.2.2.2.2.2.2.2)) := by
  refine met_of (Qf := fun A => qv D cI cZ cR A (wd_X5_takeToken cI cZ cR a_t a_t_text a_t_code a_t_waiting t_length (out.1) (out.2.2.2.2.2.2.2.2.1) (out.2.2.1) (out.2.2.2.1) t_at t_place t_sign t_number (out.2.2.2.2.2.2.2.1) (out.2.2.2.2.1) (out.2.1) (out.2.2.2.2.2.1) (out.2.2.2.2.2.2.1) (out.2.2.2.2.2.2.2.2.2.1) (out.2.2.2.2.2.2.2.2.2.2))) RX5 (by decide +kernel) rfl rfl (Nat.le_of_ble_eq_true rfl) ?_
  intro p e s m below meth c A X hK hA hP hD hS ls hl
  have hl : lv_has ls 1 [(0, .ref a_t)] := hl
  obtain ⟨hx, hb, hml, hr, hown, hts, hlocks, hN⟩ := id X
  unfold F_X5_takeToken at hf
  refine lv_aload_n hx hb dX5_takeToken_0 rfl (lv_at hl 0 rfl) ?_
  refine va_get (D := D) (ci := 5) (v := .int t_state) (C := RX5) (T := TX5) (N := 17) hx hb hts in_X5_takeToken_X5 hown hK hP 0 rfl rfl 12 (by decide) (hts (.fieldLink RX5 50 "DivisionHall$Reader" "state" "I") (by decide +kernel)) (fun _ h9 => h9) rfl dX5_takeToken_1 ?_
  refine lv_iconst (v := (3 : Int32)) hx hb dX5_takeToken_4 (by decide) ?_
  refine lv_icmp_ne (tgt := 30) hx hb dX5_takeToken_5 (by decide) (fun c1 => ?_) (fun c1 => ?_)
  · have hf := ineg c1 hf
    exact w_X5_takeToken_30 X hK hA t_codes t_compared t_fault t_faultPlace t_name t_open t_parentheses t_state t_waits t_code_r t_waiting_r hf _ _ hP hD hS _ (lv_sub hl [0] rfl)
  · have hf := ipos c1 hf
    refine lv_aload_n hx hb dX5_takeToken_8 rfl (lv_at hl 0 rfl) ?_
    refine va_get (D := D) (ci := 5) (v := .int t_sign) (C := RX5) (T := TX5) (N := 17) hx hb hts in_X5_takeToken_X5 hown hK hP 0 rfl rfl 10 (by decide) (hts (.fieldLink RX5 64 "DivisionHall$Reader" "sign" "I") (by decide +kernel)) (fun _ h9 => h9) rfl dX5_takeToken_9 ?_
    refine lv_iconst (v := (5 : Int32)) hx hb dX5_takeToken_12 (by decide) ?_
    refine lv_icmp_eq (tgt := 30) hx hb dX5_takeToken_13 (by decide) (fun c2 => ?_) (fun c2 => ?_)
    · have hf := ipos c2 hf
      exact w_X5_takeToken_30 X hK hA t_codes t_compared t_fault t_faultPlace t_name t_open t_parentheses t_state t_waits t_code_r t_waiting_r hf _ _ hP hD hS _ (lv_sub hl [0] rfl)
    · have hf := ineg c2 hf
      refine lv_aload_n hx hb dX5_takeToken_16 rfl (lv_at hl 0 rfl) ?_
      refine lv_aload_n hx hb dX5_takeToken_17 rfl (lv_at hl 0 rfl) ?_
      refine va_get (D := D) (ci := 5) (v := .int t_name) (C := RX5) (T := TX5) (N := 17) hx hb hts in_X5_takeToken_X5 hown hK hP 0 rfl rfl 13 (by decide) (hts (.fieldLink RX5 118 "DivisionHall$Reader" "name" "I") (by decide +kernel)) (fun _ h9 => h9) rfl dX5_takeToken_18 ?_
      refine lv_iconst (v := (0 : Int32)) hx hb dX5_takeToken_21 (by decide) ?_
      obtain ⟨r3, hr4, hf⟩ := bnd hf
      refine wcallv (D := D) (cI := cI) (cZ := cZ) (cR := cR) (wc := (wd_X5_emit cI cZ cR a_t a_t_text a_t_code a_t_waiting t_length t_codes t_waits t_fault t_faultPlace t_at t_place t_sign t_number t_state t_name t_compared t_open t_parentheses t_code_r)) (w' := (wd_X5_emit cI cZ cR a_t a_t_text a_t_code a_t_waiting t_length (r3.1) t_waits t_fault t_faultPlace t_at t_place t_sign t_number t_state t_name t_compared t_open t_parentheses (r3.2))) [0, 1] hP hD hS hA rfl rfl rfl (rnV (As := [.int t_name, .int (0 : Int32)]) (ci := 5) (q0 := 0) X [0, 1] hK hP hD rfl rfl rfl rfl (c_X5_emit l D cI cZ cR hr4) (cwV 2 hts gX5_takeToken_X5_emit rfl rfl rfl (by decide +kernel) ⟨Nat.le_of_ble_eq_true rfl, Nat.le_of_ble_eq_true rfl⟩) rfl hl.1 rfl (Nat.le_of_ble_eq_true rfl) dX5_takeToken_22) (fun H locs hP hD hS => ?_)
      have hP : va_P D vwCl (wd_X5_takeToken cI cZ cR a_t a_t_text a_t_code a_t_waiting t_length (r3.1) t_waits t_fault t_faultPlace t_at t_place t_sign t_number t_state t_name t_compared t_open t_parentheses (r3.2) t_waiting_r) H := hP
      have hD : va_D A (wd_X5_takeToken cI cZ cR a_t a_t_text a_t_code a_t_waiting t_length (r3.1) t_waits t_fault t_faultPlace t_at t_place t_sign t_number t_state t_name t_compared t_open t_parentheses (r3.2) t_waiting_r) := hD
      refine lv_aload_n hx hb dX5_takeToken_25 rfl (lv_at hl 0 rfl) ?_
      refine lv_iconst (v := (4 : Int32)) hx hb dX5_takeToken_26 (by decide) ?_
      refine va_put (D := D) (ci := 5) (v := .int (4 : Int32)) (ty := .int) (C := RX5) (T := TX5) (N := 17) hx hb hts in_X5_takeToken_X5 tyX5 tyX5_ok nmX5 hown hK hP hD hS 0 rfl rfl 12 (by decide) (hts (.fieldLink RX5 50 "DivisionHall$Reader" "state" "I") (by decide +kernel)) (fun _ h9 => h9) rfl (by decide +kernel) rfl rfl (Nat.le_of_ble_eq_true rfl) dX5_takeToken_27 (fun H locs hP hD hS => ?_)
      have hP : va_P D vwCl (wd_X5_takeToken cI cZ cR a_t a_t_text a_t_code a_t_waiting t_length (r3.1) t_waits t_fault t_faultPlace t_at t_place t_sign t_number (4 : Int32) t_name t_compared t_open t_parentheses (r3.2) t_waiting_r) H := hP
      have hD : va_D A (wd_X5_takeToken cI cZ cR a_t a_t_text a_t_code a_t_waiting t_length (r3.1) t_waits t_fault t_faultPlace t_at t_place t_sign t_number (4 : Int32) t_name t_compared t_open t_parentheses (r3.2) t_waiting_r) := hD
      exact w_X5_takeToken_30 X hK hA (r3.1) t_compared t_fault t_faultPlace t_name t_open t_parentheses (4 : Int32) t_waits (r3.2) t_waiting_r hf _ _ hP hD hS _ (lv_sub hl [0] rfl)
