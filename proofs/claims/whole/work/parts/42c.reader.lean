abbrev wd_X5_takeOwner (cI cZ cR : ClassId) (a_t a_t_text a_t_code a_t_waiting : Nat) (t_length t_codes t_waits t_fault t_faultPlace t_at t_place t_sign t_number t_state t_name t_compared t_open t_parentheses : Int32) (t_code_r : Nat → Int32) : va_W := [(a_t, oB 5 [.ref a_t_text, .ref a_t_code, .ref a_t_waiting, .int t_length, .int t_codes, .int t_waits, .int t_fault, .int t_faultPlace, .int t_at, .int t_place, .int t_sign, .int t_number, .int t_state, .int t_name, .int t_compared, .int t_open, .int t_parentheses]), (a_t_code, aI cI 400 t_code_r)]
set_option maxRecDepth 100000 in
theorem in_X5_takeOwner_X5 : ∀ w ∈ wsX50, w ∈ wsX5_takeOwner := by decide +kernel
set_option maxHeartbeats 4000000 in
set_option maxRecDepth 100000 in
theorem w_X5_takeOwner_97 {p : Program} {l : Launch} {e : Env} {s : State} {m : MethodId} {args : Array Value} {below : List Frame} {meth : Method} {c : Code} {D : va_G} {cI cZ cR : ClassId} {A : Nat → Prop} {a_t a_t_text a_t_code a_t_waiting : Nat} {t_length : Int32} {t_waits : Int32} {t_at : Int32} {t_place : Int32} {t_sign : Int32} {t_number : Int32} {t_name : Int32} {t_compared : Int32} {t_open : Int32} {t_parentheses : Int32} {out : Int32 × Int32 × Int32 × Int32 × (Nat → Int32)} (X : cx p s m args meth c cX5_takeOwner 2 none RX5 wsX5_takeOwner) (hK : va_K D vwCl (ty3 cI cZ cR) s) (hA : ∀ q, s.heap.size ≤ q → A q) : ∀ (s0 : Int32) (t_codes : Int32) (t_fault : Int32) (t_faultPlace : Int32) (t_state : Int32) (t_code_r : Nat → Int32), F_X5_takeOwner_97 t_name t_number t_place t_sign s0 t_codes t_fault t_faultPlace t_state t_code_r = some out → ∀ (H : Heap) (locs : List Loc), va_P D vwCl (wd_X5_takeOwner cI cZ cR a_t a_t_text a_t_code a_t_waiting t_length t_codes t_waits t_fault t_faultPlace t_at t_place t_sign t_number t_state t_name t_compared t_open t_parentheses t_code_r) H → va_D A (wd_X5_takeOwner cI cZ cR a_t a_t_text a_t_code a_t_waiting t_length t_codes t_waits t_fault t_faultPlace t_at t_place t_sign t_number t_state t_name t_compared t_open t_parentheses t_code_r) → va_S A s.heap H locs → ∀ (ls : Array Slot), lv_has ls 2 [(0, .ref a_t)] → W p l e (headSpec wsX5_takeOwner ({ frames := 2, cells := 0, slots := 0, locals := 43 } : Room)).room s m args below meth c H locs 0 0 (MQ below (qv D cI cZ cR A (wd_X5_takeOwner cI cZ cR a_t a_t_text a_t_code a_t_waiting t_length (out.1) t_waits (out.2.1) (out.2.2.1) t_at t_place t_sign t_number (out.2.2.2.1) t_name t_compared t_open t_parentheses (out.2.2.2.2))) args s 0 0 A) (F0 m 97 ls [.int s0, .ref a_t]) := by
  obtain ⟨hx, hb, hml, hr, hown, hts, hlocks, hN⟩ := id X
  intro s0 t_codes t_fault t_faultPlace t_state t_code_r hf H locs hP hD hS ls hl
  unfold F_X5_takeOwner_97 at hf
  refine lv_aload_n hx hb dX5_takeOwner_97 rfl (lv_at hl 0 rfl) ?_
  refine va_get (D := D) (ci := 5) (v := .int t_number) (C := RX5) (T := TX5) (N := 17) hx hb hts in_X5_takeOwner_X5 hown hK hP 0 rfl rfl 11 (by decide) (hts (.fieldLink RX5 115 "DivisionHall$Reader" "number" "I") (by decide +kernel)) (fun _ h9 => h9) rfl dX5_takeOwner_98 ?_
  obtain ⟨r13, hr14, hf⟩ := bnd hf
  refine wcallvA (D := D) (cI := cI) (cZ := cZ) (cR := cR) (wc := (wd_X5_emit cI cZ cR a_t a_t_text a_t_code a_t_waiting t_length t_codes t_waits t_fault t_faultPlace t_at t_place t_sign t_number t_state t_name t_compared t_open t_parentheses t_code_r)) (w' := (wd_X5_emit cI cZ cR a_t a_t_text a_t_code a_t_waiting t_length (r13.1) t_waits t_fault t_faultPlace t_at t_place t_sign t_number t_state t_name t_compared t_open t_parentheses (r13.2))) hP hD hS hA rfl (rnVA (As := [.int s0, .int t_number]) (ci := 5) (q0 := 0) X hK hP hD rfl rfl (c_X5_emit l D cI cZ cR hr14) (cwV 2 hts gX5_takeOwner_X5_emit rfl rfl rfl (by decide +kernel) ⟨Nat.le_of_ble_eq_true rfl, Nat.le_of_ble_eq_true rfl⟩) rfl hl.1 rfl (Nat.le_of_ble_eq_true rfl) dX5_takeOwner_101) (fun H locs hP hD hS => ?_)
  have hP : va_P D vwCl (wd_X5_takeOwner cI cZ cR a_t a_t_text a_t_code a_t_waiting t_length (r13.1) t_waits t_fault t_faultPlace t_at t_place t_sign t_number t_state t_name t_compared t_open t_parentheses (r13.2)) H := hP
  have hD : va_D A (wd_X5_takeOwner cI cZ cR a_t a_t_text a_t_code a_t_waiting t_length (r13.1) t_waits t_fault t_faultPlace t_at t_place t_sign t_number t_state t_name t_compared t_open t_parentheses (r13.2)) := hD
  refine lv_aload_n hx hb dX5_takeOwner_104 rfl (lv_at hl 0 rfl) ?_
  refine lv_iconst (v := (4 : Int32)) hx hb dX5_takeOwner_105 (by decide) ?_
  refine va_put (D := D) (ci := 5) (v := .int (4 : Int32)) (ty := .int) (C := RX5) (T := TX5) (N := 17) hx hb hts in_X5_takeOwner_X5 tyX5 tyX5_ok nmX5 hown hK hP hD hS 0 rfl rfl 12 (by decide) (hts (.fieldLink RX5 50 "DivisionHall$Reader" "state" "I") (by decide +kernel)) (fun _ h9 => h9) rfl (by decide +kernel) rfl rfl (Nat.le_of_ble_eq_true rfl) dX5_takeOwner_106 (fun H locs hP hD hS => ?_)
  have hP : va_P D vwCl (wd_X5_takeOwner cI cZ cR a_t a_t_text a_t_code a_t_waiting t_length (r13.1) t_waits t_fault t_faultPlace t_at t_place t_sign t_number (4 : Int32) t_name t_compared t_open t_parentheses (r13.2)) H := hP
  have hD : va_D A (wd_X5_takeOwner cI cZ cR a_t a_t_text a_t_code a_t_waiting t_length (r13.1) t_waits t_fault t_faultPlace t_at t_place t_sign t_number (4 : Int32) t_name t_compared t_open t_parentheses (r13.2)) := hD
  cases hf
  exact retv X hK hP hD hS dX5_takeOwner_109
set_option maxHeartbeats 4000000 in
set_option maxRecDepth 100000 in
theorem w_X5_takeOwner_47 {p : Program} {l : Launch} {e : Env} {s : State} {m : MethodId} {args : Array Value} {below : List Frame} {meth : Method} {c : Code} {D : va_G} {cI cZ cR : ClassId} {A : Nat → Prop} {a_t a_t_text a_t_code a_t_waiting : Nat} {t_length : Int32} {t_waits : Int32} {t_at : Int32} {t_place : Int32} {t_sign : Int32} {t_number : Int32} {t_name : Int32} {t_compared : Int32} {t_open : Int32} {t_parentheses : Int32} {out : Int32 × Int32 × Int32 × Int32 × (Nat → Int32)} (X : cx p s m args meth c cX5_takeOwner 2 none RX5 wsX5_takeOwner) (hK : va_K D vwCl (ty3 cI cZ cR) s) (hA : ∀ q, s.heap.size ≤ q → A q) : ∀ (x1 : Int32) (s0 : Int32) (s1 : Int32) (t_codes : Int32) (t_fault : Int32) (t_faultPlace : Int32) (t_state : Int32) (t_code_r : Nat → Int32), F_X5_takeOwner_47 t_name t_number t_place t_sign x1 s0 s1 t_codes t_fault t_faultPlace t_state t_code_r = some out → ∀ (H : Heap) (locs : List Loc), va_P D vwCl (wd_X5_takeOwner cI cZ cR a_t a_t_text a_t_code a_t_waiting t_length t_codes t_waits t_fault t_faultPlace t_at t_place t_sign t_number t_state t_name t_compared t_open t_parentheses t_code_r) H → va_D A (wd_X5_takeOwner cI cZ cR a_t a_t_text a_t_code a_t_waiting t_length t_codes t_waits t_fault t_faultPlace t_at t_place t_sign t_number t_state t_name t_compared t_open t_parentheses t_code_r) → va_S A s.heap H locs → ∀ (ls : Array Slot), lv_has ls 2 [(0, .ref a_t), (1, .int x1)] → W p l e (headSpec wsX5_takeOwner ({ frames := 2, cells := 0, slots := 0, locals := 43 } : Room)).room s m args below meth c H locs 0 0 (MQ below (qv D cI cZ cR A (wd_X5_takeOwner cI cZ cR a_t a_t_text a_t_code a_t_waiting t_length (out.1) t_waits (out.2.1) (out.2.2.1) t_at t_place t_sign t_number (out.2.2.2.1) t_name t_compared t_open t_parentheses (out.2.2.2.2))) args s 0 0 A) (F0 m 47 ls [.int s0, .int s1]) := by
  obtain ⟨hx, hb, hml, hr, hown, hts, hlocks, hN⟩ := id X
  intro x1 s0 s1 t_codes t_fault t_faultPlace t_state t_code_r hf H locs hP hD hS ls hl
  unfold F_X5_takeOwner_47 at hf
  refine lv_icmp_lt (tgt := 58) hx hb dX5_takeOwner_47 (by decide) (fun c6 => ?_) (fun c6 => ?_)
  · have hf := ipos c6 hf
    refine lv_iload_n hx hb dX5_takeOwner_58 rfl (lv_at hl 1 rfl) ?_
    refine lv_if_eq (tgt := 80) hx hb dX5_takeOwner_59 (by decide) (fun c7 => ?_) (fun c7 => ?_)
    · have hf := ipos c7 hf
      refine lv_aload_n hx hb dX5_takeOwner_80 rfl (lv_at hl 0 rfl) ?_
      refine lv_aload_n hx hb dX5_takeOwner_81 rfl (lv_at hl 0 rfl) ?_
      refine va_get (D := D) (ci := 5) (v := .int t_name) (C := RX5) (T := TX5) (N := 17) hx hb hts in_X5_takeOwner_X5 hown hK hP 0 rfl rfl 13 (by decide) (hts (.fieldLink RX5 118 "DivisionHall$Reader" "name" "I") (by decide +kernel)) (fun _ h9 => h9) rfl dX5_takeOwner_82 ?_
      refine lv_bipush (v := (7 : Int32)) hx hb dX5_takeOwner_85 (by decide) ?_
      refine lv_icmp_ne (tgt := 95) hx hb dX5_takeOwner_87 (by decide) (fun c8 => ?_) (fun c8 => ?_)
      · have hf := ineg c8 hf
        refine lv_bipush (v := (13 : Int32)) hx hb dX5_takeOwner_95 (by decide) ?_
        exact w_X5_takeOwner_97 X hK hA (13 : Int32) t_codes t_fault t_faultPlace t_state t_code_r hf _ _ hP hD hS _ (lv_sub hl [0] rfl)
      · have hf := ipos c8 hf
        refine lv_bipush (v := (12 : Int32)) hx hb dX5_takeOwner_90 (by decide) ?_
        refine lv_goto (tgt := 97) hx hb dX5_takeOwner_92 (by decide) ?_
        exact w_X5_takeOwner_97 X hK hA (12 : Int32) t_codes t_fault t_faultPlace t_state t_code_r hf _ _ hP hD hS _ (lv_sub hl [0] rfl)
    · have hf := ineg c7 hf
      refine lv_aload_n hx hb dX5_takeOwner_62 rfl (lv_at hl 0 rfl) ?_
      refine lv_bipush (v := (11 : Int32)) hx hb dX5_takeOwner_63 (by decide) ?_
      refine lv_aload_n hx hb dX5_takeOwner_65 rfl (lv_at hl 0 rfl) ?_
      refine va_get (D := D) (ci := 5) (v := .int t_number) (C := RX5) (T := TX5) (N := 17) hx hb hts in_X5_takeOwner_X5 hown hK hP 0 rfl rfl 11 (by decide) (hts (.fieldLink RX5 115 "DivisionHall$Reader" "number" "I") (by decide +kernel)) (fun _ h9 => h9) rfl dX5_takeOwner_66 ?_
      obtain ⟨r9, hr10, hf⟩ := bnd hf
      refine wcallvA (D := D) (cI := cI) (cZ := cZ) (cR := cR) (wc := (wd_X5_emit cI cZ cR a_t a_t_text a_t_code a_t_waiting t_length t_codes t_waits t_fault t_faultPlace t_at t_place t_sign t_number t_state t_name t_compared t_open t_parentheses t_code_r)) (w' := (wd_X5_emit cI cZ cR a_t a_t_text a_t_code a_t_waiting t_length (r9.1) t_waits t_fault t_faultPlace t_at t_place t_sign t_number t_state t_name t_compared t_open t_parentheses (r9.2))) hP hD hS hA rfl (rnVA (As := [.int (11 : Int32), .int t_number]) (ci := 5) (q0 := 0) X hK hP hD rfl rfl (c_X5_emit l D cI cZ cR hr10) (cwV 2 hts gX5_takeOwner_X5_emit rfl rfl rfl (by decide +kernel) ⟨Nat.le_of_ble_eq_true rfl, Nat.le_of_ble_eq_true rfl⟩) rfl hl.1 rfl (Nat.le_of_ble_eq_true rfl) dX5_takeOwner_69) (fun H locs hP hD hS => ?_)
      have hP : va_P D vwCl (wd_X5_takeOwner cI cZ cR a_t a_t_text a_t_code a_t_waiting t_length (r9.1) t_waits t_fault t_faultPlace t_at t_place t_sign t_number t_state t_name t_compared t_open t_parentheses (r9.2)) H := hP
      have hD : va_D A (wd_X5_takeOwner cI cZ cR a_t a_t_text a_t_code a_t_waiting t_length (r9.1) t_waits t_fault t_faultPlace t_at t_place t_sign t_number t_state t_name t_compared t_open t_parentheses (r9.2)) := hD
      refine lv_aload_n hx hb dX5_takeOwner_72 rfl (lv_at hl 0 rfl) ?_
      refine lv_iconst (v := (5 : Int32)) hx hb dX5_takeOwner_73 (by decide) ?_
      refine va_put (D := D) (ci := 5) (v := .int (5 : Int32)) (ty := .int) (C := RX5) (T := TX5) (N := 17) hx hb hts in_X5_takeOwner_X5 tyX5 tyX5_ok nmX5 hown hK hP hD hS 0 rfl rfl 12 (by decide) (hts (.fieldLink RX5 50 "DivisionHall$Reader" "state" "I") (by decide +kernel)) (fun _ h9 => h9) rfl (by decide +kernel) rfl rfl (Nat.le_of_ble_eq_true rfl) dX5_takeOwner_74 (fun H locs hP hD hS => ?_)
      have hP : va_P D vwCl (wd_X5_takeOwner cI cZ cR a_t a_t_text a_t_code a_t_waiting t_length (r9.1) t_waits t_fault t_faultPlace t_at t_place t_sign t_number (5 : Int32) t_name t_compared t_open t_parentheses (r9.2)) H := hP
      have hD : va_D A (wd_X5_takeOwner cI cZ cR a_t a_t_text a_t_code a_t_waiting t_length (r9.1) t_waits t_fault t_faultPlace t_at t_place t_sign t_number (5 : Int32) t_name t_compared t_open t_parentheses (r9.2)) := hD
      refine lv_goto (tgt := 109) hx hb dX5_takeOwner_77 (by decide) ?_
      cases hf
      exact retv X hK hP hD hS dX5_takeOwner_109
  · have hf := ineg c6 hf
    refine lv_aload_n hx hb dX5_takeOwner_50 rfl (lv_at hl 0 rfl) ?_
    refine lv_iconst (v := (2 : Int32)) hx hb dX5_takeOwner_51 (by decide) ?_
    obtain ⟨r11, hr12, hf⟩ := bnd hf
    refine wcallv (D := D) (cI := cI) (cZ := cZ) (cR := cR) (wc := (wd_X5_stop cI cZ cR a_t a_t_text a_t_code a_t_waiting t_length t_codes t_waits t_fault t_faultPlace t_at t_place t_sign t_number t_state t_name t_compared t_open t_parentheses)) (w' := (wd_X5_stop cI cZ cR a_t a_t_text a_t_code a_t_waiting t_length t_codes t_waits (r11.1) (r11.2.1) t_at t_place t_sign t_number (r11.2.2) t_name t_compared t_open t_parentheses)) [0] hP hD hS hA rfl rfl rfl (rnV (As := [.int (2 : Int32)]) (ci := 5) (q0 := 0) X [0] hK hP hD rfl rfl rfl rfl (c_X5_stop l D cI cZ cR hr12) (cwV 1 hts gX5_takeOwner_X5_stop rfl rfl rfl (by decide +kernel) ⟨Nat.le_of_ble_eq_true rfl, Nat.le_of_ble_eq_true rfl⟩) rfl hl.1 rfl (Nat.le_of_ble_eq_true rfl) dX5_takeOwner_52) (fun H locs hP hD hS => ?_)
    have hP : va_P D vwCl (wd_X5_takeOwner cI cZ cR a_t a_t_text a_t_code a_t_waiting t_length t_codes t_waits (r11.1) (r11.2.1) t_at t_place t_sign t_number (r11.2.2) t_name t_compared t_open t_parentheses t_code_r) H := hP
    have hD : va_D A (wd_X5_takeOwner cI cZ cR a_t a_t_text a_t_code a_t_waiting t_length t_codes t_waits (r11.1) (r11.2.1) t_at t_place t_sign t_number (r11.2.2) t_name t_compared t_open t_parentheses t_code_r) := hD
    refine lv_goto (tgt := 109) hx hb dX5_takeOwner_55 (by decide) ?_
    cases hf
    exact retv X hK hP hD hS dX5_takeOwner_109
set_option maxHeartbeats 4000000 in
set_option maxRecDepth 100000 in
theorem w_X5_takeOwner_14 {p : Program} {l : Launch} {e : Env} {s : State} {m : MethodId} {args : Array Value} {below : List Frame} {meth : Method} {c : Code} {D : va_G} {cI cZ cR : ClassId} {A : Nat → Prop} {a_t a_t_text a_t_code a_t_waiting : Nat} {t_length : Int32} {t_waits : Int32} {t_at : Int32} {t_place : Int32} {t_sign : Int32} {t_number : Int32} {t_name : Int32} {t_compared : Int32} {t_open : Int32} {t_parentheses : Int32} {out : Int32 × Int32 × Int32 × Int32 × (Nat → Int32)} (X : cx p s m args meth c cX5_takeOwner 2 none RX5 wsX5_takeOwner) (hK : va_K D vwCl (ty3 cI cZ cR) s) (hA : ∀ q, s.heap.size ≤ q → A q) : ∀ (s0 : Int32) (t_codes : Int32) (t_fault : Int32) (t_faultPlace : Int32) (t_state : Int32) (t_code_r : Nat → Int32), F_X5_takeOwner_14 t_name t_number t_place t_sign s0 t_codes t_fault t_faultPlace t_state t_code_r = some out → ∀ (H : Heap) (locs : List Loc), va_P D vwCl (wd_X5_takeOwner cI cZ cR a_t a_t_text a_t_code a_t_waiting t_length t_codes t_waits t_fault t_faultPlace t_at t_place t_sign t_number t_state t_name t_compared t_open t_parentheses t_code_r) H → va_D A (wd_X5_takeOwner cI cZ cR a_t a_t_text a_t_code a_t_waiting t_length t_codes t_waits t_fault t_faultPlace t_at t_place t_sign t_number t_state t_name t_compared t_open t_parentheses t_code_r) → va_S A s.heap H locs → ∀ (ls : Array Slot), lv_has ls 2 [(0, .ref a_t)] → W p l e (headSpec wsX5_takeOwner ({ frames := 2, cells := 0, slots := 0, locals := 43 } : Room)).room s m args below meth c H locs 0 0 (MQ below (qv D cI cZ cR A (wd_X5_takeOwner cI cZ cR a_t a_t_text a_t_code a_t_waiting t_length (out.1) t_waits (out.2.1) (out.2.2.1) t_at t_place t_sign t_number (out.2.2.2.1) t_name t_compared t_open t_parentheses (out.2.2.2.2))) args s 0 0 A) (F0 m 14 ls [.int s0]) := by
  obtain ⟨hx, hb, hml, hr, hown, hts, hlocks, hN⟩ := id X
  intro s0 t_codes t_fault t_faultPlace t_state t_code_r hf H locs hP hD hS ls hl
  unfold F_X5_takeOwner_14 at hf
  refine lv_istore_n (lv' := [(1, .int s0), (0, .ref a_t)]) hx hb dX5_takeOwner_14 rfl hl (by decide) rfl (fun ls hl => ?_)
  refine lv_aload_n hx hb dX5_takeOwner_15 rfl (lv_at hl 1 rfl) ?_
  refine va_get (D := D) (ci := 5) (v := .int t_sign) (C := RX5) (T := TX5) (N := 17) hx hb hts in_X5_takeOwner_X5 hown hK hP 0 rfl rfl 10 (by decide) (hts (.fieldLink RX5 64 "DivisionHall$Reader" "sign" "I") (by decide +kernel)) (fun _ h9 => h9) rfl dX5_takeOwner_16 ?_
  refine lv_bipush (v := (6 : Int32)) hx hb dX5_takeOwner_19 (by decide) ?_
  refine lv_icmp_eq (tgt := 32) hx hb dX5_takeOwner_21 (by decide) (fun c2 => ?_) (fun c2 => ?_)
  · have hf := ipos c2 hf
    refine lv_aload_n hx hb dX5_takeOwner_32 rfl (lv_at hl 1 rfl) ?_
    refine va_get (D := D) (ci := 5) (v := .int t_number) (C := RX5) (T := TX5) (N := 17) hx hb hts in_X5_takeOwner_X5 hown hK hP 0 rfl rfl 11 (by decide) (hts (.fieldLink RX5 115 "DivisionHall$Reader" "number" "I") (by decide +kernel)) (fun _ h9 => h9) rfl dX5_takeOwner_33 ?_
    refine lv_iload_n hx hb dX5_takeOwner_36 rfl (lv_at hl 0 rfl) ?_
    refine lv_if_eq (tgt := 45) hx hb dX5_takeOwner_37 (by decide) (fun c3 => ?_) (fun c3 => ?_)
    · have hf := ipos c3 hf
      refine lv_bipush (v := (6 : Int32)) hx hb dX5_takeOwner_45 (by decide) ?_
      exact w_X5_takeOwner_47 X hK hA s0 (6 : Int32) t_number t_codes t_fault t_faultPlace t_state t_code_r hf _ _ hP hD hS _ (lv_sub hl [1, 0] rfl)
    · have hf := ineg c3 hf
      refine lv_bipush (v := (10 : Int32)) hx hb dX5_takeOwner_40 (by decide) ?_
      refine lv_goto (tgt := 47) hx hb dX5_takeOwner_42 (by decide) ?_
      exact w_X5_takeOwner_47 X hK hA s0 (10 : Int32) t_number t_codes t_fault t_faultPlace t_state t_code_r hf _ _ hP hD hS _ (lv_sub hl [1, 0] rfl)
  · have hf := ineg c2 hf
    refine lv_aload_n hx hb dX5_takeOwner_24 rfl (lv_at hl 1 rfl) ?_
    refine lv_iconst (v := (1 : Int32)) hx hb dX5_takeOwner_25 (by decide) ?_
    obtain ⟨r4, hr5, hf⟩ := bnd hf
    refine wcallv (D := D) (cI := cI) (cZ := cZ) (cR := cR) (wc := (wd_X5_stop cI cZ cR a_t a_t_text a_t_code a_t_waiting t_length t_codes t_waits t_fault t_faultPlace t_at t_place t_sign t_number t_state t_name t_compared t_open t_parentheses)) (w' := (wd_X5_stop cI cZ cR a_t a_t_text a_t_code a_t_waiting t_length t_codes t_waits (r4.1) (r4.2.1) t_at t_place t_sign t_number (r4.2.2) t_name t_compared t_open t_parentheses)) [0] hP hD hS hA rfl rfl rfl (rnV (As := [.int (1 : Int32)]) (ci := 5) (q0 := 0) X [0] hK hP hD rfl rfl rfl rfl (c_X5_stop l D cI cZ cR hr5) (cwV 1 hts gX5_takeOwner_X5_stop rfl rfl rfl (by decide +kernel) ⟨Nat.le_of_ble_eq_true rfl, Nat.le_of_ble_eq_true rfl⟩) rfl hl.1 rfl (Nat.le_of_ble_eq_true rfl) dX5_takeOwner_26) (fun H locs hP hD hS => ?_)
    have hP : va_P D vwCl (wd_X5_takeOwner cI cZ cR a_t a_t_text a_t_code a_t_waiting t_length t_codes t_waits (r4.1) (r4.2.1) t_at t_place t_sign t_number (r4.2.2) t_name t_compared t_open t_parentheses t_code_r) H := hP
    have hD : va_D A (wd_X5_takeOwner cI cZ cR a_t a_t_text a_t_code a_t_waiting t_length t_codes t_waits (r4.1) (r4.2.1) t_at t_place t_sign t_number (r4.2.2) t_name t_compared t_open t_parentheses t_code_r) := hD
    refine lv_goto (tgt := 109) hx hb dX5_takeOwner_29 (by decide) ?_
    cases hf
    exact retv X hK hP hD hS dX5_takeOwner_109
set_option maxHeartbeats 4000000 in
set_option maxRecDepth 100000 in
theorem c_X5_takeOwner (l : Launch) (D : va_G) (cI cZ cR : ClassId) {a_t a_t_text a_t_code a_t_waiting : Nat} {t_length : Int32} {t_codes : Int32} {t_waits : Int32} {t_fault : Int32} {t_faultPlace : Int32} {t_at : Int32} {t_place : Int32} {t_sign : Int32} {t_number : Int32} {t_state : Int32} {t_name : Int32} {t_compared : Int32} {t_open : Int32} {t_parentheses : Int32} {t_code_r : Nat → Int32} {sz : Nat} {out : Int32 × Int32 × Int32 × Int32 × (Nat → Int32)} (hf : F_X5_takeOwner t_codes t_fault t_faultPlace t_name t_number t_place t_sign t_state t_code_r = some out) : CV l yX5_takeOwner wsX5_takeOwner ({ frames := 2, cells := 0, slots := 0, locals := 43 } : Room) D cI cZ cR [.ref a_t] (wd_X5_takeOwner cI cZ cR a_t a_t_text a_t_code a_t_waiting t_length t_codes t_waits t_fault t_faultPlace t_at t_place t_sign t_number t_state t_name t_compared t_open t_parentheses t_code_r) sz (wd_X5_takeOwner cI cZ cR a_t a_t_text a_t_code a_t_waiting t_length (out.1) t_waits (out.2.1) (out.2.2.1) t_at t_place t_sign t_number (out.2.2.2.1) t_name t_compared t_open t_parentheses (out.2.2.2.2)) := by
  refine met_of (Qf := fun A => qv D cI cZ cR A (wd_X5_takeOwner cI cZ cR a_t a_t_text a_t_code a_t_waiting t_length (out.1) t_waits (out.2.1) (out.2.2.1) t_at t_place t_sign t_number (out.2.2.2.1) t_name t_compared t_open t_parentheses (out.2.2.2.2))) RX5 (by decide +kernel) rfl rfl (Nat.le_of_ble_eq_true rfl) ?_
  intro p e s m below meth c A X hK hA hP hD hS ls hl
  have hl : lv_has ls 2 [(0, .ref a_t)] := hl
  obtain ⟨hx, hb, hml, hr, hown, hts, hlocks, hN⟩ := id X
  unfold F_X5_takeOwner at hf
  refine lv_aload_n hx hb dX5_takeOwner_0 rfl (lv_at hl 0 rfl) ?_
  refine va_get (D := D) (ci := 5) (v := .int t_name) (C := RX5) (T := TX5) (N := 17) hx hb hts in_X5_takeOwner_X5 hown hK hP 0 rfl rfl 13 (by decide) (hts (.fieldLink RX5 118 "DivisionHall$Reader" "name" "I") (by decide +kernel)) (fun _ h9 => h9) rfl dX5_takeOwner_1 ?_
  refine lv_bipush (v := (11 : Int32)) hx hb dX5_takeOwner_4 (by decide) ?_
  refine lv_icmp_ne (tgt := 13) hx hb dX5_takeOwner_6 (by decide) (fun c1 => ?_) (fun c1 => ?_)
  · have hf := ineg c1 hf
    refine lv_iconst (v := (0 : Int32)) hx hb dX5_takeOwner_13 (by decide) ?_
    exact w_X5_takeOwner_14 X hK hA (0 : Int32) t_codes t_fault t_faultPlace t_state t_code_r hf _ _ hP hD hS _ (lv_sub hl [0] rfl)
  · have hf := ipos c1 hf
    refine lv_iconst (v := (1 : Int32)) hx hb dX5_takeOwner_9 (by decide) ?_
    refine lv_goto (tgt := 14) hx hb dX5_takeOwner_10 (by decide) ?_
    exact w_X5_takeOwner_14 X hK hA (1 : Int32) t_codes t_fault t_faultPlace t_state t_code_r hf _ _ hP hD hS _ (lv_sub hl [0] rfl)

abbrev wd_X5_takeToken (cI cZ cR : ClassId) (a_t a_t_text a_t_code a_t_waiting : Nat) (t_length t_codes t_waits t_fault t_faultPlace t_at t_place t_sign t_number t_state t_name t_compared t_open t_parentheses : Int32) (t_code_r : Nat → Int32) (t_waiting_r : Nat → Int32) : va_W := [(a_t, oB 5 [.ref a_t_text, .ref a_t_code, .ref a_t_waiting, .int t_length, .int t_codes, .int t_waits, .int t_fault, .int t_faultPlace, .int t_at, .int t_place, .int t_sign, .int t_number, .int t_state, .int t_name, .int t_compared, .int t_open, .int t_parentheses]), (a_t_code, aI cI 400 t_code_r), (a_t_waiting, aI cI 40 t_waiting_r)]
set_option maxRecDepth 100000 in
theorem in_X5_takeToken_X5 : ∀ w ∈ wsX50, w ∈ wsX5_takeToken := by decide +kernel
set_option maxHeartbeats 4000000 in
set_option maxRecDepth 100000 in
theorem w_X5_takeToken_86 {p : Program} {l : Launch} {e : Env} {s : State} {m : MethodId} {args : Array Value} {below : List Frame} {meth : Method} {c : Code} {D : va_G} {cI cZ cR : ClassId} {A : Nat → Prop} {a_t a_t_text a_t_code a_t_waiting : Nat} {t_length : Int32} {t_at : Int32} {t_place : Int32} {t_sign : Int32} {t_number : Int32} {out : Int32 × Int32 × Int32 × Int32 × Int32 × Int32 × Int32 × Int32 × Int32 × (Nat → Int32) × (Nat → Int32)} (X : cx p s m args meth c cX5_takeToken 1 none RX5 wsX5_takeToken) (hK : va_K D vwCl (ty3 cI cZ cR) s) (hA : ∀ q, s.heap.size ≤ q → A q) : ∀ (t_codes : Int32) (t_compared : Int32) (t_fault : Int32) (t_faultPlace : Int32) (t_name : Int32) (t_open : Int32) (t_parentheses : Int32) (t_state : Int32) (t_waits : Int32) (t_code_r : Nat → Int32) (t_waiting_r : Nat → Int32), F_X5_takeToken_86 t_number t_place t_sign t_codes t_compared t_fault t_faultPlace t_name t_open t_parentheses t_state t_waits t_code_r t_waiting_r = some out → ∀ (H : Heap) (locs : List Loc), va_P D vwCl (wd_X5_takeToken cI cZ cR a_t a_t_text a_t_code a_t_waiting t_length t_codes t_waits t_fault t_faultPlace t_at t_place t_sign t_number t_state t_name t_compared t_open t_parentheses t_code_r t_waiting_r) H → va_D A (wd_X5_takeToken cI cZ cR a_t a_t_text a_t_code a_t_waiting t_length t_codes t_waits t_fault t_faultPlace t_at t_place t_sign t_number t_state t_name t_compared t_open t_parentheses t_code_r t_waiting_r) → va_S A s.heap H locs → ∀ (ls : Array Slot), lv_has ls 1 [(0, .ref a_t)] → W p l e (headSpec wsX5_takeToken ({ frames := 4, cells := 0, slots := 0, locals := 86 } : Room)).room s m args below meth c H locs 0 0 (MQ below (qv D cI cZ cR A (wd_X5_takeToken cI cZ cR a_t a_t_text a_t_code a_t_waiting t_length (out.1) (out.2.2.2.2.2.2.2.2.1) (out.2.2.1) (out.2.2.2.1) t_at t_place t_sign t_number (out.2.2.2.2.2.2.2.1) (out.2.2.2.2.1) (out.2.1) (out.2.2.2.2.2.1) (out.2.2.2.2.2.2.1) (out.2.2.2.2.2.2.2.2.2.1) (out.2.2.2.2.2.2.2.2.2.2))) args s 0 0 A) (F0 m 86 ls []) := by
  obtain ⟨hx, hb, hml, hr, hown, hts, hlocks, hN⟩ := id X
  intro t_codes t_compared t_fault t_faultPlace t_name t_open t_parentheses t_state t_waits t_code_r t_waiting_r hf H locs hP hD hS ls hl
  unfold F_X5_takeToken_86 at hf
  refine lv_aload_n hx hb dX5_takeToken_86 rfl (lv_at hl 0 rfl) ?_
  refine va_get (D := D) (ci := 5) (v := .int t_state) (C := RX5) (T := TX5) (N := 17) hx hb hts in_X5_takeToken_X5 hown hK hP 0 rfl rfl 12 (by decide) (hts (.fieldLink RX5 50 "DivisionHall$Reader" "state" "I") (by decide +kernel)) (fun _ h9 => h9) rfl dX5_takeToken_87 ?_
  by_cases c12 : t_state = (0 : Int32)
  · have hf := ipos c12 hf
    refine lv_tableIn (tgt := 132) hx hb dX5_takeToken_90 (by rw [c12]; decide) (by rw [c12]; decide) (by rw [c12]; rfl) (by decide) ?_
    refine lv_aload_n hx hb dX5_takeToken_132 rfl (lv_at hl 0 rfl) ?_
    obtain ⟨r13, hr14, hf⟩ := bnd hf
    refine wcallvA (D := D) (cI := cI) (cZ := cZ) (cR := cR) (wc := (wd_X5_takeClause cI cZ cR a_t a_t_text a_t_code a_t_waiting t_length t_codes t_waits t_fault t_faultPlace t_at t_place t_sign t_number t_state t_name t_compared t_open t_parentheses t_code_r t_waiting_r)) (w' := (wd_X5_takeClause cI cZ cR a_t a_t_text a_t_code a_t_waiting t_length (r13.1) (r13.2.2.2.2.2.2.2.2.1) (r13.2.2.1) (r13.2.2.2.1) t_at t_place t_sign t_number (r13.2.2.2.2.2.2.2.1) (r13.2.2.2.2.1) (r13.2.1) (r13.2.2.2.2.2.1) (r13.2.2.2.2.2.2.1) (r13.2.2.2.2.2.2.2.2.2.1) (r13.2.2.2.2.2.2.2.2.2.2))) hP hD hS hA rfl (rnVA (As := []) (ci := 5) (q0 := 0) X hK hP hD rfl rfl (c_X5_takeClause l D cI cZ cR hr14) (cwV 0 hts gX5_takeToken_X5_takeClause rfl rfl rfl (by decide +kernel) ⟨Nat.le_of_ble_eq_true rfl, Nat.le_of_ble_eq_true rfl⟩) rfl hl.1 rfl (Nat.le_of_ble_eq_true rfl) dX5_takeToken_133) (fun H locs hP hD hS => ?_)
    have hP : va_P D vwCl (wd_X5_takeToken cI cZ cR a_t a_t_text a_t_code a_t_waiting t_length (r13.1) (r13.2.2.2.2.2.2.2.2.1) (r13.2.2.1) (r13.2.2.2.1) t_at t_place t_sign t_number (r13.2.2.2.2.2.2.2.1) (r13.2.2.2.2.1) (r13.2.1) (r13.2.2.2.2.2.1) (r13.2.2.2.2.2.2.1) (r13.2.2.2.2.2.2.2.2.2.1) (r13.2.2.2.2.2.2.2.2.2.2)) H := hP
    have hD : va_D A (wd_X5_takeToken cI cZ cR a_t a_t_text a_t_code a_t_waiting t_length (r13.1) (r13.2.2.2.2.2.2.2.2.1) (r13.2.2.1) (r13.2.2.2.1) t_at t_place t_sign t_number (r13.2.2.2.2.2.2.2.1) (r13.2.2.2.2.1) (r13.2.1) (r13.2.2.2.2.2.1) (r13.2.2.2.2.2.2.1) (r13.2.2.2.2.2.2.2.2.2.1) (r13.2.2.2.2.2.2.2.2.2.2)) := hD
    refine lv_goto (tgt := 182) hx hb dX5_takeToken_136 (by decide) ?_
    cases hf
    exact retv X hK hP hD hS dX5_takeToken_182
  have hf := ineg c12 hf
  by_cases c15 : t_state = (1 : Int32)
  · have hf := ipos c15 hf
    refine lv_tableIn (tgt := 139) hx hb dX5_takeToken_90 (by rw [c15]; decide) (by rw [c15]; decide) (by rw [c15]; rfl) (by decide) ?_
    refine lv_aload_n hx hb dX5_takeToken_139 rfl (lv_at hl 0 rfl) ?_
    obtain ⟨r16, hr17, hf⟩ := bnd hf
    refine wcallv (D := D) (cI := cI) (cZ := cZ) (cR := cR) (wc := (wd_X5_takeUnit cI cZ cR a_t a_t_text a_t_code a_t_waiting t_length t_codes t_waits t_fault t_faultPlace t_at t_place t_sign t_number t_state t_name t_compared t_open t_parentheses t_code_r)) (w' := (wd_X5_takeUnit cI cZ cR a_t a_t_text a_t_code a_t_waiting t_length (r16.1) t_waits (r16.2.1) (r16.2.2.1) t_at t_place t_sign t_number (r16.2.2.2.2.1) (r16.2.2.2.1) t_compared t_open t_parentheses (r16.2.2.2.2.2))) [0, 1] hP hD hS hA rfl rfl rfl (rnV (As := []) (ci := 5) (q0 := 0) X [0, 1] hK hP hD rfl rfl rfl rfl (c_X5_takeUnit l D cI cZ cR hr17) (cwV 0 hts gX5_takeToken_X5_takeUnit rfl rfl rfl (by decide +kernel) ⟨Nat.le_of_ble_eq_true rfl, Nat.le_of_ble_eq_true rfl⟩) rfl hl.1 rfl (Nat.le_of_ble_eq_true rfl) dX5_takeToken_140) (fun H locs hP hD hS => ?_)
    have hP : va_P D vwCl (wd_X5_takeToken cI cZ cR a_t a_t_text a_t_code a_t_waiting t_length (r16.1) t_waits (r16.2.1) (r16.2.2.1) t_at t_place t_sign t_number (r16.2.2.2.2.1) (r16.2.2.2.1) t_compared t_open t_parentheses (r16.2.2.2.2.2) t_waiting_r) H := hP
    have hD : va_D A (wd_X5_takeToken cI cZ cR a_t a_t_text a_t_code a_t_waiting t_length (r16.1) t_waits (r16.2.1) (r16.2.2.1) t_at t_place t_sign t_number (r16.2.2.2.2.1) (r16.2.2.2.1) t_compared t_open t_parentheses (r16.2.2.2.2.2) t_waiting_r) := hD
    refine lv_goto (tgt := 182) hx hb dX5_takeToken_143 (by decide) ?_
    cases hf
    exact retv X hK hP hD hS dX5_takeToken_182
  have hf := ineg c15 hf
  by_cases c18 : t_state = (2 : Int32)
  · have hf := ipos c18 hf
    refine lv_tableIn (tgt := 146) hx hb dX5_takeToken_90 (by rw [c18]; decide) (by rw [c18]; decide) (by rw [c18]; rfl) (by decide) ?_
    refine lv_aload_n hx hb dX5_takeToken_146 rfl (lv_at hl 0 rfl) ?_
    obtain ⟨r19, hr20, hf⟩ := bnd hf
    refine wcallv (D := D) (cI := cI) (cZ := cZ) (cR := cR) (wc := (wd_X5_takeOwner cI cZ cR a_t a_t_text a_t_code a_t_waiting t_length t_codes t_waits t_fault t_faultPlace t_at t_place t_sign t_number t_state t_name t_compared t_open t_parentheses t_code_r)) (w' := (wd_X5_takeOwner cI cZ cR a_t a_t_text a_t_code a_t_waiting t_length (r19.1) t_waits (r19.2.1) (r19.2.2.1) t_at t_place t_sign t_number (r19.2.2.2.1) t_name t_compared t_open t_parentheses (r19.2.2.2.2))) [0, 1] hP hD hS hA rfl rfl rfl (rnV (As := []) (ci := 5) (q0 := 0) X [0, 1] hK hP hD rfl rfl rfl rfl (c_X5_takeOwner l D cI cZ cR hr20) (cwV 0 hts gX5_takeToken_X5_takeOwner rfl rfl rfl (by decide +kernel) ⟨Nat.le_of_ble_eq_true rfl, Nat.le_of_ble_eq_true rfl⟩) rfl hl.1 rfl (Nat.le_of_ble_eq_true rfl) dX5_takeToken_147) (fun H locs hP hD hS => ?_)
    have hP : va_P D vwCl (wd_X5_takeToken cI cZ cR a_t a_t_text a_t_code a_t_waiting t_length (r19.1) t_waits (r19.2.1) (r19.2.2.1) t_at t_place t_sign t_number (r19.2.2.2.1) t_name t_compared t_open t_parentheses (r19.2.2.2.2) t_waiting_r) H := hP
    have hD : va_D A (wd_X5_takeToken cI cZ cR a_t a_t_text a_t_code a_t_waiting t_length (r19.1) t_waits (r19.2.1) (r19.2.2.1) t_at t_place t_sign t_number (r19.2.2.2.1) t_name t_compared t_open t_parentheses (r19.2.2.2.2) t_waiting_r) := hD
    refine lv_goto (tgt := 182) hx hb dX5_takeToken_150 (by decide) ?_
    cases hf
    exact retv X hK hP hD hS dX5_takeToken_182
  have hf := ineg c18 hf
  by_cases c21 : t_state = (3 : Int32)
  · have hf := ipos c21 hf
    refine lv_tableIn (tgt := 153) hx hb dX5_takeToken_90 (by rw [c21]; decide) (by rw [c21]; decide) (by rw [c21]; rfl) (by decide) ?_
    refine lv_aload_n hx hb dX5_takeToken_153 rfl (lv_at hl 0 rfl) ?_
    refine lv_iconst (v := (2 : Int32)) hx hb dX5_takeToken_154 (by decide) ?_
    refine va_put (D := D) (ci := 5) (v := .int (2 : Int32)) (ty := .int) (C := RX5) (T := TX5) (N := 17) hx hb hts in_X5_takeToken_X5 tyX5 tyX5_ok nmX5 hown hK hP hD hS 0 rfl rfl 12 (by decide) (hts (.fieldLink RX5 50 "DivisionHall$Reader" "state" "I") (by decide +kernel)) (fun _ h9 => h9) rfl (by decide +kernel) rfl rfl (Nat.le_of_ble_eq_true rfl) dX5_takeToken_155 (fun H locs hP hD hS => ?_)
    have hP : va_P D vwCl (wd_X5_takeToken cI cZ cR a_t a_t_text a_t_code a_t_waiting t_length t_codes t_waits t_fault t_faultPlace t_at t_place t_sign t_number (2 : Int32) t_name t_compared t_open t_parentheses t_code_r t_waiting_r) H := hP
    have hD : va_D A (wd_X5_takeToken cI cZ cR a_t a_t_text a_t_code a_t_waiting t_length t_codes t_waits t_fault t_faultPlace t_at t_place t_sign t_number (2 : Int32) t_name t_compared t_open t_parentheses t_code_r t_waiting_r) := hD
    refine lv_goto (tgt := 182) hx hb dX5_takeToken_158 (by decide) ?_
    cases hf
    exact retv X hK hP hD hS dX5_takeToken_182
  have hf := ineg c21 hf
  by_cases c22 : t_state = (4 : Int32)
  · have hf := ipos c22 hf
    refine lv_tableIn (tgt := 161) hx hb dX5_takeToken_90 (by rw [c22]; decide) (by rw [c22]; decide) (by rw [c22]; rfl) (by decide) ?_
    refine lv_aload_n hx hb dX5_takeToken_161 rfl (lv_at hl 0 rfl) ?_
    obtain ⟨r23, hr24, hf⟩ := bnd hf
    refine wcallvA (D := D) (cI := cI) (cZ := cZ) (cR := cR) (wc := (wd_X5_takeBehindUnit cI cZ cR a_t a_t_text a_t_code a_t_waiting t_length t_codes t_waits t_fault t_faultPlace t_at t_place t_sign t_number t_state t_name t_compared t_open t_parentheses t_code_r t_waiting_r)) (w' := (wd_X5_takeBehindUnit cI cZ cR a_t a_t_text a_t_code a_t_waiting t_length (r23.1) (r23.2.2.2.2.2.2.1) (r23.2.2.1) (r23.2.2.2.1) t_at t_place t_sign t_number (r23.2.2.2.2.2.1) t_name (r23.2.1) (r23.2.2.2.2.1) t_parentheses (r23.2.2.2.2.2.2.2.1) (r23.2.2.2.2.2.2.2.2))) hP hD hS hA rfl (rnVA (As := []) (ci := 5) (q0 := 0) X hK hP hD rfl rfl (c_X5_takeBehindUnit l D cI cZ cR hr24) (cwV 0 hts gX5_takeToken_X5_takeBehindUnit rfl rfl rfl (by decide +kernel) ⟨Nat.le_of_ble_eq_true rfl, Nat.le_of_ble_eq_true rfl⟩) rfl hl.1 rfl (Nat.le_of_ble_eq_true rfl) dX5_takeToken_162) (fun H locs hP hD hS => ?_)
    have hP : va_P D vwCl (wd_X5_takeToken cI cZ cR a_t a_t_text a_t_code a_t_waiting t_length (r23.1) (r23.2.2.2.2.2.2.1) (r23.2.2.1) (r23.2.2.2.1) t_at t_place t_sign t_number (r23.2.2.2.2.2.1) t_name (r23.2.1) (r23.2.2.2.2.1) t_parentheses (r23.2.2.2.2.2.2.2.1) (r23.2.2.2.2.2.2.2.2)) H := hP
    have hD : va_D A (wd_X5_takeToken cI cZ cR a_t a_t_text a_t_code a_t_waiting t_length (r23.1) (r23.2.2.2.2.2.2.1) (r23.2.2.1) (r23.2.2.2.1) t_at t_place t_sign t_number (r23.2.2.2.2.2.1) t_name (r23.2.1) (r23.2.2.2.2.1) t_parentheses (r23.2.2.2.2.2.2.2.1) (r23.2.2.2.2.2.2.2.2)) := hD
    refine lv_goto (tgt := 182) hx hb dX5_takeToken_165 (by decide) ?_
    cases hf
    exact retv X hK hP hD hS dX5_takeToken_182
  have hf := ineg c22 hf
  by_cases c25 : t_state = (5 : Int32)
  · have hf := ipos c25 hf
    refine lv_tableIn (tgt := 168) hx hb dX5_takeToken_90 (by rw [c25]; decide) (by rw [c25]; decide) (by rw [c25]; rfl) (by decide) ?_
    refine lv_aload_n hx hb dX5_takeToken_168 rfl (lv_at hl 0 rfl) ?_
    obtain ⟨r26, hr27, hf⟩ := bnd hf
    refine wcallvA (D := D) (cI := cI) (cZ := cZ) (cR := cR) (wc := (wd_X5_takeBehindClause cI cZ cR a_t a_t_text a_t_code a_t_waiting t_length t_codes t_waits t_fault t_faultPlace t_at t_place t_sign t_number t_state t_name t_compared t_open t_parentheses t_code_r t_waiting_r)) (w' := (wd_X5_takeBehindClause cI cZ cR a_t a_t_text a_t_code a_t_waiting t_length (r26.1) (r26.2.2.2.2.2.2.1) (r26.2.1) (r26.2.2.1) t_at t_place t_sign t_number (r26.2.2.2.2.2.1) t_name t_compared (r26.2.2.2.1) (r26.2.2.2.2.1) (r26.2.2.2.2.2.2.2.1) (r26.2.2.2.2.2.2.2.2))) hP hD hS hA rfl (rnVA (As := []) (ci := 5) (q0 := 0) X hK hP hD rfl rfl (c_X5_takeBehindClause l D cI cZ cR hr27) (cwV 0 hts gX5_takeToken_X5_takeBehindClause rfl rfl rfl (by decide +kernel) ⟨Nat.le_of_ble_eq_true rfl, Nat.le_of_ble_eq_true rfl⟩) rfl hl.1 rfl (Nat.le_of_ble_eq_true rfl) dX5_takeToken_169) (fun H locs hP hD hS => ?_)
    have hP : va_P D vwCl (wd_X5_takeToken cI cZ cR a_t a_t_text a_t_code a_t_waiting t_length (r26.1) (r26.2.2.2.2.2.2.1) (r26.2.1) (r26.2.2.1) t_at t_place t_sign t_number (r26.2.2.2.2.2.1) t_name t_compared (r26.2.2.2.1) (r26.2.2.2.2.1) (r26.2.2.2.2.2.2.2.1) (r26.2.2.2.2.2.2.2.2)) H := hP
    have hD : va_D A (wd_X5_takeToken cI cZ cR a_t a_t_text a_t_code a_t_waiting t_length (r26.1) (r26.2.2.2.2.2.2.1) (r26.2.1) (r26.2.2.1) t_at t_place t_sign t_number (r26.2.2.2.2.2.1) t_name t_compared (r26.2.2.2.1) (r26.2.2.2.2.1) (r26.2.2.2.2.2.2.2.1) (r26.2.2.2.2.2.2.2.2)) := hD
    refine lv_goto (tgt := 182) hx hb dX5_takeToken_172 (by decide) ?_
    cases hf
    exact retv X hK hP hD hS dX5_takeToken_182
  have hf := ineg c25 hf
  by_cases c28 : t_state = (6 : Int32)
  · have hf := ipos c28 hf
    refine lv_tableIn (tgt := 175) hx hb dX5_takeToken_90 (by rw [c28]; decide) (by rw [c28]; decide) (by rw [c28]; rfl) (by decide) ?_
    refine lv_aload_n hx hb dX5_takeToken_175 rfl (lv_at hl 0 rfl) ?_
    obtain ⟨r29, hr30, hf⟩ := bnd hf
    refine wcallv (D := D) (cI := cI) (cZ := cZ) (cR := cR) (wc := (wd_X5_takeLast cI cZ cR a_t a_t_text a_t_code a_t_waiting t_length t_codes t_waits t_fault t_faultPlace t_at t_place t_sign t_number t_state t_name t_compared t_open t_parentheses)) (w' := (wd_X5_takeLast cI cZ cR a_t a_t_text a_t_code a_t_waiting t_length t_codes t_waits (r29.1) (r29.2.1) t_at t_place t_sign t_number (r29.2.2) t_name t_compared t_open t_parentheses)) [0] hP hD hS hA rfl rfl rfl (rnV (As := []) (ci := 5) (q0 := 0) X [0] hK hP hD rfl rfl rfl rfl (c_X5_takeLast l D cI cZ cR hr30) (cwV 0 hts gX5_takeToken_X5_takeLast rfl rfl rfl (by decide +kernel) ⟨Nat.le_of_ble_eq_true rfl, Nat.le_of_ble_eq_true rfl⟩) rfl hl.1 rfl (Nat.le_of_ble_eq_true rfl) dX5_takeToken_176) (fun H locs hP hD hS => ?_)
    have hP : va_P D vwCl (wd_X5_takeToken cI cZ cR a_t a_t_text a_t_code a_t_waiting t_length t_codes t_waits (r29.1) (r29.2.1) t_at t_place t_sign t_number (r29.2.2) t_name t_compared t_open t_parentheses t_code_r t_waiting_r) H := hP
    have hD : va_D A (wd_X5_takeToken cI cZ cR a_t a_t_text a_t_code a_t_waiting t_length t_codes t_waits (r29.1) (r29.2.1) t_at t_place t_sign t_number (r29.2.2) t_name t_compared t_open t_parentheses t_code_r t_waiting_r) := hD
    refine lv_goto (tgt := 182) hx hb dX5_takeToken_179 (by decide) ?_
    cases hf
    exact retv X hK hP hD hS dX5_takeToken_182
  have hf := ineg c28 hf
  refine lv_tableOut (tgt := 182) hx hb dX5_takeToken_90 (tout 0 6 (fun k hk => by match k, hk with | 0, _ => exact c12 | 1, _ => exact c15 | 2, _ => exact c18 | 3, _ => exact c21 | 4, _ => exact c22 | 5, _ => exact c25 | 6, _ => exact c28 | (q + 7), hk => exact absurd hk (by omega)) rfl rfl (by decide)) (by decide) ?_
  cases hf
  exact retv X hK hP hD hS dX5_takeToken_182
set_option maxHeartbeats 4000000 in
set_option maxRecDepth 100000 in
theorem w_X5_takeToken_56 {p : Program} {l : Launch} {e : Env} {s : State} {m : MethodId} {args : Array Value} {below : List Frame} {meth : Method} {c : Code} {D : va_G} {cI cZ cR : ClassId} {A : Nat → Prop} {a_t a_t_text a_t_code a_t_waiting : Nat} {t_length : Int32} {t_at : Int32} {t_place : Int32} {t_sign : Int32} {t_number : Int32} {out : Int32 × Int32 × Int32 × Int32 × Int32 × Int32 × Int32 × Int32 × Int32 × (Nat → Int32) × (Nat → Int32)} (X : cx p s m args meth c cX5_takeToken 1 none RX5 wsX5_takeToken) (hK : va_K D vwCl (ty3 cI cZ cR) s) (hA : ∀ q, s.heap.size ≤ q → A q) : ∀ (t_codes : Int32) (t_compared : Int32) (t_fault : Int32) (t_faultPlace : Int32) (t_name : Int32) (t_open : Int32) (t_parentheses : Int32) (t_state : Int32) (t_waits : Int32) (t_code_r : Nat → Int32) (t_waiting_r : Nat → Int32), F_X5_takeToken_56 t_number t_place t_sign t_codes t_compared t_fault t_faultPlace t_name t_open t_parentheses t_state t_waits t_code_r t_waiting_r = some out → ∀ (H : Heap) (locs : List Loc), va_P D vwCl (wd_X5_takeToken cI cZ cR a_t a_t_text a_t_code a_t_waiting t_length t_codes t_waits t_fault t_faultPlace t_at t_place t_sign t_number t_state t_name t_compared t_open t_parentheses t_code_r t_waiting_r) H → va_D A (wd_X5_takeToken cI cZ cR a_t a_t_text a_t_code a_t_waiting t_length t_codes t_waits t_fault t_faultPlace t_at t_place t_sign t_number t_state t_name t_compared t_open t_parentheses t_code_r t_waiting_r) → va_S A s.heap H locs → ∀ (ls : Array Slot), lv_has ls 1 [(0, .ref a_t)] → W p l e (headSpec wsX5_takeToken ({ frames := 4, cells := 0, slots := 0, locals := 86 } : Room)).room s m args below meth c H locs 0 0 (MQ below (qv D cI cZ cR A (wd_X5_takeToken cI cZ cR a_t a_t_text a_t_code a_t_waiting t_length (out.1) (out.2.2.2.2.2.2.2.2.1) (out.2.2.1) (out.2.2.2.1) t_at t_place t_sign t_number (out.2.2.2.2.2.2.2.1) (out.2.2.2.2.1) (out.2.1) (out.2.2.2.2.2.1) (out.2.2.2.2.2.2.1) (out.2.2.2.2.2.2.2.2.2.1) (out.2.2.2.2.2.2.2.2.2.2))) args s 0 0 A) (F0 m 56 ls []) := by
  obtain ⟨hx, hb, hml, hr, hown, hts, hlocks, hN⟩ := id X
  intro t_codes t_compared t_fault t_faultPlace t_name t_open t_parentheses t_state t_waits t_code_r t_waiting_r hf H locs hP hD hS ls hl
  unfold F_X5_takeToken_56 at hf
  refine lv_aload_n hx hb dX5_takeToken_56 rfl (lv_at hl 0 rfl) ?_
  refine va_get (D := D) (ci := 5) (v := .int t_state) (C := RX5) (T := TX5) (N := 17) hx hb hts in_X5_takeToken_X5 hown hK hP 0 rfl rfl 12 (by decide) (hts (.fieldLink RX5 50 "DivisionHall$Reader" "state" "I") (by decide +kernel)) (fun _ h9 => h9) rfl dX5_takeToken_57 ?_
  refine lv_iconst (v := (4 : Int32)) hx hb dX5_takeToken_60 (by decide) ?_
  refine lv_icmp_ne (tgt := 86) hx hb dX5_takeToken_61 (by decide) (fun c7 => ?_) (fun c7 => ?_)
  · have hf := ineg c7 hf
    exact w_X5_takeToken_86 X hK hA t_codes t_compared t_fault t_faultPlace t_name t_open t_parentheses t_state t_waits t_code_r t_waiting_r hf _ _ hP hD hS _ (lv_sub hl [0] rfl)
  · have hf := ipos c7 hf
    refine lv_aload_n hx hb dX5_takeToken_64 rfl (lv_at hl 0 rfl) ?_
    refine va_get (D := D) (ci := 5) (v := .int t_compared) (C := RX5) (T := TX5) (N := 17) hx hb hts in_X5_takeToken_X5 hown hK hP 0 rfl rfl 14 (by decide) (hts (.fieldLink RX5 40 "DivisionHall$Reader" "compared" "Z") (by decide +kernel)) (fun _ h9 => h9) rfl dX5_takeToken_65 ?_
    refine lv_if_eq (tgt := 86) hx hb dX5_takeToken_68 (by decide) (fun c8 => ?_) (fun c8 => ?_)
    · have hf := ipos c8 hf
      exact w_X5_takeToken_86 X hK hA t_codes t_compared t_fault t_faultPlace t_name t_open t_parentheses t_state t_waits t_code_r t_waiting_r hf _ _ hP hD hS _ (lv_sub hl [0] rfl)
    · have hf := ineg c8 hf
      refine lv_aload_n hx hb dX5_takeToken_71 rfl (lv_at hl 0 rfl) ?_
      refine va_get (D := D) (ci := 5) (v := .int t_sign) (C := RX5) (T := TX5) (N := 17) hx hb hts in_X5_takeToken_X5 hown hK hP 0 rfl rfl 10 (by decide) (hts (.fieldLink RX5 64 "DivisionHall$Reader" "sign" "I") (by decide +kernel)) (fun _ h9 => h9) rfl dX5_takeToken_72 ?_
      obtain ⟨r9, hr10, hf⟩ := bnd hf
      refine wcalli (D := D) (cI := cI) (cZ := cZ) (cR := cR) (wc := (wd_X8_isSum cI cZ cR)) (w' := (wd_X8_isSum cI cZ cR)) [] hP hD hS hA rfl rfl rfl (rnS (As := [.int t_sign]) X [] hK hP hD rfl rfl (c_X8_isSum l D cI cZ cR hr10) ⟨callB_of 1 hts ggX5_takeToken_X8_isSum rfl rfl rfl (hts (.initialized RX8) (by decide +kernel)) (hts (.methodLink RX5 125 yX8_isSum) (by decide +kernel)) (by decide +kernel) ⟨Nat.le_of_ble_eq_true rfl, Nat.le_of_ble_eq_true rfl⟩, hts (.static yX8_isSum) (by decide +kernel)⟩ rfl hl.1 rfl (Nat.le_of_ble_eq_true rfl) dX5_takeToken_75) (fun H locs hP hD hS => ?_)
      have hP : va_P D vwCl (wd_X5_takeToken cI cZ cR a_t a_t_text a_t_code a_t_waiting t_length t_codes t_waits t_fault t_faultPlace t_at t_place t_sign t_number t_state t_name t_compared t_open t_parentheses t_code_r t_waiting_r) H := hP
      have hD : va_D A (wd_X5_takeToken cI cZ cR a_t a_t_text a_t_code a_t_waiting t_length t_codes t_waits t_fault t_faultPlace t_at t_place t_sign t_number t_state t_name t_compared t_open t_parentheses t_code_r t_waiting_r) := hD
      refine lv_if_ne (tgt := 86) hx hb dX5_takeToken_78 (by decide) (fun c11 => ?_) (fun c11 => ?_)
      · have hf := ineg c11 hf
        exact w_X5_takeToken_86 X hK hA t_codes t_compared t_fault t_faultPlace t_name t_open t_parentheses t_state t_waits t_code_r t_waiting_r hf _ _ hP hD hS _ (lv_sub hl [0] rfl)
      · have hf := ipos c11 hf
        refine lv_aload_n hx hb dX5_takeToken_81 rfl (lv_at hl 0 rfl) ?_
        refine lv_iconst (v := (5 : Int32)) hx hb dX5_takeToken_82 (by decide) ?_
        refine va_put (D := D) (ci := 5) (v := .int (5 : Int32)) (ty := .int) (C := RX5) (T := TX5) (N := 17) hx hb hts in_X5_takeToken_X5 tyX5 tyX5_ok nmX5 hown hK hP hD hS 0 rfl rfl 12 (by decide) (hts (.fieldLink RX5 50 "DivisionHall$Reader" "state" "I") (by decide +kernel)) (fun _ h9 => h9) rfl (by decide +kernel) rfl rfl (Nat.le_of_ble_eq_true rfl) dX5_takeToken_83 (fun H locs hP hD hS => ?_)
        have hP : va_P D vwCl (wd_X5_takeToken cI cZ cR a_t a_t_text a_t_code a_t_waiting t_length t_codes t_waits t_fault t_faultPlace t_at t_place t_sign t_number (5 : Int32) t_name t_compared t_open t_parentheses t_code_r t_waiting_r) H := hP
        have hD : va_D A (wd_X5_takeToken cI cZ cR a_t a_t_text a_t_code a_t_waiting t_length t_codes t_waits t_fault t_faultPlace t_at t_place t_sign t_number (5 : Int32) t_name t_compared t_open t_parentheses t_code_r t_waiting_r) := hD
        exact w_X5_takeToken_86 X hK hA t_codes t_compared t_fault t_faultPlace t_name t_open t_parentheses (5 : Int32) t_waits t_code_r t_waiting_r hf _ _ hP hD hS _ (lv_sub hl [0] rfl)
set_option maxHeartbeats 4000000 in
set_option maxRecDepth 100000 in
theorem w_X5_takeToken_26 {p : Program} {l : Launch} {e : Env} {s : State} {m : MethodId} {args : Array Value} {below : List Frame} {meth : Method} {c : Code} {D : va_G} {cI cZ cR : ClassId} {A : Nat → Prop} {a_t a_t_text a_t_code a_t_waiting : Nat} {t_length : Int32} {t_at : Int32} {t_place : Int32} {t_sign : Int32} {t_number : Int32} {out : Int32 × Int32 × Int32 × Int32 × Int32 × Int32 × Int32 × Int32 × Int32 × (Nat → Int32) × (Nat → Int32)} (X : cx p s m args meth c cX5_takeToken 1 none RX5 wsX5_takeToken) (hK : va_K D vwCl (ty3 cI cZ cR) s) (hA : ∀ q, s.heap.size ≤ q → A q) : ∀ (t_codes : Int32) (t_compared : Int32) (t_fault : Int32) (t_faultPlace : Int32) (t_name : Int32) (t_open : Int32) (t_parentheses : Int32) (t_state : Int32) (t_waits : Int32) (t_code_r : Nat → Int32) (t_waiting_r : Nat → Int32), F_X5_takeToken_26 t_number t_place t_sign t_codes t_compared t_fault t_faultPlace t_name t_open t_parentheses t_state t_waits t_code_r t_waiting_r = some out → ∀ (H : Heap) (locs : List Loc), va_P D vwCl (wd_X5_takeToken cI cZ cR a_t a_t_text a_t_code a_t_waiting t_length t_codes t_waits t_fault t_faultPlace t_at t_place t_sign t_number t_state t_name t_compared t_open t_parentheses t_code_r t_waiting_r) H → va_D A (wd_X5_takeToken cI cZ cR a_t a_t_text a_t_code a_t_waiting t_length t_codes t_waits t_fault t_faultPlace t_at t_place t_sign t_number t_state t_name t_compared t_open t_parentheses t_code_r t_waiting_r) → va_S A s.heap H locs → ∀ (ls : Array Slot), lv_has ls 1 [(0, .ref a_t)] → W p l e (headSpec wsX5_takeToken ({ frames := 4, cells := 0, slots := 0, locals := 86 } : Room)).room s m args below meth c H locs 0 0 (MQ below (qv D cI cZ cR A (wd_X5_takeToken cI cZ cR a_t a_t_text a_t_code a_t_waiting t_length (out.1) (out.2.2.2.2.2.2.2.2.1) (out.2.2.1) (out.2.2.2.1) t_at t_place t_sign t_number (out.2.2.2.2.2.2.2.1) (out.2.2.2.2.1) (out.2.1) (out.2.2.2.2.2.1) (out.2.2.2.2.2.2.1) (out.2.2.2.2.2.2.2.2.2.1) (out.2.2.2.2.2.2.2.2.2.2))) args s 0 0 A) (F0 m 26 ls []) := by
  obtain ⟨hx, hb, hml, hr, hown, hts, hlocks, hN⟩ := id X
  intro t_codes t_compared t_fault t_faultPlace t_name t_open t_parentheses t_state t_waits t_code_r t_waiting_r hf H locs hP hD hS ls hl
  unfold F_X5_takeToken_26 at hf
  refine lv_aload_n hx hb dX5_takeToken_26 rfl (lv_at hl 0 rfl) ?_
  refine va_get (D := D) (ci := 5) (v := .int t_state) (C := RX5) (T := TX5) (N := 17) hx hb hts in_X5_takeToken_X5 hown hK hP 0 rfl rfl 12 (by decide) (hts (.fieldLink RX5 50 "DivisionHall$Reader" "state" "I") (by decide +kernel)) (fun _ h9 => h9) rfl dX5_takeToken_27 ?_
  refine lv_iconst (v := (3 : Int32)) hx hb dX5_takeToken_30 (by decide) ?_
  refine lv_icmp_ne (tgt := 56) hx hb dX5_takeToken_31 (by decide) (fun c3 => ?_) (fun c3 => ?_)
  · have hf := ineg c3 hf
    exact w_X5_takeToken_56 X hK hA t_codes t_compared t_fault t_faultPlace t_name t_open t_parentheses t_state t_waits t_code_r t_waiting_r hf _ _ hP hD hS _ (lv_sub hl [0] rfl)
  · have hf := ipos c3 hf
    refine lv_aload_n hx hb dX5_takeToken_34 rfl (lv_at hl 0 rfl) ?_
    refine va_get (D := D) (ci := 5) (v := .int t_sign) (C := RX5) (T := TX5) (N := 17) hx hb hts in_X5_takeToken_X5 hown hK hP 0 rfl rfl 10 (by decide) (hts (.fieldLink RX5 64 "DivisionHall$Reader" "sign" "I") (by decide +kernel)) (fun _ h9 => h9) rfl dX5_takeToken_35 ?_
    refine lv_iconst (v := (5 : Int32)) hx hb dX5_takeToken_38 (by decide) ?_
    refine lv_icmp_eq (tgt := 56) hx hb dX5_takeToken_39 (by decide) (fun c4 => ?_) (fun c4 => ?_)
    · have hf := ipos c4 hf
      exact w_X5_takeToken_56 X hK hA t_codes t_compared t_fault t_faultPlace t_name t_open t_parentheses t_state t_waits t_code_r t_waiting_r hf _ _ hP hD hS _ (lv_sub hl [0] rfl)
    · have hf := ineg c4 hf
      refine lv_aload_n hx hb dX5_takeToken_42 rfl (lv_at hl 0 rfl) ?_
      refine lv_aload_n hx hb dX5_takeToken_43 rfl (lv_at hl 0 rfl) ?_
      refine va_get (D := D) (ci := 5) (v := .int t_name) (C := RX5) (T := TX5) (N := 17) hx hb hts in_X5_takeToken_X5 hown hK hP 0 rfl rfl 13 (by decide) (hts (.fieldLink RX5 118 "DivisionHall$Reader" "name" "I") (by decide +kernel)) (fun _ h9 => h9) rfl dX5_takeToken_44 ?_
      refine lv_iconst (v := (0 : Int32)) hx hb dX5_takeToken_47 (by decide) ?_
      obtain ⟨r5, hr6, hf⟩ := bnd hf
      refine wcallv (D := D) (cI := cI) (cZ := cZ) (cR := cR) (wc := (wd_X5_emit cI cZ cR a_t a_t_text a_t_code a_t_waiting t_length t_codes t_waits t_fault t_faultPlace t_at t_place t_sign t_number t_state t_name t_compared t_open t_parentheses t_code_r)) (w' := (wd_X5_emit cI cZ cR a_t a_t_text a_t_code a_t_waiting t_length (r5.1) t_waits t_fault t_faultPlace t_at t_place t_sign t_number t_state t_name t_compared t_open t_parentheses (r5.2))) [0, 1] hP hD hS hA rfl rfl rfl (rnV (As := [.int t_name, .int (0 : Int32)]) (ci := 5) (q0 := 0) X [0, 1] hK hP hD rfl rfl rfl rfl (c_X5_emit l D cI cZ cR hr6) (cwV 2 hts gX5_takeToken_X5_emit rfl rfl rfl (by decide +kernel) ⟨Nat.le_of_ble_eq_true rfl, Nat.le_of_ble_eq_true rfl⟩) rfl hl.1 rfl (Nat.le_of_ble_eq_true rfl) dX5_takeToken_48) (fun H locs hP hD hS => ?_)
      have hP : va_P D vwCl (wd_X5_takeToken cI cZ cR a_t a_t_text a_t_code a_t_waiting t_length (r5.1) t_waits t_fault t_faultPlace t_at t_place t_sign t_number t_state t_name t_compared t_open t_parentheses (r5.2) t_waiting_r) H := hP
      have hD : va_D A (wd_X5_takeToken cI cZ cR a_t a_t_text a_t_code a_t_waiting t_length (r5.1) t_waits t_fault t_faultPlace t_at t_place t_sign t_number t_state t_name t_compared t_open t_parentheses (r5.2) t_waiting_r) := hD
      refine lv_aload_n hx hb dX5_takeToken_51 rfl (lv_at hl 0 rfl) ?_
      refine lv_iconst (v := (4 : Int32)) hx hb dX5_takeToken_52 (by decide) ?_
      refine va_put (D := D) (ci := 5) (v := .int (4 : Int32)) (ty := .int) (C := RX5) (T := TX5) (N := 17) hx hb hts in_X5_takeToken_X5 tyX5 tyX5_ok nmX5 hown hK hP hD hS 0 rfl rfl 12 (by decide) (hts (.fieldLink RX5 50 "DivisionHall$Reader" "state" "I") (by decide +kernel)) (fun _ h9 => h9) rfl (by decide +kernel) rfl rfl (Nat.le_of_ble_eq_true rfl) dX5_takeToken_53 (fun H locs hP hD hS => ?_)
      have hP : va_P D vwCl (wd_X5_takeToken cI cZ cR a_t a_t_text a_t_code a_t_waiting t_length (r5.1) t_waits t_fault t_faultPlace t_at t_place t_sign t_number (4 : Int32) t_name t_compared t_open t_parentheses (r5.2) t_waiting_r) H := hP
      have hD : va_D A (wd_X5_takeToken cI cZ cR a_t a_t_text a_t_code a_t_waiting t_length (r5.1) t_waits t_fault t_faultPlace t_at t_place t_sign t_number (4 : Int32) t_name t_compared t_open t_parentheses (r5.2) t_waiting_r) := hD
      exact w_X5_takeToken_56 X hK hA (r5.1) t_compared t_fault t_faultPlace t_name t_open t_parentheses (4 : Int32) t_waits (r5.2) t_waiting_r hf _ _ hP hD hS _ (lv_sub hl [0] rfl)
set_option maxHeartbeats 4000000 in
set_option maxRecDepth 100000 in
theorem c_X5_takeToken (l : Launch) (D : va_G) (cI cZ cR : ClassId) {a_t a_t_text a_t_code a_t_waiting : Nat} {t_length : Int32} {t_codes : Int32} {t_waits : Int32} {t_fault : Int32} {t_faultPlace : Int32} {t_at : Int32} {t_place : Int32} {t_sign : Int32} {t_number : Int32} {t_state : Int32} {t_name : Int32} {t_compared : Int32} {t_open : Int32} {t_parentheses : Int32} {t_code_r : Nat → Int32} {t_waiting_r : Nat → Int32} {sz : Nat} {out : Int32 × Int32 × Int32 × Int32 × Int32 × Int32 × Int32 × Int32 × Int32 × (Nat → Int32) × (Nat → Int32)} (hf : F_X5_takeToken t_codes t_compared t_fault t_faultPlace t_name t_number t_open t_parentheses t_place t_sign t_state t_waits t_code_r t_waiting_r = some out) : CV l yX5_takeToken wsX5_takeToken ({ frames := 4, cells := 0, slots := 0, locals := 86 } : Room) D cI cZ cR [.ref a_t] (wd_X5_takeToken cI cZ cR a_t a_t_text a_t_code a_t_waiting t_length t_codes t_waits t_fault t_faultPlace t_at t_place t_sign t_number t_state t_name t_compared t_open t_parentheses t_code_r t_waiting_r) sz (wd_X5_takeToken cI cZ cR a_t a_t_text a_t_code a_t_waiting t_length (out.1) (out.2.2.2.2.2.2.2.2.1) (out.2.2.1) (out.2.2.2.1) t_at t_place t_sign t_number (out.2.2.2.2.2.2.2.1) (out.2.2.2.2.1) (out.2.1) (out.2.2.2.2.2.1) (out.2.2.2.2.2.2.1) (out.2.2.2.2.2.2.2.2.2.1) (out.2.2.2.2.2.2.2.2.2.2)) := by
  refine met_of (Qf := fun A => qv D cI cZ cR A (wd_X5_takeToken cI cZ cR a_t a_t_text a_t_code a_t_waiting t_length (out.1) (out.2.2.2.2.2.2.2.2.1) (out.2.2.1) (out.2.2.2.1) t_at t_place t_sign t_number (out.2.2.2.2.2.2.2.1) (out.2.2.2.2.1) (out.2.1) (out.2.2.2.2.2.1) (out.2.2.2.2.2.2.1) (out.2.2.2.2.2.2.2.2.2.1) (out.2.2.2.2.2.2.2.2.2.2))) RX5 (by decide +kernel) rfl rfl (Nat.le_of_ble_eq_true rfl) ?_
  intro p e s m below meth c A X hK hA hP hD hS ls hl
  have hl : lv_has ls 1 [(0, .ref a_t)] := hl
  obtain ⟨hx, hb, hml, hr, hown, hts, hlocks, hN⟩ := id X
  unfold F_X5_takeToken at hf
  refine lv_aload_n hx hb dX5_takeToken_0 rfl (lv_at hl 0 rfl) ?_
  refine va_get (D := D) (ci := 5) (v := .int t_state) (C := RX5) (T := TX5) (N := 17) hx hb hts in_X5_takeToken_X5 hown hK hP 0 rfl rfl 12 (by decide) (hts (.fieldLink RX5 50 "DivisionHall$Reader" "state" "I") (by decide +kernel)) (fun _ h9 => h9) rfl dX5_takeToken_1 ?_
  refine lv_bipush (v := (7 : Int32)) hx hb dX5_takeToken_4 (by decide) ?_
  refine lv_icmp_ne (tgt := 26) hx hb dX5_takeToken_6 (by decide) (fun c1 => ?_) (fun c1 => ?_)
  · have hf := ineg c1 hf
    exact w_X5_takeToken_26 X hK hA t_codes t_compared t_fault t_faultPlace t_name t_open t_parentheses t_state t_waits t_code_r t_waiting_r hf _ _ hP hD hS _ (lv_sub hl [0] rfl)
  · have hf := ipos c1 hf
    refine lv_aload_n hx hb dX5_takeToken_9 rfl (lv_at hl 0 rfl) ?_
    refine lv_aload_n hx hb dX5_takeToken_10 rfl (lv_at hl 0 rfl) ?_
    refine va_get (D := D) (ci := 5) (v := .int t_sign) (C := RX5) (T := TX5) (N := 17) hx hb hts in_X5_takeToken_X5 hown hK hP 0 rfl rfl 10 (by decide) (hts (.fieldLink RX5 64 "DivisionHall$Reader" "sign" "I") (by decide +kernel)) (fun _ h9 => h9) rfl dX5_takeToken_11 ?_
    refine lv_if_ne (tgt := 22) hx hb dX5_takeToken_14 (by decide) (fun c2 => ?_) (fun c2 => ?_)
    · have hf := ineg c2 hf
      refine lv_iconst (v := (0 : Int32)) hx hb dX5_takeToken_22 (by decide) ?_
      refine va_put (D := D) (ci := 5) (v := .int (0 : Int32)) (ty := .int) (C := RX5) (T := TX5) (N := 17) hx hb hts in_X5_takeToken_X5 tyX5 tyX5_ok nmX5 hown hK hP hD hS 0 rfl rfl 12 (by decide) (hts (.fieldLink RX5 50 "DivisionHall$Reader" "state" "I") (by decide +kernel)) (fun _ h9 => h9) rfl (by decide +kernel) rfl rfl (Nat.le_of_ble_eq_true rfl) dX5_takeToken_23 (fun H locs hP hD hS => ?_)
      have hP : va_P D vwCl (wd_X5_takeToken cI cZ cR a_t a_t_text a_t_code a_t_waiting t_length t_codes t_waits t_fault t_faultPlace t_at t_place t_sign t_number (0 : Int32) t_name t_compared t_open t_parentheses t_code_r t_waiting_r) H := hP
      have hD : va_D A (wd_X5_takeToken cI cZ cR a_t a_t_text a_t_code a_t_waiting t_length t_codes t_waits t_fault t_faultPlace t_at t_place t_sign t_number (0 : Int32) t_name t_compared t_open t_parentheses t_code_r t_waiting_r) := hD
      exact w_X5_takeToken_26 X hK hA t_codes t_compared t_fault t_faultPlace t_name t_open t_parentheses (0 : Int32) t_waits t_code_r t_waiting_r hf _ _ hP hD hS _ (lv_sub hl [0] rfl)
    · have hf := ipos c2 hf
      refine lv_bipush (v := (8 : Int32)) hx hb dX5_takeToken_17 (by decide) ?_
      refine lv_goto (tgt := 23) hx hb dX5_takeToken_19 (by decide) ?_
      refine va_put (D := D) (ci := 5) (v := .int (8 : Int32)) (ty := .int) (C := RX5) (T := TX5) (N := 17) hx hb hts in_X5_takeToken_X5 tyX5 tyX5_ok nmX5 hown hK hP hD hS 0 rfl rfl 12 (by decide) (hts (.fieldLink RX5 50 "DivisionHall$Reader" "state" "I") (by decide +kernel)) (fun _ h9 => h9) rfl (by decide +kernel) rfl rfl (Nat.le_of_ble_eq_true rfl) dX5_takeToken_23 (fun H locs hP hD hS => ?_)
      have hP : va_P D vwCl (wd_X5_takeToken cI cZ cR a_t a_t_text a_t_code a_t_waiting t_length t_codes t_waits t_fault t_faultPlace t_at t_place t_sign t_number (8 : Int32) t_name t_compared t_open t_parentheses t_code_r t_waiting_r) H := hP
      have hD : va_D A (wd_X5_takeToken cI cZ cR a_t a_t_text a_t_code a_t_waiting t_length t_codes t_waits t_fault t_faultPlace t_at t_place t_sign t_number (8 : Int32) t_name t_compared t_open t_parentheses t_code_r t_waiting_r) := hD
      exact w_X5_takeToken_26 X hK hA t_codes t_compared t_fault t_faultPlace t_name t_open t_parentheses (8 : Int32) t_waits t_code_r t_waiting_r hf _ _ hP hD hS _ (lv_sub hl [0] rfl)
