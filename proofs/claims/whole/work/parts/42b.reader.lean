abbrev wd_X5_takeBehindClause (cI cZ cR : ClassId) (a_t a_t_text a_t_code a_t_waiting : Nat) (t_length t_codes t_waits t_fault t_faultPlace t_at t_place t_sign t_number t_state t_name t_compared t_open t_parentheses : Int32) (t_code_r : Nat → Int32) (t_waiting_r : Nat → Int32) : va_W := [(a_t, oB 5 [.ref a_t_text, .ref a_t_code, .ref a_t_waiting, .int t_length, .int t_codes, .int t_waits, .int t_fault, .int t_faultPlace, .int t_at, .int t_place, .int t_sign, .int t_number, .int t_state, .int t_name, .int t_compared, .int t_open, .int t_parentheses]), (a_t_code, aI cI 400 t_code_r), (a_t_waiting, aI cI 40 t_waiting_r)]
set_option maxRecDepth 100000 in
theorem in_X5_takeBehindClause_X5 : ∀ w ∈ wsX50, w ∈ wsX5_takeBehindClause := by decide +kernel
set_option maxHeartbeats 4000000 in
set_option maxRecDepth 100000 in
theorem w_X5_takeBehindClause_18 {p : Program} {l : Launch} {e : Env} {s : State} {m : MethodId} {args : Array Value} {below : List Frame} {meth : Method} {c : Code} {D : va_G} {cI cZ cR : ClassId} {A : Nat → Prop} {a_t a_t_text a_t_code a_t_waiting : Nat} {t_length : Int32} {t_at : Int32} {t_place : Int32} {t_sign : Int32} {t_number : Int32} {t_name : Int32} {t_compared : Int32} {out : Int32 × Int32 × Int32 × Int32 × Int32 × Int32 × Int32 × (Nat → Int32) × (Nat → Int32)} (X : cx p s m args meth c cX5_takeBehindClause 1 none RX5 wsX5_takeBehindClause) (hK : va_K D vwCl (ty3 cI cZ cR) s) (hA : ∀ q, s.heap.size ≤ q → A q) : ∀ (t_codes : Int32) (t_fault : Int32) (t_faultPlace : Int32) (t_open : Int32) (t_parentheses : Int32) (t_state : Int32) (t_waits : Int32) (t_code_r : Nat → Int32) (t_waiting_r : Nat → Int32), F_X5_takeBehindClause_18 t_place t_sign t_codes t_fault t_faultPlace t_open t_parentheses t_state t_waits t_code_r t_waiting_r = some out → ∀ (H : Heap) (locs : List Loc), va_P D vwCl (wd_X5_takeBehindClause cI cZ cR a_t a_t_text a_t_code a_t_waiting t_length t_codes t_waits t_fault t_faultPlace t_at t_place t_sign t_number t_state t_name t_compared t_open t_parentheses t_code_r t_waiting_r) H → va_D A (wd_X5_takeBehindClause cI cZ cR a_t a_t_text a_t_code a_t_waiting t_length t_codes t_waits t_fault t_faultPlace t_at t_place t_sign t_number t_state t_name t_compared t_open t_parentheses t_code_r t_waiting_r) → va_S A s.heap H locs → ∀ (ls : Array Slot), lv_has ls 1 [(0, .ref a_t)] → W p l e (headSpec wsX5_takeBehindClause ({ frames := 3, cells := 0, slots := 0, locals := 66 } : Room)).room s m args below meth c H locs 0 0 (MQ below (qv D cI cZ cR A (wd_X5_takeBehindClause cI cZ cR a_t a_t_text a_t_code a_t_waiting t_length (out.1) (out.2.2.2.2.2.2.1) (out.2.1) (out.2.2.1) t_at t_place t_sign t_number (out.2.2.2.2.2.1) t_name t_compared (out.2.2.2.1) (out.2.2.2.2.1) (out.2.2.2.2.2.2.2.1) (out.2.2.2.2.2.2.2.2))) args s 0 0 A) (F0 m 18 ls []) := by
  obtain ⟨hx, hb, hml, hr, hown, hts, hlocks, hN⟩ := id X
  intro t_codes t_fault t_faultPlace t_open t_parentheses t_state t_waits t_code_r t_waiting_r hf H locs hP hD hS ls hl
  unfold F_X5_takeBehindClause_18 at hf
  refine lv_aload_n hx hb dX5_takeBehindClause_18 rfl (lv_at hl 0 rfl) ?_
  refine lv_aload_n hx hb dX5_takeBehindClause_19 rfl (lv_at hl 0 rfl) ?_
  refine va_get (D := D) (ci := 5) (v := .int t_sign) (C := RX5) (T := TX5) (N := 17) hx hb hts in_X5_takeBehindClause_X5 hown hK hP 0 rfl rfl 10 (by decide) (hts (.fieldLink RX5 64 "DivisionHall$Reader" "sign" "I") (by decide +kernel)) (fun _ h9 => h9) rfl dX5_takeBehindClause_20 ?_
  obtain ⟨r15, hr16, hf⟩ := bnd hf
  refine wcalli (D := D) (cI := cI) (cZ := cZ) (cR := cR) (wc := (wd_X8_rank cI cZ cR)) (w' := (wd_X8_rank cI cZ cR)) [] hP hD hS hA rfl rfl rfl (rnS (As := [.int t_sign]) X [] hK hP hD rfl rfl (c_X8_rank l D cI cZ cR hr16) ⟨callB_of 1 hts ggX5_takeBehindClause_X8_rank rfl rfl rfl (hts (.initialized RX8) (by decide +kernel)) (hts (.methodLink RX5 156 yX8_rank) (by decide +kernel)) (by decide +kernel) ⟨Nat.le_of_ble_eq_true rfl, Nat.le_of_ble_eq_true rfl⟩, hts (.static yX8_rank) (by decide +kernel)⟩ rfl hl.1 rfl (Nat.le_of_ble_eq_true rfl) dX5_takeBehindClause_23) (fun H locs hP hD hS => ?_)
  have hP : va_P D vwCl (wd_X5_takeBehindClause cI cZ cR a_t a_t_text a_t_code a_t_waiting t_length t_codes t_waits t_fault t_faultPlace t_at t_place t_sign t_number t_state t_name t_compared t_open t_parentheses t_code_r t_waiting_r) H := hP
  have hD : va_D A (wd_X5_takeBehindClause cI cZ cR a_t a_t_text a_t_code a_t_waiting t_length t_codes t_waits t_fault t_faultPlace t_at t_place t_sign t_number t_state t_name t_compared t_open t_parentheses t_code_r t_waiting_r) := hD
  obtain ⟨r17, hr18, hf⟩ := bnd hf
  refine wcallvA (D := D) (cI := cI) (cZ := cZ) (cR := cR) (wc := (wd_X5_release cI cZ cR a_t a_t_text a_t_code a_t_waiting t_length t_codes t_waits t_fault t_faultPlace t_at t_place t_sign t_number t_state t_name t_compared t_open t_parentheses t_code_r t_waiting_r)) (w' := (wd_X5_release cI cZ cR a_t a_t_text a_t_code a_t_waiting t_length (r17.1) (r17.2.2.1) t_fault t_faultPlace t_at t_place t_sign t_number t_state t_name t_compared (r17.2.1) t_parentheses (r17.2.2.2) t_waiting_r)) hP hD hS hA rfl (rnVA (As := [.int r15]) (ci := 5) (q0 := 0) X hK hP hD rfl rfl (c_X5_release l D cI cZ cR hr18) (cwV 1 hts gX5_takeBehindClause_X5_release rfl rfl rfl (by decide +kernel) ⟨Nat.le_of_ble_eq_true rfl, Nat.le_of_ble_eq_true rfl⟩) rfl hl.1 rfl (Nat.le_of_ble_eq_true rfl) dX5_takeBehindClause_26) (fun H locs hP hD hS => ?_)
  have hP : va_P D vwCl (wd_X5_takeBehindClause cI cZ cR a_t a_t_text a_t_code a_t_waiting t_length (r17.1) (r17.2.2.1) t_fault t_faultPlace t_at t_place t_sign t_number t_state t_name t_compared (r17.2.1) t_parentheses (r17.2.2.2) t_waiting_r) H := hP
  have hD : va_D A (wd_X5_takeBehindClause cI cZ cR a_t a_t_text a_t_code a_t_waiting t_length (r17.1) (r17.2.2.1) t_fault t_faultPlace t_at t_place t_sign t_number t_state t_name t_compared (r17.2.1) t_parentheses (r17.2.2.2) t_waiting_r) := hD
  refine lv_aload_n hx hb dX5_takeBehindClause_29 rfl (lv_at hl 0 rfl) ?_
  obtain ⟨r19, hr20, hf⟩ := bnd hf
  refine wcallv (D := D) (cI := cI) (cZ := cZ) (cR := cR) (wc := (wd_X5_push cI cZ cR a_t a_t_text a_t_code a_t_waiting t_length (r17.1) (r17.2.2.1) t_fault t_faultPlace t_at t_place t_sign t_number t_state t_name t_compared (r17.2.1) t_parentheses t_waiting_r)) (w' := (wd_X5_push cI cZ cR a_t a_t_text a_t_code a_t_waiting t_length (r17.1) (r19.1) t_fault t_faultPlace t_at t_place t_sign t_number t_state t_name t_compared (r17.2.1) t_parentheses (r19.2))) [0, 2] hP hD hS hA rfl rfl rfl (rnV (As := []) (ci := 5) (q0 := 0) X [0, 2] hK hP hD rfl rfl rfl rfl (c_X5_push l D cI cZ cR hr20) (cwV 0 hts gX5_takeBehindClause_X5_push rfl rfl rfl (by decide +kernel) ⟨Nat.le_of_ble_eq_true rfl, Nat.le_of_ble_eq_true rfl⟩) rfl hl.1 rfl (Nat.le_of_ble_eq_true rfl) dX5_takeBehindClause_30) (fun H locs hP hD hS => ?_)
  have hP : va_P D vwCl (wd_X5_takeBehindClause cI cZ cR a_t a_t_text a_t_code a_t_waiting t_length (r17.1) (r19.1) t_fault t_faultPlace t_at t_place t_sign t_number t_state t_name t_compared (r17.2.1) t_parentheses (r17.2.2.2) (r19.2)) H := hP
  have hD : va_D A (wd_X5_takeBehindClause cI cZ cR a_t a_t_text a_t_code a_t_waiting t_length (r17.1) (r19.1) t_fault t_faultPlace t_at t_place t_sign t_number t_state t_name t_compared (r17.2.1) t_parentheses (r17.2.2.2) (r19.2)) := hD
  refine lv_aload_n hx hb dX5_takeBehindClause_33 rfl (lv_at hl 0 rfl) ?_
  refine lv_iconst (v := (0 : Int32)) hx hb dX5_takeBehindClause_34 (by decide) ?_
  refine va_put (D := D) (ci := 5) (v := .int (0 : Int32)) (ty := .int) (C := RX5) (T := TX5) (N := 17) hx hb hts in_X5_takeBehindClause_X5 tyX5 tyX5_ok nmX5 hown hK hP hD hS 0 rfl rfl 12 (by decide) (hts (.fieldLink RX5 50 "DivisionHall$Reader" "state" "I") (by decide +kernel)) (fun _ h9 => h9) rfl (by decide +kernel) rfl rfl (Nat.le_of_ble_eq_true rfl) dX5_takeBehindClause_35 (fun H locs hP hD hS => ?_)
  have hP : va_P D vwCl (wd_X5_takeBehindClause cI cZ cR a_t a_t_text a_t_code a_t_waiting t_length (r17.1) (r19.1) t_fault t_faultPlace t_at t_place t_sign t_number (0 : Int32) t_name t_compared (r17.2.1) t_parentheses (r17.2.2.2) (r19.2)) H := hP
  have hD : va_D A (wd_X5_takeBehindClause cI cZ cR a_t a_t_text a_t_code a_t_waiting t_length (r17.1) (r19.1) t_fault t_faultPlace t_at t_place t_sign t_number (0 : Int32) t_name t_compared (r17.2.1) t_parentheses (r17.2.2.2) (r19.2)) := hD
  refine lv_goto (tgt := 133) hx hb dX5_takeBehindClause_38 (by decide) ?_
  cases hf
  exact retv X hK hP hD hS dX5_takeBehindClause_133
set_option maxHeartbeats 4000000 in
set_option maxRecDepth 100000 in
theorem w_X5_takeBehindClause_99 {p : Program} {l : Launch} {e : Env} {s : State} {m : MethodId} {args : Array Value} {below : List Frame} {meth : Method} {c : Code} {D : va_G} {cI cZ cR : ClassId} {A : Nat → Prop} {a_t a_t_text a_t_code a_t_waiting : Nat} {t_length : Int32} {t_at : Int32} {t_place : Int32} {t_sign : Int32} {t_number : Int32} {t_name : Int32} {t_compared : Int32} {out : Int32 × Int32 × Int32 × Int32 × Int32 × Int32 × Int32 × (Nat → Int32) × (Nat → Int32)} (X : cx p s m args meth c cX5_takeBehindClause 1 none RX5 wsX5_takeBehindClause) (hK : va_K D vwCl (ty3 cI cZ cR) s) (hA : ∀ q, s.heap.size ≤ q → A q) : ∀ (t_codes : Int32) (t_fault : Int32) (t_faultPlace : Int32) (t_open : Int32) (t_parentheses : Int32) (t_state : Int32) (t_waits : Int32) (t_code_r : Nat → Int32) (t_waiting_r : Nat → Int32), F_X5_takeBehindClause_99 t_place t_sign t_codes t_fault t_faultPlace t_open t_parentheses t_state t_waits t_code_r t_waiting_r = some out → ∀ (H : Heap) (locs : List Loc), va_P D vwCl (wd_X5_takeBehindClause cI cZ cR a_t a_t_text a_t_code a_t_waiting t_length t_codes t_waits t_fault t_faultPlace t_at t_place t_sign t_number t_state t_name t_compared t_open t_parentheses t_code_r t_waiting_r) H → va_D A (wd_X5_takeBehindClause cI cZ cR a_t a_t_text a_t_code a_t_waiting t_length t_codes t_waits t_fault t_faultPlace t_at t_place t_sign t_number t_state t_name t_compared t_open t_parentheses t_code_r t_waiting_r) → va_S A s.heap H locs → ∀ (ls : Array Slot), lv_has ls 1 [(0, .ref a_t)] → W p l e (headSpec wsX5_takeBehindClause ({ frames := 3, cells := 0, slots := 0, locals := 66 } : Room)).room s m args below meth c H locs 0 0 (MQ below (qv D cI cZ cR A (wd_X5_takeBehindClause cI cZ cR a_t a_t_text a_t_code a_t_waiting t_length (out.1) (out.2.2.2.2.2.2.1) (out.2.1) (out.2.2.1) t_at t_place t_sign t_number (out.2.2.2.2.2.1) t_name t_compared (out.2.2.2.1) (out.2.2.2.2.1) (out.2.2.2.2.2.2.2.1) (out.2.2.2.2.2.2.2.2))) args s 0 0 A) (F0 m 99 ls []) := by
  obtain ⟨hx, hb, hml, hr, hown, hts, hlocks, hN⟩ := id X
  intro t_codes t_fault t_faultPlace t_open t_parentheses t_state t_waits t_code_r t_waiting_r hf H locs hP hD hS ls hl
  unfold F_X5_takeBehindClause_99 at hf
  refine lv_aload_n hx hb dX5_takeBehindClause_99 rfl (lv_at hl 0 rfl) ?_
  refine va_get (D := D) (ci := 5) (v := .int t_sign) (C := RX5) (T := TX5) (N := 17) hx hb hts in_X5_takeBehindClause_X5 hown hK hP 0 rfl rfl 10 (by decide) (hts (.fieldLink RX5 64 "DivisionHall$Reader" "sign" "I") (by decide +kernel)) (fun _ h9 => h9) rfl dX5_takeBehindClause_100 ?_
  refine lv_iconst (v := (2 : Int32)) hx hb dX5_takeBehindClause_103 (by decide) ?_
  refine lv_icmp_ne (tgt := 128) hx hb dX5_takeBehindClause_104 (by decide) (fun c7 => ?_) (fun c7 => ?_)
  · have hf := ineg c7 hf
    refine lv_aload_n hx hb dX5_takeBehindClause_128 rfl (lv_at hl 0 rfl) ?_
    refine lv_iconst (v := (1 : Int32)) hx hb dX5_takeBehindClause_129 (by decide) ?_
    obtain ⟨r8, hr9, hf⟩ := bnd hf
    refine wcallv (D := D) (cI := cI) (cZ := cZ) (cR := cR) (wc := (wd_X5_stop cI cZ cR a_t a_t_text a_t_code a_t_waiting t_length t_codes t_waits t_fault t_faultPlace t_at t_place t_sign t_number t_state t_name t_compared t_open t_parentheses)) (w' := (wd_X5_stop cI cZ cR a_t a_t_text a_t_code a_t_waiting t_length t_codes t_waits (r8.1) (r8.2.1) t_at t_place t_sign t_number (r8.2.2) t_name t_compared t_open t_parentheses)) [0] hP hD hS hA rfl rfl rfl (rnV (As := [.int (1 : Int32)]) (ci := 5) (q0 := 0) X [0] hK hP hD rfl rfl rfl rfl (c_X5_stop l D cI cZ cR hr9) (cwV 1 hts gX5_takeBehindClause_X5_stop rfl rfl rfl (by decide +kernel) ⟨Nat.le_of_ble_eq_true rfl, Nat.le_of_ble_eq_true rfl⟩) rfl hl.1 rfl (Nat.le_of_ble_eq_true rfl) dX5_takeBehindClause_130) (fun H locs hP hD hS => ?_)
    have hP : va_P D vwCl (wd_X5_takeBehindClause cI cZ cR a_t a_t_text a_t_code a_t_waiting t_length t_codes t_waits (r8.1) (r8.2.1) t_at t_place t_sign t_number (r8.2.2) t_name t_compared t_open t_parentheses t_code_r t_waiting_r) H := hP
    have hD : va_D A (wd_X5_takeBehindClause cI cZ cR a_t a_t_text a_t_code a_t_waiting t_length t_codes t_waits (r8.1) (r8.2.1) t_at t_place t_sign t_number (r8.2.2) t_name t_compared t_open t_parentheses t_code_r t_waiting_r) := hD
    cases hf
    exact retv X hK hP hD hS dX5_takeBehindClause_133
  · have hf := ipos c7 hf
    refine lv_aload_n hx hb dX5_takeBehindClause_107 rfl (lv_at hl 0 rfl) ?_
    refine va_get (D := D) (ci := 5) (v := .int t_parentheses) (C := RX5) (T := TX5) (N := 17) hx hb hts in_X5_takeBehindClause_X5 hown hK hP 0 rfl rfl 16 (by decide) (hts (.fieldLink RX5 47 "DivisionHall$Reader" "parentheses" "I") (by decide +kernel)) (fun _ h9 => h9) rfl dX5_takeBehindClause_108 ?_
    refine lv_if_ne (tgt := 128) hx hb dX5_takeBehindClause_111 (by decide) (fun c10 => ?_) (fun c10 => ?_)
    · have hf := ineg c10 hf
      refine lv_aload_n hx hb dX5_takeBehindClause_128 rfl (lv_at hl 0 rfl) ?_
      refine lv_iconst (v := (1 : Int32)) hx hb dX5_takeBehindClause_129 (by decide) ?_
      obtain ⟨r11, hr12, hf⟩ := bnd hf
      refine wcallv (D := D) (cI := cI) (cZ := cZ) (cR := cR) (wc := (wd_X5_stop cI cZ cR a_t a_t_text a_t_code a_t_waiting t_length t_codes t_waits t_fault t_faultPlace t_at t_place t_sign t_number t_state t_name t_compared t_open t_parentheses)) (w' := (wd_X5_stop cI cZ cR a_t a_t_text a_t_code a_t_waiting t_length t_codes t_waits (r11.1) (r11.2.1) t_at t_place t_sign t_number (r11.2.2) t_name t_compared t_open t_parentheses)) [0] hP hD hS hA rfl rfl rfl (rnV (As := [.int (1 : Int32)]) (ci := 5) (q0 := 0) X [0] hK hP hD rfl rfl rfl rfl (c_X5_stop l D cI cZ cR hr12) (cwV 1 hts gX5_takeBehindClause_X5_stop rfl rfl rfl (by decide +kernel) ⟨Nat.le_of_ble_eq_true rfl, Nat.le_of_ble_eq_true rfl⟩) rfl hl.1 rfl (Nat.le_of_ble_eq_true rfl) dX5_takeBehindClause_130) (fun H locs hP hD hS => ?_)
      have hP : va_P D vwCl (wd_X5_takeBehindClause cI cZ cR a_t a_t_text a_t_code a_t_waiting t_length t_codes t_waits (r11.1) (r11.2.1) t_at t_place t_sign t_number (r11.2.2) t_name t_compared t_open t_parentheses t_code_r t_waiting_r) H := hP
      have hD : va_D A (wd_X5_takeBehindClause cI cZ cR a_t a_t_text a_t_code a_t_waiting t_length t_codes t_waits (r11.1) (r11.2.1) t_at t_place t_sign t_number (r11.2.2) t_name t_compared t_open t_parentheses t_code_r t_waiting_r) := hD
      cases hf
      exact retv X hK hP hD hS dX5_takeBehindClause_133
    · have hf := ipos c10 hf
      refine lv_aload_n hx hb dX5_takeBehindClause_114 rfl (lv_at hl 0 rfl) ?_
      refine lv_iconst (v := (1 : Int32)) hx hb dX5_takeBehindClause_115 (by decide) ?_
      obtain ⟨r13, hr14, hf⟩ := bnd hf
      refine wcallvA (D := D) (cI := cI) (cZ := cZ) (cR := cR) (wc := (wd_X5_release cI cZ cR a_t a_t_text a_t_code a_t_waiting t_length t_codes t_waits t_fault t_faultPlace t_at t_place t_sign t_number t_state t_name t_compared t_open t_parentheses t_code_r t_waiting_r)) (w' := (wd_X5_release cI cZ cR a_t a_t_text a_t_code a_t_waiting t_length (r13.1) (r13.2.2.1) t_fault t_faultPlace t_at t_place t_sign t_number t_state t_name t_compared (r13.2.1) t_parentheses (r13.2.2.2) t_waiting_r)) hP hD hS hA rfl (rnVA (As := [.int (1 : Int32)]) (ci := 5) (q0 := 0) X hK hP hD rfl rfl (c_X5_release l D cI cZ cR hr14) (cwV 1 hts gX5_takeBehindClause_X5_release rfl rfl rfl (by decide +kernel) ⟨Nat.le_of_ble_eq_true rfl, Nat.le_of_ble_eq_true rfl⟩) rfl hl.1 rfl (Nat.le_of_ble_eq_true rfl) dX5_takeBehindClause_116) (fun H locs hP hD hS => ?_)
      have hP : va_P D vwCl (wd_X5_takeBehindClause cI cZ cR a_t a_t_text a_t_code a_t_waiting t_length (r13.1) (r13.2.2.1) t_fault t_faultPlace t_at t_place t_sign t_number t_state t_name t_compared (r13.2.1) t_parentheses (r13.2.2.2) t_waiting_r) H := hP
      have hD : va_D A (wd_X5_takeBehindClause cI cZ cR a_t a_t_text a_t_code a_t_waiting t_length (r13.1) (r13.2.2.1) t_fault t_faultPlace t_at t_place t_sign t_number t_state t_name t_compared (r13.2.1) t_parentheses (r13.2.2.2) t_waiting_r) := hD
      refine lv_aload_n hx hb dX5_takeBehindClause_119 rfl (lv_at hl 0 rfl) ?_
      refine lv_bipush (v := (6 : Int32)) hx hb dX5_takeBehindClause_120 (by decide) ?_
      refine va_put (D := D) (ci := 5) (v := .int (6 : Int32)) (ty := .int) (C := RX5) (T := TX5) (N := 17) hx hb hts in_X5_takeBehindClause_X5 tyX5 tyX5_ok nmX5 hown hK hP hD hS 0 rfl rfl 12 (by decide) (hts (.fieldLink RX5 50 "DivisionHall$Reader" "state" "I") (by decide +kernel)) (fun _ h9 => h9) rfl (by decide +kernel) rfl rfl (Nat.le_of_ble_eq_true rfl) dX5_takeBehindClause_122 (fun H locs hP hD hS => ?_)
      have hP : va_P D vwCl (wd_X5_takeBehindClause cI cZ cR a_t a_t_text a_t_code a_t_waiting t_length (r13.1) (r13.2.2.1) t_fault t_faultPlace t_at t_place t_sign t_number (6 : Int32) t_name t_compared (r13.2.1) t_parentheses (r13.2.2.2) t_waiting_r) H := hP
      have hD : va_D A (wd_X5_takeBehindClause cI cZ cR a_t a_t_text a_t_code a_t_waiting t_length (r13.1) (r13.2.2.1) t_fault t_faultPlace t_at t_place t_sign t_number (6 : Int32) t_name t_compared (r13.2.1) t_parentheses (r13.2.2.2) t_waiting_r) := hD
      refine lv_goto (tgt := 133) hx hb dX5_takeBehindClause_125 (by decide) ?_
      cases hf
      exact retv X hK hP hD hS dX5_takeBehindClause_133
set_option maxHeartbeats 4000000 in
set_option maxRecDepth 100000 in
theorem c_X5_takeBehindClause (l : Launch) (D : va_G) (cI cZ cR : ClassId) {a_t a_t_text a_t_code a_t_waiting : Nat} {t_length : Int32} {t_codes : Int32} {t_waits : Int32} {t_fault : Int32} {t_faultPlace : Int32} {t_at : Int32} {t_place : Int32} {t_sign : Int32} {t_number : Int32} {t_state : Int32} {t_name : Int32} {t_compared : Int32} {t_open : Int32} {t_parentheses : Int32} {t_code_r : Nat → Int32} {t_waiting_r : Nat → Int32} {sz : Nat} {out : Int32 × Int32 × Int32 × Int32 × Int32 × Int32 × Int32 × (Nat → Int32) × (Nat → Int32)} (hf : F_X5_takeBehindClause t_codes t_fault t_faultPlace t_open t_parentheses t_place t_sign t_state t_waits t_code_r t_waiting_r = some out) : CV l yX5_takeBehindClause wsX5_takeBehindClause ({ frames := 3, cells := 0, slots := 0, locals := 66 } : Room) D cI cZ cR [.ref a_t] (wd_X5_takeBehindClause cI cZ cR a_t a_t_text a_t_code a_t_waiting t_length t_codes t_waits t_fault t_faultPlace t_at t_place t_sign t_number t_state t_name t_compared t_open t_parentheses t_code_r t_waiting_r) sz (wd_X5_takeBehindClause cI cZ cR a_t a_t_text a_t_code a_t_waiting t_length (out.1) (out.2.2.2.2.2.2.1) (out.2.1) (out.2.2.1) t_at t_place t_sign t_number (out.2.2.2.2.2.1) t_name t_compared (out.2.2.2.1) (out.2.2.2.2.1) (out.2.2.2.2.2.2.2.1) (out.2.2.2.2.2.2.2.2)) := by
  refine met_of (Qf := fun A => qv D cI cZ cR A (wd_X5_takeBehindClause cI cZ cR a_t a_t_text a_t_code a_t_waiting t_length (out.1) (out.2.2.2.2.2.2.1) (out.2.1) (out.2.2.1) t_at t_place t_sign t_number (out.2.2.2.2.2.1) t_name t_compared (out.2.2.2.1) (out.2.2.2.2.1) (out.2.2.2.2.2.2.2.1) (out.2.2.2.2.2.2.2.2))) RX5 (by decide +kernel) rfl rfl (Nat.le_of_ble_eq_true rfl) ?_
  intro p e s m below meth c A X hK hA hP hD hS ls hl
  have hl : lv_has ls 1 [(0, .ref a_t)] := hl
  obtain ⟨hx, hb, hml, hr, hown, hts, hlocks, hN⟩ := id X
  unfold F_X5_takeBehindClause at hf
  refine lv_aload_n hx hb dX5_takeBehindClause_0 rfl (lv_at hl 0 rfl) ?_
  refine va_get (D := D) (ci := 5) (v := .int t_sign) (C := RX5) (T := TX5) (N := 17) hx hb hts in_X5_takeBehindClause_X5 hown hK hP 0 rfl rfl 10 (by decide) (hts (.fieldLink RX5 64 "DivisionHall$Reader" "sign" "I") (by decide +kernel)) (fun _ h9 => h9) rfl dX5_takeBehindClause_1 ?_
  refine lv_bipush (v := (21 : Int32)) hx hb dX5_takeBehindClause_4 (by decide) ?_
  refine lv_icmp_eq (tgt := 18) hx hb dX5_takeBehindClause_6 (by decide) (fun c1 => ?_) (fun c1 => ?_)
  · have hf := ipos c1 hf
    exact w_X5_takeBehindClause_18 X hK hA t_codes t_fault t_faultPlace t_open t_parentheses t_state t_waits t_code_r t_waiting_r hf _ _ hP hD hS _ (lv_sub hl [0] rfl)
  · have hf := ineg c1 hf
    refine lv_aload_n hx hb dX5_takeBehindClause_9 rfl (lv_at hl 0 rfl) ?_
    refine va_get (D := D) (ci := 5) (v := .int t_sign) (C := RX5) (T := TX5) (N := 17) hx hb hts in_X5_takeBehindClause_X5 hown hK hP 0 rfl rfl 10 (by decide) (hts (.fieldLink RX5 64 "DivisionHall$Reader" "sign" "I") (by decide +kernel)) (fun _ h9 => h9) rfl dX5_takeBehindClause_10 ?_
    refine lv_bipush (v := (22 : Int32)) hx hb dX5_takeBehindClause_13 (by decide) ?_
    refine lv_icmp_ne (tgt := 41) hx hb dX5_takeBehindClause_15 (by decide) (fun c2 => ?_) (fun c2 => ?_)
    · have hf := ineg c2 hf
      refine lv_aload_n hx hb dX5_takeBehindClause_41 rfl (lv_at hl 0 rfl) ?_
      refine va_get (D := D) (ci := 5) (v := .int t_sign) (C := RX5) (T := TX5) (N := 17) hx hb hts in_X5_takeBehindClause_X5 hown hK hP 0 rfl rfl 10 (by decide) (hts (.fieldLink RX5 64 "DivisionHall$Reader" "sign" "I") (by decide +kernel)) (fun _ h9 => h9) rfl dX5_takeBehindClause_42 ?_
      refine lv_iconst (v := (4 : Int32)) hx hb dX5_takeBehindClause_45 (by decide) ?_
      refine lv_icmp_ne (tgt := 99) hx hb dX5_takeBehindClause_46 (by decide) (fun c3 => ?_) (fun c3 => ?_)
      · have hf := ineg c3 hf
        exact w_X5_takeBehindClause_99 X hK hA t_codes t_fault t_faultPlace t_open t_parentheses t_state t_waits t_code_r t_waiting_r hf _ _ hP hD hS _ (lv_sub hl [0] rfl)
      · have hf := ipos c3 hf
        refine lv_aload_n hx hb dX5_takeBehindClause_49 rfl (lv_at hl 0 rfl) ?_
        refine va_get (D := D) (ci := 5) (v := .int t_parentheses) (C := RX5) (T := TX5) (N := 17) hx hb hts in_X5_takeBehindClause_X5 hown hK hP 0 rfl rfl 16 (by decide) (hts (.fieldLink RX5 47 "DivisionHall$Reader" "parentheses" "I") (by decide +kernel)) (fun _ h9 => h9) rfl dX5_takeBehindClause_50 ?_
        refine lv_if_le (tgt := 99) hx hb dX5_takeBehindClause_53 (by decide) (fun c4 => ?_) (fun c4 => ?_)
        · have hf := ipos c4 hf
          exact w_X5_takeBehindClause_99 X hK hA t_codes t_fault t_faultPlace t_open t_parentheses t_state t_waits t_code_r t_waiting_r hf _ _ hP hD hS _ (lv_sub hl [0] rfl)
        · have hf := ineg c4 hf
          refine lv_aload_n hx hb dX5_takeBehindClause_56 rfl (lv_at hl 0 rfl) ?_
          refine lv_iconst (v := (1 : Int32)) hx hb dX5_takeBehindClause_57 (by decide) ?_
          obtain ⟨r5, hr6, hf⟩ := bnd hf
          refine wcallvA (D := D) (cI := cI) (cZ := cZ) (cR := cR) (wc := (wd_X5_release cI cZ cR a_t a_t_text a_t_code a_t_waiting t_length t_codes t_waits t_fault t_faultPlace t_at t_place t_sign t_number t_state t_name t_compared t_open t_parentheses t_code_r t_waiting_r)) (w' := (wd_X5_release cI cZ cR a_t a_t_text a_t_code a_t_waiting t_length (r5.1) (r5.2.2.1) t_fault t_faultPlace t_at t_place t_sign t_number t_state t_name t_compared (r5.2.1) t_parentheses (r5.2.2.2) t_waiting_r)) hP hD hS hA rfl (rnVA (As := [.int (1 : Int32)]) (ci := 5) (q0 := 0) X hK hP hD rfl rfl (c_X5_release l D cI cZ cR hr6) (cwV 1 hts gX5_takeBehindClause_X5_release rfl rfl rfl (by decide +kernel) ⟨Nat.le_of_ble_eq_true rfl, Nat.le_of_ble_eq_true rfl⟩) rfl hl.1 rfl (Nat.le_of_ble_eq_true rfl) dX5_takeBehindClause_58) (fun H locs hP hD hS => ?_)
          have hP : va_P D vwCl (wd_X5_takeBehindClause cI cZ cR a_t a_t_text a_t_code a_t_waiting t_length (r5.1) (r5.2.2.1) t_fault t_faultPlace t_at t_place t_sign t_number t_state t_name t_compared (r5.2.1) t_parentheses (r5.2.2.2) t_waiting_r) H := hP
          have hD : va_D A (wd_X5_takeBehindClause cI cZ cR a_t a_t_text a_t_code a_t_waiting t_length (r5.1) (r5.2.2.1) t_fault t_faultPlace t_at t_place t_sign t_number t_state t_name t_compared (r5.2.1) t_parentheses (r5.2.2.2) t_waiting_r) := hD
          refine lv_aload_n hx hb dX5_takeBehindClause_61 rfl (lv_at hl 0 rfl) ?_
          refine lv_dup hx hb dX5_takeBehindClause_62 rfl ?_
          refine va_get (D := D) (ci := 5) (v := .int (r5.2.2.1)) (C := RX5) (T := TX5) (N := 17) hx hb hts in_X5_takeBehindClause_X5 hown hK hP 0 rfl rfl 5 (by decide) (hts (.fieldLink RX5 31 "DivisionHall$Reader" "waits" "I") (by decide +kernel)) (fun _ h9 => h9) rfl dX5_takeBehindClause_63 ?_
          refine lv_iconst (v := (1 : Int32)) hx hb dX5_takeBehindClause_66 (by decide) ?_
          refine lv_isub hx hb dX5_takeBehindClause_67 ?_
          refine va_put (D := D) (ci := 5) (v := .int ((r5.2.2.1) - (1 : Int32))) (ty := .int) (C := RX5) (T := TX5) (N := 17) hx hb hts in_X5_takeBehindClause_X5 tyX5 tyX5_ok nmX5 hown hK hP hD hS 0 rfl rfl 5 (by decide) (hts (.fieldLink RX5 31 "DivisionHall$Reader" "waits" "I") (by decide +kernel)) (fun _ h9 => h9) rfl (by decide +kernel) rfl rfl (Nat.le_of_ble_eq_true rfl) dX5_takeBehindClause_68 (fun H locs hP hD hS => ?_)
          have hP : va_P D vwCl (wd_X5_takeBehindClause cI cZ cR a_t a_t_text a_t_code a_t_waiting t_length (r5.1) ((r5.2.2.1) - (1 : Int32)) t_fault t_faultPlace t_at t_place t_sign t_number t_state t_name t_compared (r5.2.1) t_parentheses (r5.2.2.2) t_waiting_r) H := hP
          have hD : va_D A (wd_X5_takeBehindClause cI cZ cR a_t a_t_text a_t_code a_t_waiting t_length (r5.1) ((r5.2.2.1) - (1 : Int32)) t_fault t_faultPlace t_at t_place t_sign t_number t_state t_name t_compared (r5.2.1) t_parentheses (r5.2.2.2) t_waiting_r) := hD
          refine lv_aload_n hx hb dX5_takeBehindClause_71 rfl (lv_at hl 0 rfl) ?_
          refine lv_dup hx hb dX5_takeBehindClause_72 rfl ?_
          refine va_get (D := D) (ci := 5) (v := .int (r5.2.1)) (C := RX5) (T := TX5) (N := 17) hx hb hts in_X5_takeBehindClause_X5 hown hK hP 0 rfl rfl 15 (by decide) (hts (.fieldLink RX5 44 "DivisionHall$Reader" "open" "I") (by decide +kernel)) (fun _ h9 => h9) rfl dX5_takeBehindClause_73 ?_
          refine lv_iconst (v := (1 : Int32)) hx hb dX5_takeBehindClause_76 (by decide) ?_
          refine lv_isub hx hb dX5_takeBehindClause_77 ?_
          refine va_put (D := D) (ci := 5) (v := .int ((r5.2.1) - (1 : Int32))) (ty := .int) (C := RX5) (T := TX5) (N := 17) hx hb hts in_X5_takeBehindClause_X5 tyX5 tyX5_ok nmX5 hown hK hP hD hS 0 rfl rfl 15 (by decide) (hts (.fieldLink RX5 44 "DivisionHall$Reader" "open" "I") (by decide +kernel)) (fun _ h9 => h9) rfl (by decide +kernel) rfl rfl (Nat.le_of_ble_eq_true rfl) dX5_takeBehindClause_78 (fun H locs hP hD hS => ?_)
          have hP : va_P D vwCl (wd_X5_takeBehindClause cI cZ cR a_t a_t_text a_t_code a_t_waiting t_length (r5.1) ((r5.2.2.1) - (1 : Int32)) t_fault t_faultPlace t_at t_place t_sign t_number t_state t_name t_compared ((r5.2.1) - (1 : Int32)) t_parentheses (r5.2.2.2) t_waiting_r) H := hP
          have hD : va_D A (wd_X5_takeBehindClause cI cZ cR a_t a_t_text a_t_code a_t_waiting t_length (r5.1) ((r5.2.2.1) - (1 : Int32)) t_fault t_faultPlace t_at t_place t_sign t_number t_state t_name t_compared ((r5.2.1) - (1 : Int32)) t_parentheses (r5.2.2.2) t_waiting_r) := hD
          refine lv_aload_n hx hb dX5_takeBehindClause_81 rfl (lv_at hl 0 rfl) ?_
          refine lv_dup hx hb dX5_takeBehindClause_82 rfl ?_
          refine va_get (D := D) (ci := 5) (v := .int t_parentheses) (C := RX5) (T := TX5) (N := 17) hx hb hts in_X5_takeBehindClause_X5 hown hK hP 0 rfl rfl 16 (by decide) (hts (.fieldLink RX5 47 "DivisionHall$Reader" "parentheses" "I") (by decide +kernel)) (fun _ h9 => h9) rfl dX5_takeBehindClause_83 ?_
          refine lv_iconst (v := (1 : Int32)) hx hb dX5_takeBehindClause_86 (by decide) ?_
          refine lv_isub hx hb dX5_takeBehindClause_87 ?_
          refine va_put (D := D) (ci := 5) (v := .int (t_parentheses - (1 : Int32))) (ty := .int) (C := RX5) (T := TX5) (N := 17) hx hb hts in_X5_takeBehindClause_X5 tyX5 tyX5_ok nmX5 hown hK hP hD hS 0 rfl rfl 16 (by decide) (hts (.fieldLink RX5 47 "DivisionHall$Reader" "parentheses" "I") (by decide +kernel)) (fun _ h9 => h9) rfl (by decide +kernel) rfl rfl (Nat.le_of_ble_eq_true rfl) dX5_takeBehindClause_88 (fun H locs hP hD hS => ?_)
          have hP : va_P D vwCl (wd_X5_takeBehindClause cI cZ cR a_t a_t_text a_t_code a_t_waiting t_length (r5.1) ((r5.2.2.1) - (1 : Int32)) t_fault t_faultPlace t_at t_place t_sign t_number t_state t_name t_compared ((r5.2.1) - (1 : Int32)) (t_parentheses - (1 : Int32)) (r5.2.2.2) t_waiting_r) H := hP
          have hD : va_D A (wd_X5_takeBehindClause cI cZ cR a_t a_t_text a_t_code a_t_waiting t_length (r5.1) ((r5.2.2.1) - (1 : Int32)) t_fault t_faultPlace t_at t_place t_sign t_number t_state t_name t_compared ((r5.2.1) - (1 : Int32)) (t_parentheses - (1 : Int32)) (r5.2.2.2) t_waiting_r) := hD
          refine lv_aload_n hx hb dX5_takeBehindClause_91 rfl (lv_at hl 0 rfl) ?_
          refine lv_iconst (v := (5 : Int32)) hx hb dX5_takeBehindClause_92 (by decide) ?_
          refine va_put (D := D) (ci := 5) (v := .int (5 : Int32)) (ty := .int) (C := RX5) (T := TX5) (N := 17) hx hb hts in_X5_takeBehindClause_X5 tyX5 tyX5_ok nmX5 hown hK hP hD hS 0 rfl rfl 12 (by decide) (hts (.fieldLink RX5 50 "DivisionHall$Reader" "state" "I") (by decide +kernel)) (fun _ h9 => h9) rfl (by decide +kernel) rfl rfl (Nat.le_of_ble_eq_true rfl) dX5_takeBehindClause_93 (fun H locs hP hD hS => ?_)
          have hP : va_P D vwCl (wd_X5_takeBehindClause cI cZ cR a_t a_t_text a_t_code a_t_waiting t_length (r5.1) ((r5.2.2.1) - (1 : Int32)) t_fault t_faultPlace t_at t_place t_sign t_number (5 : Int32) t_name t_compared ((r5.2.1) - (1 : Int32)) (t_parentheses - (1 : Int32)) (r5.2.2.2) t_waiting_r) H := hP
          have hD : va_D A (wd_X5_takeBehindClause cI cZ cR a_t a_t_text a_t_code a_t_waiting t_length (r5.1) ((r5.2.2.1) - (1 : Int32)) t_fault t_faultPlace t_at t_place t_sign t_number (5 : Int32) t_name t_compared ((r5.2.1) - (1 : Int32)) (t_parentheses - (1 : Int32)) (r5.2.2.2) t_waiting_r) := hD
          refine lv_goto (tgt := 133) hx hb dX5_takeBehindClause_96 (by decide) ?_
          cases hf
          exact retv X hK hP hD hS dX5_takeBehindClause_133
    · have hf := ipos c2 hf
      exact w_X5_takeBehindClause_18 X hK hA t_codes t_fault t_faultPlace t_open t_parentheses t_state t_waits t_code_r t_waiting_r hf _ _ hP hD hS _ (lv_sub hl [0] rfl)

abbrev wd_X5_takeBehindUnit (cI cZ cR : ClassId) (a_t a_t_text a_t_code a_t_waiting : Nat) (t_length t_codes t_waits t_fault t_faultPlace t_at t_place t_sign t_number t_state t_name t_compared t_open t_parentheses : Int32) (t_code_r : Nat → Int32) (t_waiting_r : Nat → Int32) : va_W := [(a_t, oB 5 [.ref a_t_text, .ref a_t_code, .ref a_t_waiting, .int t_length, .int t_codes, .int t_waits, .int t_fault, .int t_faultPlace, .int t_at, .int t_place, .int t_sign, .int t_number, .int t_state, .int t_name, .int t_compared, .int t_open, .int t_parentheses]), (a_t_code, aI cI 400 t_code_r), (a_t_waiting, aI cI 40 t_waiting_r)]
set_option maxRecDepth 100000 in
theorem in_X5_takeBehindUnit_X5 : ∀ w ∈ wsX50, w ∈ wsX5_takeBehindUnit := by decide +kernel
set_option maxHeartbeats 4000000 in
set_option maxRecDepth 100000 in
theorem c_X5_takeBehindUnit (l : Launch) (D : va_G) (cI cZ cR : ClassId) {a_t a_t_text a_t_code a_t_waiting : Nat} {t_length : Int32} {t_codes : Int32} {t_waits : Int32} {t_fault : Int32} {t_faultPlace : Int32} {t_at : Int32} {t_place : Int32} {t_sign : Int32} {t_number : Int32} {t_state : Int32} {t_name : Int32} {t_compared : Int32} {t_open : Int32} {t_parentheses : Int32} {t_code_r : Nat → Int32} {t_waiting_r : Nat → Int32} {sz : Nat} {out : Int32 × Int32 × Int32 × Int32 × Int32 × Int32 × Int32 × (Nat → Int32) × (Nat → Int32)} (hf : F_X5_takeBehindUnit t_codes t_compared t_fault t_faultPlace t_open t_place t_sign t_state t_waits t_code_r t_waiting_r = some out) : CV l yX5_takeBehindUnit wsX5_takeBehindUnit ({ frames := 3, cells := 0, slots := 0, locals := 66 } : Room) D cI cZ cR [.ref a_t] (wd_X5_takeBehindUnit cI cZ cR a_t a_t_text a_t_code a_t_waiting t_length t_codes t_waits t_fault t_faultPlace t_at t_place t_sign t_number t_state t_name t_compared t_open t_parentheses t_code_r t_waiting_r) sz (wd_X5_takeBehindUnit cI cZ cR a_t a_t_text a_t_code a_t_waiting t_length (out.1) (out.2.2.2.2.2.2.1) (out.2.2.1) (out.2.2.2.1) t_at t_place t_sign t_number (out.2.2.2.2.2.1) t_name (out.2.1) (out.2.2.2.2.1) t_parentheses (out.2.2.2.2.2.2.2.1) (out.2.2.2.2.2.2.2.2)) := by
  refine met_of (Qf := fun A => qv D cI cZ cR A (wd_X5_takeBehindUnit cI cZ cR a_t a_t_text a_t_code a_t_waiting t_length (out.1) (out.2.2.2.2.2.2.1) (out.2.2.1) (out.2.2.2.1) t_at t_place t_sign t_number (out.2.2.2.2.2.1) t_name (out.2.1) (out.2.2.2.2.1) t_parentheses (out.2.2.2.2.2.2.2.1) (out.2.2.2.2.2.2.2.2))) RX5 (by decide +kernel) rfl rfl (Nat.le_of_ble_eq_true rfl) ?_
  intro p e s m below meth c A X hK hA hP hD hS ls hl
  have hl : lv_has ls 1 [(0, .ref a_t)] := hl
  obtain ⟨hx, hb, hml, hr, hown, hts, hlocks, hN⟩ := id X
  unfold F_X5_takeBehindUnit at hf
  refine lv_aload_n hx hb dX5_takeBehindUnit_0 rfl (lv_at hl 0 rfl) ?_
  refine va_get (D := D) (ci := 5) (v := .int t_sign) (C := RX5) (T := TX5) (N := 17) hx hb hts in_X5_takeBehindUnit_X5 hown hK hP 0 rfl rfl 10 (by decide) (hts (.fieldLink RX5 64 "DivisionHall$Reader" "sign" "I") (by decide +kernel)) (fun _ h9 => h9) rfl dX5_takeBehindUnit_1 ?_
  obtain ⟨r1, hr2, hf⟩ := bnd hf
  refine wcalli (D := D) (cI := cI) (cZ := cZ) (cR := cR) (wc := (wd_X8_isSum cI cZ cR)) (w' := (wd_X8_isSum cI cZ cR)) [] hP hD hS hA rfl rfl rfl (rnS (As := [.int t_sign]) X [] hK hP hD rfl rfl (c_X8_isSum l D cI cZ cR hr2) ⟨callB_of 1 hts ggX5_takeBehindUnit_X8_isSum rfl rfl rfl (hts (.initialized RX8) (by decide +kernel)) (hts (.methodLink RX5 125 yX8_isSum) (by decide +kernel)) (by decide +kernel) ⟨Nat.le_of_ble_eq_true rfl, Nat.le_of_ble_eq_true rfl⟩, hts (.static yX8_isSum) (by decide +kernel)⟩ rfl hl.1 rfl (Nat.le_of_ble_eq_true rfl) dX5_takeBehindUnit_4) (fun H locs hP hD hS => ?_)
  have hP : va_P D vwCl (wd_X5_takeBehindUnit cI cZ cR a_t a_t_text a_t_code a_t_waiting t_length t_codes t_waits t_fault t_faultPlace t_at t_place t_sign t_number t_state t_name t_compared t_open t_parentheses t_code_r t_waiting_r) H := hP
  have hD : va_D A (wd_X5_takeBehindUnit cI cZ cR a_t a_t_text a_t_code a_t_waiting t_length t_codes t_waits t_fault t_faultPlace t_at t_place t_sign t_number t_state t_name t_compared t_open t_parentheses t_code_r t_waiting_r) := hD
  refine lv_if_eq (tgt := 33) hx hb dX5_takeBehindUnit_7 (by decide) (fun c3 => ?_) (fun c3 => ?_)
  · have hf := ipos c3 hf
    refine lv_aload_n hx hb dX5_takeBehindUnit_33 rfl (lv_at hl 0 rfl) ?_
    refine va_get (D := D) (ci := 5) (v := .int t_sign) (C := RX5) (T := TX5) (N := 17) hx hb hts in_X5_takeBehindUnit_X5 hown hK hP 0 rfl rfl 10 (by decide) (hts (.fieldLink RX5 64 "DivisionHall$Reader" "sign" "I") (by decide +kernel)) (fun _ h9 => h9) rfl dX5_takeBehindUnit_34 ?_
    obtain ⟨r4, hr5, hf⟩ := bnd hf
    refine wcalli (D := D) (cI := cI) (cZ := cZ) (cR := cR) (wc := (wd_X8_isComparison cI cZ cR)) (w' := (wd_X8_isComparison cI cZ cR)) [] hP hD hS hA rfl rfl rfl (rnS (As := [.int t_sign]) X [] hK hP hD rfl rfl (c_X8_isComparison l D cI cZ cR hr5) ⟨callB_of 1 hts ggX5_takeBehindUnit_X8_isComparison rfl rfl rfl (hts (.initialized RX8) (by decide +kernel)) (hts (.methodLink RX5 162 yX8_isComparison) (by decide +kernel)) (by decide +kernel) ⟨Nat.le_of_ble_eq_true rfl, Nat.le_of_ble_eq_true rfl⟩, hts (.static yX8_isComparison) (by decide +kernel)⟩ rfl hl.1 rfl (Nat.le_of_ble_eq_true rfl) dX5_takeBehindUnit_37) (fun H locs hP hD hS => ?_)
    have hP : va_P D vwCl (wd_X5_takeBehindUnit cI cZ cR a_t a_t_text a_t_code a_t_waiting t_length t_codes t_waits t_fault t_faultPlace t_at t_place t_sign t_number t_state t_name t_compared t_open t_parentheses t_code_r t_waiting_r) H := hP
    have hD : va_D A (wd_X5_takeBehindUnit cI cZ cR a_t a_t_text a_t_code a_t_waiting t_length t_codes t_waits t_fault t_faultPlace t_at t_place t_sign t_number t_state t_name t_compared t_open t_parentheses t_code_r t_waiting_r) := hD
    refine lv_if_eq (tgt := 71) hx hb dX5_takeBehindUnit_40 (by decide) (fun c6 => ?_) (fun c6 => ?_)
    · have hf := ipos c6 hf
      refine lv_aload_n hx hb dX5_takeBehindUnit_71 rfl (lv_at hl 0 rfl) ?_
      refine lv_iconst (v := (1 : Int32)) hx hb dX5_takeBehindUnit_72 (by decide) ?_
      obtain ⟨r7, hr8, hf⟩ := bnd hf
      refine wcallv (D := D) (cI := cI) (cZ := cZ) (cR := cR) (wc := (wd_X5_stop cI cZ cR a_t a_t_text a_t_code a_t_waiting t_length t_codes t_waits t_fault t_faultPlace t_at t_place t_sign t_number t_state t_name t_compared t_open t_parentheses)) (w' := (wd_X5_stop cI cZ cR a_t a_t_text a_t_code a_t_waiting t_length t_codes t_waits (r7.1) (r7.2.1) t_at t_place t_sign t_number (r7.2.2) t_name t_compared t_open t_parentheses)) [0] hP hD hS hA rfl rfl rfl (rnV (As := [.int (1 : Int32)]) (ci := 5) (q0 := 0) X [0] hK hP hD rfl rfl rfl rfl (c_X5_stop l D cI cZ cR hr8) (cwV 1 hts gX5_takeBehindUnit_X5_stop rfl rfl rfl (by decide +kernel) ⟨Nat.le_of_ble_eq_true rfl, Nat.le_of_ble_eq_true rfl⟩) rfl hl.1 rfl (Nat.le_of_ble_eq_true rfl) dX5_takeBehindUnit_73) (fun H locs hP hD hS => ?_)
      have hP : va_P D vwCl (wd_X5_takeBehindUnit cI cZ cR a_t a_t_text a_t_code a_t_waiting t_length t_codes t_waits (r7.1) (r7.2.1) t_at t_place t_sign t_number (r7.2.2) t_name t_compared t_open t_parentheses t_code_r t_waiting_r) H := hP
      have hD : va_D A (wd_X5_takeBehindUnit cI cZ cR a_t a_t_text a_t_code a_t_waiting t_length t_codes t_waits (r7.1) (r7.2.1) t_at t_place t_sign t_number (r7.2.2) t_name t_compared t_open t_parentheses t_code_r t_waiting_r) := hD
      cases hf
      exact retv X hK hP hD hS dX5_takeBehindUnit_76
    · have hf := ineg c6 hf
      refine lv_aload_n hx hb dX5_takeBehindUnit_43 rfl (lv_at hl 0 rfl) ?_
      refine lv_aload_n hx hb dX5_takeBehindUnit_44 rfl (lv_at hl 0 rfl) ?_
      refine va_get (D := D) (ci := 5) (v := .int t_sign) (C := RX5) (T := TX5) (N := 17) hx hb hts in_X5_takeBehindUnit_X5 hown hK hP 0 rfl rfl 10 (by decide) (hts (.fieldLink RX5 64 "DivisionHall$Reader" "sign" "I") (by decide +kernel)) (fun _ h9 => h9) rfl dX5_takeBehindUnit_45 ?_
      obtain ⟨r9, hr10, hf⟩ := bnd hf
      refine wcalli (D := D) (cI := cI) (cZ := cZ) (cR := cR) (wc := (wd_X8_rank cI cZ cR)) (w' := (wd_X8_rank cI cZ cR)) [] hP hD hS hA rfl rfl rfl (rnS (As := [.int t_sign]) X [] hK hP hD rfl rfl (c_X8_rank l D cI cZ cR hr10) ⟨callB_of 1 hts ggX5_takeBehindUnit_X8_rank rfl rfl rfl (hts (.initialized RX8) (by decide +kernel)) (hts (.methodLink RX5 156 yX8_rank) (by decide +kernel)) (by decide +kernel) ⟨Nat.le_of_ble_eq_true rfl, Nat.le_of_ble_eq_true rfl⟩, hts (.static yX8_rank) (by decide +kernel)⟩ rfl hl.1 rfl (Nat.le_of_ble_eq_true rfl) dX5_takeBehindUnit_48) (fun H locs hP hD hS => ?_)
      have hP : va_P D vwCl (wd_X5_takeBehindUnit cI cZ cR a_t a_t_text a_t_code a_t_waiting t_length t_codes t_waits t_fault t_faultPlace t_at t_place t_sign t_number t_state t_name t_compared t_open t_parentheses t_code_r t_waiting_r) H := hP
      have hD : va_D A (wd_X5_takeBehindUnit cI cZ cR a_t a_t_text a_t_code a_t_waiting t_length t_codes t_waits t_fault t_faultPlace t_at t_place t_sign t_number t_state t_name t_compared t_open t_parentheses t_code_r t_waiting_r) := hD
      obtain ⟨r11, hr12, hf⟩ := bnd hf
      refine wcallvA (D := D) (cI := cI) (cZ := cZ) (cR := cR) (wc := (wd_X5_release cI cZ cR a_t a_t_text a_t_code a_t_waiting t_length t_codes t_waits t_fault t_faultPlace t_at t_place t_sign t_number t_state t_name t_compared t_open t_parentheses t_code_r t_waiting_r)) (w' := (wd_X5_release cI cZ cR a_t a_t_text a_t_code a_t_waiting t_length (r11.1) (r11.2.2.1) t_fault t_faultPlace t_at t_place t_sign t_number t_state t_name t_compared (r11.2.1) t_parentheses (r11.2.2.2) t_waiting_r)) hP hD hS hA rfl (rnVA (As := [.int r9]) (ci := 5) (q0 := 0) X hK hP hD rfl rfl (c_X5_release l D cI cZ cR hr12) (cwV 1 hts gX5_takeBehindUnit_X5_release rfl rfl rfl (by decide +kernel) ⟨Nat.le_of_ble_eq_true rfl, Nat.le_of_ble_eq_true rfl⟩) rfl hl.1 rfl (Nat.le_of_ble_eq_true rfl) dX5_takeBehindUnit_51) (fun H locs hP hD hS => ?_)
      have hP : va_P D vwCl (wd_X5_takeBehindUnit cI cZ cR a_t a_t_text a_t_code a_t_waiting t_length (r11.1) (r11.2.2.1) t_fault t_faultPlace t_at t_place t_sign t_number t_state t_name t_compared (r11.2.1) t_parentheses (r11.2.2.2) t_waiting_r) H := hP
      have hD : va_D A (wd_X5_takeBehindUnit cI cZ cR a_t a_t_text a_t_code a_t_waiting t_length (r11.1) (r11.2.2.1) t_fault t_faultPlace t_at t_place t_sign t_number t_state t_name t_compared (r11.2.1) t_parentheses (r11.2.2.2) t_waiting_r) := hD
      refine lv_aload_n hx hb dX5_takeBehindUnit_54 rfl (lv_at hl 0 rfl) ?_
      obtain ⟨r13, hr14, hf⟩ := bnd hf
      refine wcallv (D := D) (cI := cI) (cZ := cZ) (cR := cR) (wc := (wd_X5_push cI cZ cR a_t a_t_text a_t_code a_t_waiting t_length (r11.1) (r11.2.2.1) t_fault t_faultPlace t_at t_place t_sign t_number t_state t_name t_compared (r11.2.1) t_parentheses t_waiting_r)) (w' := (wd_X5_push cI cZ cR a_t a_t_text a_t_code a_t_waiting t_length (r11.1) (r13.1) t_fault t_faultPlace t_at t_place t_sign t_number t_state t_name t_compared (r11.2.1) t_parentheses (r13.2))) [0, 2] hP hD hS hA rfl rfl rfl (rnV (As := []) (ci := 5) (q0 := 0) X [0, 2] hK hP hD rfl rfl rfl rfl (c_X5_push l D cI cZ cR hr14) (cwV 0 hts gX5_takeBehindUnit_X5_push rfl rfl rfl (by decide +kernel) ⟨Nat.le_of_ble_eq_true rfl, Nat.le_of_ble_eq_true rfl⟩) rfl hl.1 rfl (Nat.le_of_ble_eq_true rfl) dX5_takeBehindUnit_55) (fun H locs hP hD hS => ?_)
      have hP : va_P D vwCl (wd_X5_takeBehindUnit cI cZ cR a_t a_t_text a_t_code a_t_waiting t_length (r11.1) (r13.1) t_fault t_faultPlace t_at t_place t_sign t_number t_state t_name t_compared (r11.2.1) t_parentheses (r11.2.2.2) (r13.2)) H := hP
      have hD : va_D A (wd_X5_takeBehindUnit cI cZ cR a_t a_t_text a_t_code a_t_waiting t_length (r11.1) (r13.1) t_fault t_faultPlace t_at t_place t_sign t_number t_state t_name t_compared (r11.2.1) t_parentheses (r11.2.2.2) (r13.2)) := hD
      refine lv_aload_n hx hb dX5_takeBehindUnit_58 rfl (lv_at hl 0 rfl) ?_
      refine lv_iconst (v := (1 : Int32)) hx hb dX5_takeBehindUnit_59 (by decide) ?_
      refine va_put (D := D) (ci := 5) (v := .int (1 : Int32)) (ty := .boolean) (C := RX5) (T := TX5) (N := 17) hx hb hts in_X5_takeBehindUnit_X5 tyX5 tyX5_ok nmX5 hown hK hP hD hS 0 rfl rfl 14 (by decide) (hts (.fieldLink RX5 40 "DivisionHall$Reader" "compared" "Z") (by decide +kernel)) (fun _ h9 => h9) rfl (by decide +kernel) rfl rfl (Nat.le_of_ble_eq_true rfl) dX5_takeBehindUnit_60 (fun H locs hP hD hS => ?_)
      have hP : va_P D vwCl (wd_X5_takeBehindUnit cI cZ cR a_t a_t_text a_t_code a_t_waiting t_length (r11.1) (r13.1) t_fault t_faultPlace t_at t_place t_sign t_number t_state t_name (1 : Int32) (r11.2.1) t_parentheses (r11.2.2.2) (r13.2)) H := hP
      have hD : va_D A (wd_X5_takeBehindUnit cI cZ cR a_t a_t_text a_t_code a_t_waiting t_length (r11.1) (r13.1) t_fault t_faultPlace t_at t_place t_sign t_number t_state t_name (1 : Int32) (r11.2.1) t_parentheses (r11.2.2.2) (r13.2)) := hD
      refine lv_aload_n hx hb dX5_takeBehindUnit_63 rfl (lv_at hl 0 rfl) ?_
      refine lv_iconst (v := (1 : Int32)) hx hb dX5_takeBehindUnit_64 (by decide) ?_
      refine va_put (D := D) (ci := 5) (v := .int (1 : Int32)) (ty := .int) (C := RX5) (T := TX5) (N := 17) hx hb hts in_X5_takeBehindUnit_X5 tyX5 tyX5_ok nmX5 hown hK hP hD hS 0 rfl rfl 12 (by decide) (hts (.fieldLink RX5 50 "DivisionHall$Reader" "state" "I") (by decide +kernel)) (fun _ h9 => h9) rfl (by decide +kernel) rfl rfl (Nat.le_of_ble_eq_true rfl) dX5_takeBehindUnit_65 (fun H locs hP hD hS => ?_)
      have hP : va_P D vwCl (wd_X5_takeBehindUnit cI cZ cR a_t a_t_text a_t_code a_t_waiting t_length (r11.1) (r13.1) t_fault t_faultPlace t_at t_place t_sign t_number (1 : Int32) t_name (1 : Int32) (r11.2.1) t_parentheses (r11.2.2.2) (r13.2)) H := hP
      have hD : va_D A (wd_X5_takeBehindUnit cI cZ cR a_t a_t_text a_t_code a_t_waiting t_length (r11.1) (r13.1) t_fault t_faultPlace t_at t_place t_sign t_number (1 : Int32) t_name (1 : Int32) (r11.2.1) t_parentheses (r11.2.2.2) (r13.2)) := hD
      refine lv_goto (tgt := 76) hx hb dX5_takeBehindUnit_68 (by decide) ?_
      cases hf
      exact retv X hK hP hD hS dX5_takeBehindUnit_76
  · have hf := ineg c3 hf
    refine lv_aload_n hx hb dX5_takeBehindUnit_10 rfl (lv_at hl 0 rfl) ?_
    refine lv_aload_n hx hb dX5_takeBehindUnit_11 rfl (lv_at hl 0 rfl) ?_
    refine va_get (D := D) (ci := 5) (v := .int t_sign) (C := RX5) (T := TX5) (N := 17) hx hb hts in_X5_takeBehindUnit_X5 hown hK hP 0 rfl rfl 10 (by decide) (hts (.fieldLink RX5 64 "DivisionHall$Reader" "sign" "I") (by decide +kernel)) (fun _ h9 => h9) rfl dX5_takeBehindUnit_12 ?_
    obtain ⟨r15, hr16, hf⟩ := bnd hf
    refine wcalli (D := D) (cI := cI) (cZ := cZ) (cR := cR) (wc := (wd_X8_rank cI cZ cR)) (w' := (wd_X8_rank cI cZ cR)) [] hP hD hS hA rfl rfl rfl (rnS (As := [.int t_sign]) X [] hK hP hD rfl rfl (c_X8_rank l D cI cZ cR hr16) ⟨callB_of 1 hts ggX5_takeBehindUnit_X8_rank rfl rfl rfl (hts (.initialized RX8) (by decide +kernel)) (hts (.methodLink RX5 156 yX8_rank) (by decide +kernel)) (by decide +kernel) ⟨Nat.le_of_ble_eq_true rfl, Nat.le_of_ble_eq_true rfl⟩, hts (.static yX8_rank) (by decide +kernel)⟩ rfl hl.1 rfl (Nat.le_of_ble_eq_true rfl) dX5_takeBehindUnit_15) (fun H locs hP hD hS => ?_)
    have hP : va_P D vwCl (wd_X5_takeBehindUnit cI cZ cR a_t a_t_text a_t_code a_t_waiting t_length t_codes t_waits t_fault t_faultPlace t_at t_place t_sign t_number t_state t_name t_compared t_open t_parentheses t_code_r t_waiting_r) H := hP
    have hD : va_D A (wd_X5_takeBehindUnit cI cZ cR a_t a_t_text a_t_code a_t_waiting t_length t_codes t_waits t_fault t_faultPlace t_at t_place t_sign t_number t_state t_name t_compared t_open t_parentheses t_code_r t_waiting_r) := hD
    obtain ⟨r17, hr18, hf⟩ := bnd hf
    refine wcallvA (D := D) (cI := cI) (cZ := cZ) (cR := cR) (wc := (wd_X5_release cI cZ cR a_t a_t_text a_t_code a_t_waiting t_length t_codes t_waits t_fault t_faultPlace t_at t_place t_sign t_number t_state t_name t_compared t_open t_parentheses t_code_r t_waiting_r)) (w' := (wd_X5_release cI cZ cR a_t a_t_text a_t_code a_t_waiting t_length (r17.1) (r17.2.2.1) t_fault t_faultPlace t_at t_place t_sign t_number t_state t_name t_compared (r17.2.1) t_parentheses (r17.2.2.2) t_waiting_r)) hP hD hS hA rfl (rnVA (As := [.int r15]) (ci := 5) (q0 := 0) X hK hP hD rfl rfl (c_X5_release l D cI cZ cR hr18) (cwV 1 hts gX5_takeBehindUnit_X5_release rfl rfl rfl (by decide +kernel) ⟨Nat.le_of_ble_eq_true rfl, Nat.le_of_ble_eq_true rfl⟩) rfl hl.1 rfl (Nat.le_of_ble_eq_true rfl) dX5_takeBehindUnit_18) (fun H locs hP hD hS => ?_)
    have hP : va_P D vwCl (wd_X5_takeBehindUnit cI cZ cR a_t a_t_text a_t_code a_t_waiting t_length (r17.1) (r17.2.2.1) t_fault t_faultPlace t_at t_place t_sign t_number t_state t_name t_compared (r17.2.1) t_parentheses (r17.2.2.2) t_waiting_r) H := hP
    have hD : va_D A (wd_X5_takeBehindUnit cI cZ cR a_t a_t_text a_t_code a_t_waiting t_length (r17.1) (r17.2.2.1) t_fault t_faultPlace t_at t_place t_sign t_number t_state t_name t_compared (r17.2.1) t_parentheses (r17.2.2.2) t_waiting_r) := hD
    refine lv_aload_n hx hb dX5_takeBehindUnit_21 rfl (lv_at hl 0 rfl) ?_
    obtain ⟨r19, hr20, hf⟩ := bnd hf
    refine wcallv (D := D) (cI := cI) (cZ := cZ) (cR := cR) (wc := (wd_X5_push cI cZ cR a_t a_t_text a_t_code a_t_waiting t_length (r17.1) (r17.2.2.1) t_fault t_faultPlace t_at t_place t_sign t_number t_state t_name t_compared (r17.2.1) t_parentheses t_waiting_r)) (w' := (wd_X5_push cI cZ cR a_t a_t_text a_t_code a_t_waiting t_length (r17.1) (r19.1) t_fault t_faultPlace t_at t_place t_sign t_number t_state t_name t_compared (r17.2.1) t_parentheses (r19.2))) [0, 2] hP hD hS hA rfl rfl rfl (rnV (As := []) (ci := 5) (q0 := 0) X [0, 2] hK hP hD rfl rfl rfl rfl (c_X5_push l D cI cZ cR hr20) (cwV 0 hts gX5_takeBehindUnit_X5_push rfl rfl rfl (by decide +kernel) ⟨Nat.le_of_ble_eq_true rfl, Nat.le_of_ble_eq_true rfl⟩) rfl hl.1 rfl (Nat.le_of_ble_eq_true rfl) dX5_takeBehindUnit_22) (fun H locs hP hD hS => ?_)
    have hP : va_P D vwCl (wd_X5_takeBehindUnit cI cZ cR a_t a_t_text a_t_code a_t_waiting t_length (r17.1) (r19.1) t_fault t_faultPlace t_at t_place t_sign t_number t_state t_name t_compared (r17.2.1) t_parentheses (r17.2.2.2) (r19.2)) H := hP
    have hD : va_D A (wd_X5_takeBehindUnit cI cZ cR a_t a_t_text a_t_code a_t_waiting t_length (r17.1) (r19.1) t_fault t_faultPlace t_at t_place t_sign t_number t_state t_name t_compared (r17.2.1) t_parentheses (r17.2.2.2) (r19.2)) := hD
    refine lv_aload_n hx hb dX5_takeBehindUnit_25 rfl (lv_at hl 0 rfl) ?_
    refine lv_iconst (v := (1 : Int32)) hx hb dX5_takeBehindUnit_26 (by decide) ?_
    refine va_put (D := D) (ci := 5) (v := .int (1 : Int32)) (ty := .int) (C := RX5) (T := TX5) (N := 17) hx hb hts in_X5_takeBehindUnit_X5 tyX5 tyX5_ok nmX5 hown hK hP hD hS 0 rfl rfl 12 (by decide) (hts (.fieldLink RX5 50 "DivisionHall$Reader" "state" "I") (by decide +kernel)) (fun _ h9 => h9) rfl (by decide +kernel) rfl rfl (Nat.le_of_ble_eq_true rfl) dX5_takeBehindUnit_27 (fun H locs hP hD hS => ?_)
    have hP : va_P D vwCl (wd_X5_takeBehindUnit cI cZ cR a_t a_t_text a_t_code a_t_waiting t_length (r17.1) (r19.1) t_fault t_faultPlace t_at t_place t_sign t_number (1 : Int32) t_name t_compared (r17.2.1) t_parentheses (r17.2.2.2) (r19.2)) H := hP
    have hD : va_D A (wd_X5_takeBehindUnit cI cZ cR a_t a_t_text a_t_code a_t_waiting t_length (r17.1) (r19.1) t_fault t_faultPlace t_at t_place t_sign t_number (1 : Int32) t_name t_compared (r17.2.1) t_parentheses (r17.2.2.2) (r19.2)) := hD
    refine lv_goto (tgt := 76) hx hb dX5_takeBehindUnit_30 (by decide) ?_
    cases hf
    exact retv X hK hP hD hS dX5_takeBehindUnit_76

abbrev wd_X5_takeOpening (cI cZ cR : ClassId) (a_t a_t_text a_t_code a_t_waiting : Nat) (t_length t_codes t_waits t_fault t_faultPlace t_at t_place t_sign t_number t_state t_name t_compared t_open t_parentheses : Int32) (t_waiting_r : Nat → Int32) : va_W := [(a_t, oB 5 [.ref a_t_text, .ref a_t_code, .ref a_t_waiting, .int t_length, .int t_codes, .int t_waits, .int t_fault, .int t_faultPlace, .int t_at, .int t_place, .int t_sign, .int t_number, .int t_state, .int t_name, .int t_compared, .int t_open, .int t_parentheses]), (a_t_waiting, aI cI 40 t_waiting_r)]
set_option maxRecDepth 100000 in
theorem in_X5_takeOpening_X5 : ∀ w ∈ wsX50, w ∈ wsX5_takeOpening := by decide +kernel
set_option maxHeartbeats 4000000 in
set_option maxRecDepth 100000 in
theorem w_X5_takeOpening_43 {p : Program} {l : Launch} {e : Env} {s : State} {m : MethodId} {args : Array Value} {below : List Frame} {meth : Method} {c : Code} {D : va_G} {cI cZ cR : ClassId} {A : Nat → Prop} {a_t a_t_text a_t_code a_t_waiting : Nat} {t_length : Int32} {t_codes : Int32} {t_at : Int32} {t_place : Int32} {t_sign : Int32} {t_number : Int32} {t_name : Int32} {t_compared : Int32} {out : Int32 × Int32 × Int32 × Int32 × Int32 × Int32 × (Nat → Int32)} (X : cx p s m args meth c cX5_takeOpening 1 none RX5 wsX5_takeOpening) (hK : va_K D vwCl (ty3 cI cZ cR) s) (hA : ∀ q, s.heap.size ≤ q → A q) : ∀ (t_fault : Int32) (t_faultPlace : Int32) (t_open : Int32) (t_parentheses : Int32) (t_state : Int32) (t_waits : Int32) (t_waiting_r : Nat → Int32), F_X5_takeOpening_43 t_place t_sign t_fault t_faultPlace t_open t_parentheses t_state t_waits t_waiting_r = some out → ∀ (H : Heap) (locs : List Loc), va_P D vwCl (wd_X5_takeOpening cI cZ cR a_t a_t_text a_t_code a_t_waiting t_length t_codes t_waits t_fault t_faultPlace t_at t_place t_sign t_number t_state t_name t_compared t_open t_parentheses t_waiting_r) H → va_D A (wd_X5_takeOpening cI cZ cR a_t a_t_text a_t_code a_t_waiting t_length t_codes t_waits t_fault t_faultPlace t_at t_place t_sign t_number t_state t_name t_compared t_open t_parentheses t_waiting_r) → va_S A s.heap H locs → ∀ (ls : Array Slot), lv_has ls 1 [(0, .ref a_t)] → W p l e (headSpec wsX5_takeOpening ({ frames := 2, cells := 0, slots := 0, locals := 41 } : Room)).room s m args below meth c H locs 0 0 (MQ below (qv D cI cZ cR A (wd_X5_takeOpening cI cZ cR a_t a_t_text a_t_code a_t_waiting t_length t_codes (out.2.2.2.2.2.1) (out.1) (out.2.1) t_at t_place t_sign t_number (out.2.2.2.2.1) t_name t_compared (out.2.2.1) (out.2.2.2.1) (out.2.2.2.2.2.2))) args s 0 0 A) (F0 m 43 ls []) := by
  obtain ⟨hx, hb, hml, hr, hown, hts, hlocks, hN⟩ := id X
  intro t_fault t_faultPlace t_open t_parentheses t_state t_waits t_waiting_r hf H locs hP hD hS ls hl
  unfold F_X5_takeOpening_43 at hf
  refine lv_aload_n hx hb dX5_takeOpening_43 rfl (lv_at hl 0 rfl) ?_
  obtain ⟨r5, hr6, hf⟩ := bnd hf
  refine wcallvA (D := D) (cI := cI) (cZ := cZ) (cR := cR) (wc := (wd_X5_push cI cZ cR a_t a_t_text a_t_code a_t_waiting t_length t_codes t_waits t_fault t_faultPlace t_at t_place t_sign t_number t_state t_name t_compared t_open t_parentheses t_waiting_r)) (w' := (wd_X5_push cI cZ cR a_t a_t_text a_t_code a_t_waiting t_length t_codes (r5.1) t_fault t_faultPlace t_at t_place t_sign t_number t_state t_name t_compared t_open t_parentheses (r5.2))) hP hD hS hA rfl (rnVA (As := []) (ci := 5) (q0 := 0) X hK hP hD rfl rfl (c_X5_push l D cI cZ cR hr6) (cwV 0 hts gX5_takeOpening_X5_push rfl rfl rfl (by decide +kernel) ⟨Nat.le_of_ble_eq_true rfl, Nat.le_of_ble_eq_true rfl⟩) rfl hl.1 rfl (Nat.le_of_ble_eq_true rfl) dX5_takeOpening_44) (fun H locs hP hD hS => ?_)
  have hP : va_P D vwCl (wd_X5_takeOpening cI cZ cR a_t a_t_text a_t_code a_t_waiting t_length t_codes (r5.1) t_fault t_faultPlace t_at t_place t_sign t_number t_state t_name t_compared t_open t_parentheses (r5.2)) H := hP
  have hD : va_D A (wd_X5_takeOpening cI cZ cR a_t a_t_text a_t_code a_t_waiting t_length t_codes (r5.1) t_fault t_faultPlace t_at t_place t_sign t_number t_state t_name t_compared t_open t_parentheses (r5.2)) := hD
  refine lv_aload_n hx hb dX5_takeOpening_47 rfl (lv_at hl 0 rfl) ?_
  refine lv_iconst (v := (0 : Int32)) hx hb dX5_takeOpening_48 (by decide) ?_
  refine va_put (D := D) (ci := 5) (v := .int (0 : Int32)) (ty := .int) (C := RX5) (T := TX5) (N := 17) hx hb hts in_X5_takeOpening_X5 tyX5 tyX5_ok nmX5 hown hK hP hD hS 0 rfl rfl 12 (by decide) (hts (.fieldLink RX5 50 "DivisionHall$Reader" "state" "I") (by decide +kernel)) (fun _ h9 => h9) rfl (by decide +kernel) rfl rfl (Nat.le_of_ble_eq_true rfl) dX5_takeOpening_49 (fun H locs hP hD hS => ?_)
  have hP : va_P D vwCl (wd_X5_takeOpening cI cZ cR a_t a_t_text a_t_code a_t_waiting t_length t_codes (r5.1) t_fault t_faultPlace t_at t_place t_sign t_number (0 : Int32) t_name t_compared t_open t_parentheses (r5.2)) H := hP
  have hD : va_D A (wd_X5_takeOpening cI cZ cR a_t a_t_text a_t_code a_t_waiting t_length t_codes (r5.1) t_fault t_faultPlace t_at t_place t_sign t_number (0 : Int32) t_name t_compared t_open t_parentheses (r5.2)) := hD
  cases hf
  exact retv X hK hP hD hS dX5_takeOpening_52
set_option maxHeartbeats 4000000 in
set_option maxRecDepth 100000 in
theorem c_X5_takeOpening (l : Launch) (D : va_G) (cI cZ cR : ClassId) {a_t a_t_text a_t_code a_t_waiting : Nat} {t_length : Int32} {t_codes : Int32} {t_waits : Int32} {t_fault : Int32} {t_faultPlace : Int32} {t_at : Int32} {t_place : Int32} {t_sign : Int32} {t_number : Int32} {t_state : Int32} {t_name : Int32} {t_compared : Int32} {t_open : Int32} {t_parentheses : Int32} {t_waiting_r : Nat → Int32} {sz : Nat} {out : Int32 × Int32 × Int32 × Int32 × Int32 × Int32 × (Nat → Int32)} (hf : F_X5_takeOpening t_fault t_faultPlace t_open t_parentheses t_place t_sign t_state t_waits t_waiting_r = some out) : CV l yX5_takeOpening wsX5_takeOpening ({ frames := 2, cells := 0, slots := 0, locals := 41 } : Room) D cI cZ cR [.ref a_t] (wd_X5_takeOpening cI cZ cR a_t a_t_text a_t_code a_t_waiting t_length t_codes t_waits t_fault t_faultPlace t_at t_place t_sign t_number t_state t_name t_compared t_open t_parentheses t_waiting_r) sz (wd_X5_takeOpening cI cZ cR a_t a_t_text a_t_code a_t_waiting t_length t_codes (out.2.2.2.2.2.1) (out.1) (out.2.1) t_at t_place t_sign t_number (out.2.2.2.2.1) t_name t_compared (out.2.2.1) (out.2.2.2.1) (out.2.2.2.2.2.2)) := by
  refine met_of (Qf := fun A => qv D cI cZ cR A (wd_X5_takeOpening cI cZ cR a_t a_t_text a_t_code a_t_waiting t_length t_codes (out.2.2.2.2.2.1) (out.1) (out.2.1) t_at t_place t_sign t_number (out.2.2.2.2.1) t_name t_compared (out.2.2.1) (out.2.2.2.1) (out.2.2.2.2.2.2))) RX5 (by decide +kernel) rfl rfl (Nat.le_of_ble_eq_true rfl) ?_
  intro p e s m below meth c A X hK hA hP hD hS ls hl
  have hl : lv_has ls 1 [(0, .ref a_t)] := hl
  obtain ⟨hx, hb, hml, hr, hown, hts, hlocks, hN⟩ := id X
  unfold F_X5_takeOpening at hf
  refine lv_aload_n hx hb dX5_takeOpening_0 rfl (lv_at hl 0 rfl) ?_
  refine va_get (D := D) (ci := 5) (v := .int t_open) (C := RX5) (T := TX5) (N := 17) hx hb hts in_X5_takeOpening_X5 hown hK hP 0 rfl rfl 15 (by decide) (hts (.fieldLink RX5 44 "DivisionHall$Reader" "open" "I") (by decide +kernel)) (fun _ h9 => h9) rfl dX5_takeOpening_1 ?_
  refine lv_bipush (v := (8 : Int32)) hx hb dX5_takeOpening_4 (by decide) ?_
  refine lv_icmp_lt (tgt := 15) hx hb dX5_takeOpening_6 (by decide) (fun c1 => ?_) (fun c1 => ?_)
  · have hf := ipos c1 hf
    refine lv_aload_n hx hb dX5_takeOpening_15 rfl (lv_at hl 0 rfl) ?_
    refine lv_dup hx hb dX5_takeOpening_16 rfl ?_
    refine va_get (D := D) (ci := 5) (v := .int t_open) (C := RX5) (T := TX5) (N := 17) hx hb hts in_X5_takeOpening_X5 hown hK hP 0 rfl rfl 15 (by decide) (hts (.fieldLink RX5 44 "DivisionHall$Reader" "open" "I") (by decide +kernel)) (fun _ h9 => h9) rfl dX5_takeOpening_17 ?_
    refine lv_iconst (v := (1 : Int32)) hx hb dX5_takeOpening_20 (by decide) ?_
    refine lv_iadd hx hb dX5_takeOpening_21 ?_
    refine va_put (D := D) (ci := 5) (v := .int (t_open + (1 : Int32))) (ty := .int) (C := RX5) (T := TX5) (N := 17) hx hb hts in_X5_takeOpening_X5 tyX5 tyX5_ok nmX5 hown hK hP hD hS 0 rfl rfl 15 (by decide) (hts (.fieldLink RX5 44 "DivisionHall$Reader" "open" "I") (by decide +kernel)) (fun _ h9 => h9) rfl (by decide +kernel) rfl rfl (Nat.le_of_ble_eq_true rfl) dX5_takeOpening_22 (fun H locs hP hD hS => ?_)
    have hP : va_P D vwCl (wd_X5_takeOpening cI cZ cR a_t a_t_text a_t_code a_t_waiting t_length t_codes t_waits t_fault t_faultPlace t_at t_place t_sign t_number t_state t_name t_compared (t_open + (1 : Int32)) t_parentheses t_waiting_r) H := hP
    have hD : va_D A (wd_X5_takeOpening cI cZ cR a_t a_t_text a_t_code a_t_waiting t_length t_codes t_waits t_fault t_faultPlace t_at t_place t_sign t_number t_state t_name t_compared (t_open + (1 : Int32)) t_parentheses t_waiting_r) := hD
    refine lv_aload_n hx hb dX5_takeOpening_25 rfl (lv_at hl 0 rfl) ?_
    refine va_get (D := D) (ci := 5) (v := .int t_sign) (C := RX5) (T := TX5) (N := 17) hx hb hts in_X5_takeOpening_X5 hown hK hP 0 rfl rfl 10 (by decide) (hts (.fieldLink RX5 64 "DivisionHall$Reader" "sign" "I") (by decide +kernel)) (fun _ h9 => h9) rfl dX5_takeOpening_26 ?_
    refine lv_iconst (v := (3 : Int32)) hx hb dX5_takeOpening_29 (by decide) ?_
    refine lv_icmp_ne (tgt := 43) hx hb dX5_takeOpening_30 (by decide) (fun c2 => ?_) (fun c2 => ?_)
    · have hf := ineg c2 hf
      exact w_X5_takeOpening_43 X hK hA t_fault t_faultPlace (t_open + (1 : Int32)) t_parentheses t_state t_waits t_waiting_r hf _ _ hP hD hS _ (lv_sub hl [0] rfl)
    · have hf := ipos c2 hf
      refine lv_aload_n hx hb dX5_takeOpening_33 rfl (lv_at hl 0 rfl) ?_
      refine lv_dup hx hb dX5_takeOpening_34 rfl ?_
      refine va_get (D := D) (ci := 5) (v := .int t_parentheses) (C := RX5) (T := TX5) (N := 17) hx hb hts in_X5_takeOpening_X5 hown hK hP 0 rfl rfl 16 (by decide) (hts (.fieldLink RX5 47 "DivisionHall$Reader" "parentheses" "I") (by decide +kernel)) (fun _ h9 => h9) rfl dX5_takeOpening_35 ?_
      refine lv_iconst (v := (1 : Int32)) hx hb dX5_takeOpening_38 (by decide) ?_
      refine lv_iadd hx hb dX5_takeOpening_39 ?_
      refine va_put (D := D) (ci := 5) (v := .int (t_parentheses + (1 : Int32))) (ty := .int) (C := RX5) (T := TX5) (N := 17) hx hb hts in_X5_takeOpening_X5 tyX5 tyX5_ok nmX5 hown hK hP hD hS 0 rfl rfl 16 (by decide) (hts (.fieldLink RX5 47 "DivisionHall$Reader" "parentheses" "I") (by decide +kernel)) (fun _ h9 => h9) rfl (by decide +kernel) rfl rfl (Nat.le_of_ble_eq_true rfl) dX5_takeOpening_40 (fun H locs hP hD hS => ?_)
      have hP : va_P D vwCl (wd_X5_takeOpening cI cZ cR a_t a_t_text a_t_code a_t_waiting t_length t_codes t_waits t_fault t_faultPlace t_at t_place t_sign t_number t_state t_name t_compared (t_open + (1 : Int32)) (t_parentheses + (1 : Int32)) t_waiting_r) H := hP
      have hD : va_D A (wd_X5_takeOpening cI cZ cR a_t a_t_text a_t_code a_t_waiting t_length t_codes t_waits t_fault t_faultPlace t_at t_place t_sign t_number t_state t_name t_compared (t_open + (1 : Int32)) (t_parentheses + (1 : Int32)) t_waiting_r) := hD
      exact w_X5_takeOpening_43 X hK hA t_fault t_faultPlace (t_open + (1 : Int32)) (t_parentheses + (1 : Int32)) t_state t_waits t_waiting_r hf _ _ hP hD hS _ (lv_sub hl [0] rfl)
  · have hf := ineg c1 hf
    refine lv_aload_n hx hb dX5_takeOpening_9 rfl (lv_at hl 0 rfl) ?_
    refine lv_iconst (v := (3 : Int32)) hx hb dX5_takeOpening_10 (by decide) ?_
    obtain ⟨r3, hr4, hf⟩ := bnd hf
    refine wcallv (D := D) (cI := cI) (cZ := cZ) (cR := cR) (wc := (wd_X5_stop cI cZ cR a_t a_t_text a_t_code a_t_waiting t_length t_codes t_waits t_fault t_faultPlace t_at t_place t_sign t_number t_state t_name t_compared t_open t_parentheses)) (w' := (wd_X5_stop cI cZ cR a_t a_t_text a_t_code a_t_waiting t_length t_codes t_waits (r3.1) (r3.2.1) t_at t_place t_sign t_number (r3.2.2) t_name t_compared t_open t_parentheses)) [0] hP hD hS hA rfl rfl rfl (rnV (As := [.int (3 : Int32)]) (ci := 5) (q0 := 0) X [0] hK hP hD rfl rfl rfl rfl (c_X5_stop l D cI cZ cR hr4) (cwV 1 hts gX5_takeOpening_X5_stop rfl rfl rfl (by decide +kernel) ⟨Nat.le_of_ble_eq_true rfl, Nat.le_of_ble_eq_true rfl⟩) rfl hl.1 rfl (Nat.le_of_ble_eq_true rfl) dX5_takeOpening_11) (fun H locs hP hD hS => ?_)
    have hP : va_P D vwCl (wd_X5_takeOpening cI cZ cR a_t a_t_text a_t_code a_t_waiting t_length t_codes t_waits (r3.1) (r3.2.1) t_at t_place t_sign t_number (r3.2.2) t_name t_compared t_open t_parentheses t_waiting_r) H := hP
    have hD : va_D A (wd_X5_takeOpening cI cZ cR a_t a_t_text a_t_code a_t_waiting t_length t_codes t_waits (r3.1) (r3.2.1) t_at t_place t_sign t_number (r3.2.2) t_name t_compared t_open t_parentheses t_waiting_r) := hD
    cases hf
    exact retv X hK hP hD hS dX5_takeOpening_14

abbrev wd_X5_takeUnit (cI cZ cR : ClassId) (a_t a_t_text a_t_code a_t_waiting : Nat) (t_length t_codes t_waits t_fault t_faultPlace t_at t_place t_sign t_number t_state t_name t_compared t_open t_parentheses : Int32) (t_code_r : Nat → Int32) : va_W := [(a_t, oB 5 [.ref a_t_text, .ref a_t_code, .ref a_t_waiting, .int t_length, .int t_codes, .int t_waits, .int t_fault, .int t_faultPlace, .int t_at, .int t_place, .int t_sign, .int t_number, .int t_state, .int t_name, .int t_compared, .int t_open, .int t_parentheses]), (a_t_code, aI cI 400 t_code_r)]
set_option maxRecDepth 100000 in
theorem in_X5_takeUnit_X5 : ∀ w ∈ wsX50, w ∈ wsX5_takeUnit := by decide +kernel
set_option maxHeartbeats 4000000 in
set_option maxRecDepth 100000 in
theorem w_X5_takeUnit_18 {p : Program} {l : Launch} {e : Env} {s : State} {m : MethodId} {args : Array Value} {below : List Frame} {meth : Method} {c : Code} {D : va_G} {cI cZ cR : ClassId} {A : Nat → Prop} {a_t a_t_text a_t_code a_t_waiting : Nat} {t_length : Int32} {t_waits : Int32} {t_at : Int32} {t_place : Int32} {t_sign : Int32} {t_number : Int32} {t_compared : Int32} {t_open : Int32} {t_parentheses : Int32} {out : Int32 × Int32 × Int32 × Int32 × Int32 × (Nat → Int32)} (X : cx p s m args meth c cX5_takeUnit 1 none RX5 wsX5_takeUnit) (hK : va_K D vwCl (ty3 cI cZ cR) s) (hA : ∀ q, s.heap.size ≤ q → A q) : ∀ (t_codes : Int32) (t_fault : Int32) (t_faultPlace : Int32) (t_name : Int32) (t_state : Int32) (t_code_r : Nat → Int32), F_X5_takeUnit_18 t_number t_place t_sign t_codes t_fault t_faultPlace t_name t_state t_code_r = some out → ∀ (H : Heap) (locs : List Loc), va_P D vwCl (wd_X5_takeUnit cI cZ cR a_t a_t_text a_t_code a_t_waiting t_length t_codes t_waits t_fault t_faultPlace t_at t_place t_sign t_number t_state t_name t_compared t_open t_parentheses t_code_r) H → va_D A (wd_X5_takeUnit cI cZ cR a_t a_t_text a_t_code a_t_waiting t_length t_codes t_waits t_fault t_faultPlace t_at t_place t_sign t_number t_state t_name t_compared t_open t_parentheses t_code_r) → va_S A s.heap H locs → ∀ (ls : Array Slot), lv_has ls 1 [(0, .ref a_t)] → W p l e (headSpec wsX5_takeUnit ({ frames := 2, cells := 0, slots := 0, locals := 43 } : Room)).room s m args below meth c H locs 0 0 (MQ below (qv D cI cZ cR A (wd_X5_takeUnit cI cZ cR a_t a_t_text a_t_code a_t_waiting t_length (out.1) t_waits (out.2.1) (out.2.2.1) t_at t_place t_sign t_number (out.2.2.2.2.1) (out.2.2.2.1) t_compared t_open t_parentheses (out.2.2.2.2.2))) args s 0 0 A) (F0 m 18 ls []) := by
  obtain ⟨hx, hb, hml, hr, hown, hts, hlocks, hN⟩ := id X
  intro t_codes t_fault t_faultPlace t_name t_state t_code_r hf H locs hP hD hS ls hl
  unfold F_X5_takeUnit_18 at hf
  refine lv_aload_n hx hb dX5_takeUnit_18 rfl (lv_at hl 0 rfl) ?_
  refine lv_aload_n hx hb dX5_takeUnit_19 rfl (lv_at hl 0 rfl) ?_
  refine va_get (D := D) (ci := 5) (v := .int t_sign) (C := RX5) (T := TX5) (N := 17) hx hb hts in_X5_takeUnit_X5 hown hK hP 0 rfl rfl 10 (by decide) (hts (.fieldLink RX5 64 "DivisionHall$Reader" "sign" "I") (by decide +kernel)) (fun _ h9 => h9) rfl dX5_takeUnit_20 ?_
  refine va_put (D := D) (ci := 5) (v := .int t_sign) (ty := .int) (C := RX5) (T := TX5) (N := 17) hx hb hts in_X5_takeUnit_X5 tyX5 tyX5_ok nmX5 hown hK hP hD hS 0 rfl rfl 13 (by decide) (hts (.fieldLink RX5 118 "DivisionHall$Reader" "name" "I") (by decide +kernel)) (fun _ h9 => h9) rfl (by decide +kernel) rfl rfl (Nat.le_of_ble_eq_true rfl) dX5_takeUnit_23 (fun H locs hP hD hS => ?_)
  have hP : va_P D vwCl (wd_X5_takeUnit cI cZ cR a_t a_t_text a_t_code a_t_waiting t_length t_codes t_waits t_fault t_faultPlace t_at t_place t_sign t_number t_state t_sign t_compared t_open t_parentheses t_code_r) H := hP
  have hD : va_D A (wd_X5_takeUnit cI cZ cR a_t a_t_text a_t_code a_t_waiting t_length t_codes t_waits t_fault t_faultPlace t_at t_place t_sign t_number t_state t_sign t_compared t_open t_parentheses t_code_r) := hD
  refine lv_aload_n hx hb dX5_takeUnit_26 rfl (lv_at hl 0 rfl) ?_
  refine lv_iconst (v := (3 : Int32)) hx hb dX5_takeUnit_27 (by decide) ?_
  refine va_put (D := D) (ci := 5) (v := .int (3 : Int32)) (ty := .int) (C := RX5) (T := TX5) (N := 17) hx hb hts in_X5_takeUnit_X5 tyX5 tyX5_ok nmX5 hown hK hP hD hS 0 rfl rfl 12 (by decide) (hts (.fieldLink RX5 50 "DivisionHall$Reader" "state" "I") (by decide +kernel)) (fun _ h9 => h9) rfl (by decide +kernel) rfl rfl (Nat.le_of_ble_eq_true rfl) dX5_takeUnit_28 (fun H locs hP hD hS => ?_)
  have hP : va_P D vwCl (wd_X5_takeUnit cI cZ cR a_t a_t_text a_t_code a_t_waiting t_length t_codes t_waits t_fault t_faultPlace t_at t_place t_sign t_number (3 : Int32) t_sign t_compared t_open t_parentheses t_code_r) H := hP
  have hD : va_D A (wd_X5_takeUnit cI cZ cR a_t a_t_text a_t_code a_t_waiting t_length t_codes t_waits t_fault t_faultPlace t_at t_place t_sign t_number (3 : Int32) t_sign t_compared t_open t_parentheses t_code_r) := hD
  refine lv_goto (tgt := 86) hx hb dX5_takeUnit_31 (by decide) ?_
  cases hf
  exact retv X hK hP hD hS dX5_takeUnit_86
set_option maxHeartbeats 4000000 in
set_option maxRecDepth 100000 in
theorem w_X5_takeUnit_61 {p : Program} {l : Launch} {e : Env} {s : State} {m : MethodId} {args : Array Value} {below : List Frame} {meth : Method} {c : Code} {D : va_G} {cI cZ cR : ClassId} {A : Nat → Prop} {a_t a_t_text a_t_code a_t_waiting : Nat} {t_length : Int32} {t_waits : Int32} {t_at : Int32} {t_place : Int32} {t_sign : Int32} {t_number : Int32} {t_compared : Int32} {t_open : Int32} {t_parentheses : Int32} {out : Int32 × Int32 × Int32 × Int32 × Int32 × (Nat → Int32)} (X : cx p s m args meth c cX5_takeUnit 1 none RX5 wsX5_takeUnit) (hK : va_K D vwCl (ty3 cI cZ cR) s) (hA : ∀ q, s.heap.size ≤ q → A q) : ∀ (t_codes : Int32) (t_fault : Int32) (t_faultPlace : Int32) (t_name : Int32) (t_state : Int32) (t_code_r : Nat → Int32), F_X5_takeUnit_61 t_number t_place t_sign t_codes t_fault t_faultPlace t_name t_state t_code_r = some out → ∀ (H : Heap) (locs : List Loc), va_P D vwCl (wd_X5_takeUnit cI cZ cR a_t a_t_text a_t_code a_t_waiting t_length t_codes t_waits t_fault t_faultPlace t_at t_place t_sign t_number t_state t_name t_compared t_open t_parentheses t_code_r) H → va_D A (wd_X5_takeUnit cI cZ cR a_t a_t_text a_t_code a_t_waiting t_length t_codes t_waits t_fault t_faultPlace t_at t_place t_sign t_number t_state t_name t_compared t_open t_parentheses t_code_r) → va_S A s.heap H locs → ∀ (ls : Array Slot), lv_has ls 1 [(0, .ref a_t)] → W p l e (headSpec wsX5_takeUnit ({ frames := 2, cells := 0, slots := 0, locals := 43 } : Room)).room s m args below meth c H locs 0 0 (MQ below (qv D cI cZ cR A (wd_X5_takeUnit cI cZ cR a_t a_t_text a_t_code a_t_waiting t_length (out.1) t_waits (out.2.1) (out.2.2.1) t_at t_place t_sign t_number (out.2.2.2.2.1) (out.2.2.2.1) t_compared t_open t_parentheses (out.2.2.2.2.2))) args s 0 0 A) (F0 m 61 ls []) := by
  obtain ⟨hx, hb, hml, hr, hown, hts, hlocks, hN⟩ := id X
  intro t_codes t_fault t_faultPlace t_name t_state t_code_r hf H locs hP hD hS ls hl
  unfold F_X5_takeUnit_61 at hf
  refine lv_aload_n hx hb dX5_takeUnit_61 rfl (lv_at hl 0 rfl) ?_
  refine lv_aload_n hx hb dX5_takeUnit_62 rfl (lv_at hl 0 rfl) ?_
  refine va_get (D := D) (ci := 5) (v := .int t_sign) (C := RX5) (T := TX5) (N := 17) hx hb hts in_X5_takeUnit_X5 hown hK hP 0 rfl rfl 10 (by decide) (hts (.fieldLink RX5 64 "DivisionHall$Reader" "sign" "I") (by decide +kernel)) (fun _ h9 => h9) rfl dX5_takeUnit_63 ?_
  refine lv_aload_n hx hb dX5_takeUnit_66 rfl (lv_at hl 0 rfl) ?_
  refine va_get (D := D) (ci := 5) (v := .int t_number) (C := RX5) (T := TX5) (N := 17) hx hb hts in_X5_takeUnit_X5 hown hK hP 0 rfl rfl 11 (by decide) (hts (.fieldLink RX5 115 "DivisionHall$Reader" "number" "I") (by decide +kernel)) (fun _ h9 => h9) rfl dX5_takeUnit_67 ?_
  obtain ⟨r8, hr9, hf⟩ := bnd hf
  refine wcallvA (D := D) (cI := cI) (cZ := cZ) (cR := cR) (wc := (wd_X5_emit cI cZ cR a_t a_t_text a_t_code a_t_waiting t_length t_codes t_waits t_fault t_faultPlace t_at t_place t_sign t_number t_state t_name t_compared t_open t_parentheses t_code_r)) (w' := (wd_X5_emit cI cZ cR a_t a_t_text a_t_code a_t_waiting t_length (r8.1) t_waits t_fault t_faultPlace t_at t_place t_sign t_number t_state t_name t_compared t_open t_parentheses (r8.2))) hP hD hS hA rfl (rnVA (As := [.int t_sign, .int t_number]) (ci := 5) (q0 := 0) X hK hP hD rfl rfl (c_X5_emit l D cI cZ cR hr9) (cwV 2 hts gX5_takeUnit_X5_emit rfl rfl rfl (by decide +kernel) ⟨Nat.le_of_ble_eq_true rfl, Nat.le_of_ble_eq_true rfl⟩) rfl hl.1 rfl (Nat.le_of_ble_eq_true rfl) dX5_takeUnit_70) (fun H locs hP hD hS => ?_)
  have hP : va_P D vwCl (wd_X5_takeUnit cI cZ cR a_t a_t_text a_t_code a_t_waiting t_length (r8.1) t_waits t_fault t_faultPlace t_at t_place t_sign t_number t_state t_name t_compared t_open t_parentheses (r8.2)) H := hP
  have hD : va_D A (wd_X5_takeUnit cI cZ cR a_t a_t_text a_t_code a_t_waiting t_length (r8.1) t_waits t_fault t_faultPlace t_at t_place t_sign t_number t_state t_name t_compared t_open t_parentheses (r8.2)) := hD
  refine lv_aload_n hx hb dX5_takeUnit_73 rfl (lv_at hl 0 rfl) ?_
  refine lv_iconst (v := (4 : Int32)) hx hb dX5_takeUnit_74 (by decide) ?_
  refine va_put (D := D) (ci := 5) (v := .int (4 : Int32)) (ty := .int) (C := RX5) (T := TX5) (N := 17) hx hb hts in_X5_takeUnit_X5 tyX5 tyX5_ok nmX5 hown hK hP hD hS 0 rfl rfl 12 (by decide) (hts (.fieldLink RX5 50 "DivisionHall$Reader" "state" "I") (by decide +kernel)) (fun _ h9 => h9) rfl (by decide +kernel) rfl rfl (Nat.le_of_ble_eq_true rfl) dX5_takeUnit_75 (fun H locs hP hD hS => ?_)
  have hP : va_P D vwCl (wd_X5_takeUnit cI cZ cR a_t a_t_text a_t_code a_t_waiting t_length (r8.1) t_waits t_fault t_faultPlace t_at t_place t_sign t_number (4 : Int32) t_name t_compared t_open t_parentheses (r8.2)) H := hP
  have hD : va_D A (wd_X5_takeUnit cI cZ cR a_t a_t_text a_t_code a_t_waiting t_length (r8.1) t_waits t_fault t_faultPlace t_at t_place t_sign t_number (4 : Int32) t_name t_compared t_open t_parentheses (r8.2)) := hD
  refine lv_goto (tgt := 86) hx hb dX5_takeUnit_78 (by decide) ?_
  cases hf
  exact retv X hK hP hD hS dX5_takeUnit_86
set_option maxHeartbeats 4000000 in
set_option maxRecDepth 100000 in
theorem c_X5_takeUnit (l : Launch) (D : va_G) (cI cZ cR : ClassId) {a_t a_t_text a_t_code a_t_waiting : Nat} {t_length : Int32} {t_codes : Int32} {t_waits : Int32} {t_fault : Int32} {t_faultPlace : Int32} {t_at : Int32} {t_place : Int32} {t_sign : Int32} {t_number : Int32} {t_state : Int32} {t_name : Int32} {t_compared : Int32} {t_open : Int32} {t_parentheses : Int32} {t_code_r : Nat → Int32} {sz : Nat} {out : Int32 × Int32 × Int32 × Int32 × Int32 × (Nat → Int32)} (hf : F_X5_takeUnit t_codes t_fault t_faultPlace t_name t_number t_place t_sign t_state t_code_r = some out) : CV l yX5_takeUnit wsX5_takeUnit ({ frames := 2, cells := 0, slots := 0, locals := 43 } : Room) D cI cZ cR [.ref a_t] (wd_X5_takeUnit cI cZ cR a_t a_t_text a_t_code a_t_waiting t_length t_codes t_waits t_fault t_faultPlace t_at t_place t_sign t_number t_state t_name t_compared t_open t_parentheses t_code_r) sz (wd_X5_takeUnit cI cZ cR a_t a_t_text a_t_code a_t_waiting t_length (out.1) t_waits (out.2.1) (out.2.2.1) t_at t_place t_sign t_number (out.2.2.2.2.1) (out.2.2.2.1) t_compared t_open t_parentheses (out.2.2.2.2.2)) := by
  refine met_of (Qf := fun A => qv D cI cZ cR A (wd_X5_takeUnit cI cZ cR a_t a_t_text a_t_code a_t_waiting t_length (out.1) t_waits (out.2.1) (out.2.2.1) t_at t_place t_sign t_number (out.2.2.2.2.1) (out.2.2.2.1) t_compared t_open t_parentheses (out.2.2.2.2.2))) RX5 (by decide +kernel) rfl rfl (Nat.le_of_ble_eq_true rfl) ?_
  intro p e s m below meth c A X hK hA hP hD hS ls hl
  have hl : lv_has ls 1 [(0, .ref a_t)] := hl
  obtain ⟨hx, hb, hml, hr, hown, hts, hlocks, hN⟩ := id X
  unfold F_X5_takeUnit at hf
  refine lv_aload_n hx hb dX5_takeUnit_0 rfl (lv_at hl 0 rfl) ?_
  refine va_get (D := D) (ci := 5) (v := .int t_sign) (C := RX5) (T := TX5) (N := 17) hx hb hts in_X5_takeUnit_X5 hown hK hP 0 rfl rfl 10 (by decide) (hts (.fieldLink RX5 64 "DivisionHall$Reader" "sign" "I") (by decide +kernel)) (fun _ h9 => h9) rfl dX5_takeUnit_1 ?_
  refine lv_bipush (v := (7 : Int32)) hx hb dX5_takeUnit_4 (by decide) ?_
  refine lv_icmp_eq (tgt := 18) hx hb dX5_takeUnit_6 (by decide) (fun c1 => ?_) (fun c1 => ?_)
  · have hf := ipos c1 hf
    exact w_X5_takeUnit_18 X hK hA t_codes t_fault t_faultPlace t_name t_state t_code_r hf _ _ hP hD hS _ (lv_sub hl [0] rfl)
  · have hf := ineg c1 hf
    refine lv_aload_n hx hb dX5_takeUnit_9 rfl (lv_at hl 0 rfl) ?_
    refine va_get (D := D) (ci := 5) (v := .int t_sign) (C := RX5) (T := TX5) (N := 17) hx hb hts in_X5_takeUnit_X5 hown hK hP 0 rfl rfl 10 (by decide) (hts (.fieldLink RX5 64 "DivisionHall$Reader" "sign" "I") (by decide +kernel)) (fun _ h9 => h9) rfl dX5_takeUnit_10 ?_
    refine lv_bipush (v := (8 : Int32)) hx hb dX5_takeUnit_13 (by decide) ?_
    refine lv_icmp_ne (tgt := 34) hx hb dX5_takeUnit_15 (by decide) (fun c2 => ?_) (fun c2 => ?_)
    · have hf := ineg c2 hf
      refine lv_aload_n hx hb dX5_takeUnit_34 rfl (lv_at hl 0 rfl) ?_
      refine va_get (D := D) (ci := 5) (v := .int t_sign) (C := RX5) (T := TX5) (N := 17) hx hb hts in_X5_takeUnit_X5 hown hK hP 0 rfl rfl 10 (by decide) (hts (.fieldLink RX5 64 "DivisionHall$Reader" "sign" "I") (by decide +kernel)) (fun _ h9 => h9) rfl dX5_takeUnit_35 ?_
      refine lv_bipush (v := (6 : Int32)) hx hb dX5_takeUnit_38 (by decide) ?_
      refine lv_icmp_eq (tgt := 61) hx hb dX5_takeUnit_40 (by decide) (fun c3 => ?_) (fun c3 => ?_)
      · have hf := ipos c3 hf
        exact w_X5_takeUnit_61 X hK hA t_codes t_fault t_faultPlace t_name t_state t_code_r hf _ _ hP hD hS _ (lv_sub hl [0] rfl)
      · have hf := ineg c3 hf
        refine lv_aload_n hx hb dX5_takeUnit_43 rfl (lv_at hl 0 rfl) ?_
        refine va_get (D := D) (ci := 5) (v := .int t_sign) (C := RX5) (T := TX5) (N := 17) hx hb hts in_X5_takeUnit_X5 hown hK hP 0 rfl rfl 10 (by decide) (hts (.fieldLink RX5 64 "DivisionHall$Reader" "sign" "I") (by decide +kernel)) (fun _ h9 => h9) rfl dX5_takeUnit_44 ?_
        refine lv_bipush (v := (9 : Int32)) hx hb dX5_takeUnit_47 (by decide) ?_
        refine lv_icmp_eq (tgt := 61) hx hb dX5_takeUnit_49 (by decide) (fun c4 => ?_) (fun c4 => ?_)
        · have hf := ipos c4 hf
          exact w_X5_takeUnit_61 X hK hA t_codes t_fault t_faultPlace t_name t_state t_code_r hf _ _ hP hD hS _ (lv_sub hl [0] rfl)
        · have hf := ineg c4 hf
          refine lv_aload_n hx hb dX5_takeUnit_52 rfl (lv_at hl 0 rfl) ?_
          refine va_get (D := D) (ci := 5) (v := .int t_sign) (C := RX5) (T := TX5) (N := 17) hx hb hts in_X5_takeUnit_X5 hown hK hP 0 rfl rfl 10 (by decide) (hts (.fieldLink RX5 64 "DivisionHall$Reader" "sign" "I") (by decide +kernel)) (fun _ h9 => h9) rfl dX5_takeUnit_53 ?_
          refine lv_bipush (v := (10 : Int32)) hx hb dX5_takeUnit_56 (by decide) ?_
          refine lv_icmp_ne (tgt := 81) hx hb dX5_takeUnit_58 (by decide) (fun c5 => ?_) (fun c5 => ?_)
          · have hf := ineg c5 hf
            refine lv_aload_n hx hb dX5_takeUnit_81 rfl (lv_at hl 0 rfl) ?_
            refine lv_iconst (v := (1 : Int32)) hx hb dX5_takeUnit_82 (by decide) ?_
            obtain ⟨r6, hr7, hf⟩ := bnd hf
            refine wcallv (D := D) (cI := cI) (cZ := cZ) (cR := cR) (wc := (wd_X5_stop cI cZ cR a_t a_t_text a_t_code a_t_waiting t_length t_codes t_waits t_fault t_faultPlace t_at t_place t_sign t_number t_state t_name t_compared t_open t_parentheses)) (w' := (wd_X5_stop cI cZ cR a_t a_t_text a_t_code a_t_waiting t_length t_codes t_waits (r6.1) (r6.2.1) t_at t_place t_sign t_number (r6.2.2) t_name t_compared t_open t_parentheses)) [0] hP hD hS hA rfl rfl rfl (rnV (As := [.int (1 : Int32)]) (ci := 5) (q0 := 0) X [0] hK hP hD rfl rfl rfl rfl (c_X5_stop l D cI cZ cR hr7) (cwV 1 hts gX5_takeUnit_X5_stop rfl rfl rfl (by decide +kernel) ⟨Nat.le_of_ble_eq_true rfl, Nat.le_of_ble_eq_true rfl⟩) rfl hl.1 rfl (Nat.le_of_ble_eq_true rfl) dX5_takeUnit_83) (fun H locs hP hD hS => ?_)
            have hP : va_P D vwCl (wd_X5_takeUnit cI cZ cR a_t a_t_text a_t_code a_t_waiting t_length t_codes t_waits (r6.1) (r6.2.1) t_at t_place t_sign t_number (r6.2.2) t_name t_compared t_open t_parentheses t_code_r) H := hP
            have hD : va_D A (wd_X5_takeUnit cI cZ cR a_t a_t_text a_t_code a_t_waiting t_length t_codes t_waits (r6.1) (r6.2.1) t_at t_place t_sign t_number (r6.2.2) t_name t_compared t_open t_parentheses t_code_r) := hD
            cases hf
            exact retv X hK hP hD hS dX5_takeUnit_86
          · have hf := ipos c5 hf
            exact w_X5_takeUnit_61 X hK hA t_codes t_fault t_faultPlace t_name t_state t_code_r hf _ _ hP hD hS _ (lv_sub hl [0] rfl)
    · have hf := ipos c2 hf
      exact w_X5_takeUnit_18 X hK hA t_codes t_fault t_faultPlace t_name t_state t_code_r hf _ _ hP hD hS _ (lv_sub hl [0] rfl)

abbrev wd_X5_takeClause (cI cZ cR : ClassId) (a_t a_t_text a_t_code a_t_waiting : Nat) (t_length t_codes t_waits t_fault t_faultPlace t_at t_place t_sign t_number t_state t_name t_compared t_open t_parentheses : Int32) (t_code_r : Nat → Int32) (t_waiting_r : Nat → Int32) : va_W := [(a_t, oB 5 [.ref a_t_text, .ref a_t_code, .ref a_t_waiting, .int t_length, .int t_codes, .int t_waits, .int t_fault, .int t_faultPlace, .int t_at, .int t_place, .int t_sign, .int t_number, .int t_state, .int t_name, .int t_compared, .int t_open, .int t_parentheses]), (a_t_code, aI cI 400 t_code_r), (a_t_waiting, aI cI 40 t_waiting_r)]
set_option maxRecDepth 100000 in
theorem in_X5_takeClause_X5 : ∀ w ∈ wsX50, w ∈ wsX5_takeClause := by decide +kernel
set_option maxHeartbeats 4000000 in
set_option maxRecDepth 100000 in
theorem c_X5_takeClause (l : Launch) (D : va_G) (cI cZ cR : ClassId) {a_t a_t_text a_t_code a_t_waiting : Nat} {t_length : Int32} {t_codes : Int32} {t_waits : Int32} {t_fault : Int32} {t_faultPlace : Int32} {t_at : Int32} {t_place : Int32} {t_sign : Int32} {t_number : Int32} {t_state : Int32} {t_name : Int32} {t_compared : Int32} {t_open : Int32} {t_parentheses : Int32} {t_code_r : Nat → Int32} {t_waiting_r : Nat → Int32} {sz : Nat} {out : Int32 × Int32 × Int32 × Int32 × Int32 × Int32 × Int32 × Int32 × Int32 × (Nat → Int32) × (Nat → Int32)} (hf : F_X5_takeClause t_codes t_compared t_fault t_faultPlace t_name t_number t_open t_parentheses t_place t_sign t_state t_waits t_code_r t_waiting_r = some out) : CV l yX5_takeClause wsX5_takeClause ({ frames := 3, cells := 0, slots := 0, locals := 63 } : Room) D cI cZ cR [.ref a_t] (wd_X5_takeClause cI cZ cR a_t a_t_text a_t_code a_t_waiting t_length t_codes t_waits t_fault t_faultPlace t_at t_place t_sign t_number t_state t_name t_compared t_open t_parentheses t_code_r t_waiting_r) sz (wd_X5_takeClause cI cZ cR a_t a_t_text a_t_code a_t_waiting t_length (out.1) (out.2.2.2.2.2.2.2.2.1) (out.2.2.1) (out.2.2.2.1) t_at t_place t_sign t_number (out.2.2.2.2.2.2.2.1) (out.2.2.2.2.1) (out.2.1) (out.2.2.2.2.2.1) (out.2.2.2.2.2.2.1) (out.2.2.2.2.2.2.2.2.2.1) (out.2.2.2.2.2.2.2.2.2.2)) := by
  refine met_of (Qf := fun A => qv D cI cZ cR A (wd_X5_takeClause cI cZ cR a_t a_t_text a_t_code a_t_waiting t_length (out.1) (out.2.2.2.2.2.2.2.2.1) (out.2.2.1) (out.2.2.2.1) t_at t_place t_sign t_number (out.2.2.2.2.2.2.2.1) (out.2.2.2.2.1) (out.2.1) (out.2.2.2.2.2.1) (out.2.2.2.2.2.2.1) (out.2.2.2.2.2.2.2.2.2.1) (out.2.2.2.2.2.2.2.2.2.2))) RX5 (by decide +kernel) rfl rfl (Nat.le_of_ble_eq_true rfl) ?_
  intro p e s m below meth c A X hK hA hP hD hS ls hl
  have hl : lv_has ls 1 [(0, .ref a_t)] := hl
  obtain ⟨hx, hb, hml, hr, hown, hts, hlocks, hN⟩ := id X
  unfold F_X5_takeClause at hf
  refine lv_aload_n hx hb dX5_takeClause_0 rfl (lv_at hl 0 rfl) ?_
  refine va_get (D := D) (ci := 5) (v := .int t_sign) (C := RX5) (T := TX5) (N := 17) hx hb hts in_X5_takeClause_X5 hown hK hP 0 rfl rfl 10 (by decide) (hts (.fieldLink RX5 64 "DivisionHall$Reader" "sign" "I") (by decide +kernel)) (fun _ h9 => h9) rfl dX5_takeClause_1 ?_
  refine lv_bipush (v := (14 : Int32)) hx hb dX5_takeClause_4 (by decide) ?_
  refine lv_icmp_eq (tgt := 17) hx hb dX5_takeClause_6 (by decide) (fun c1 => ?_) (fun c1 => ?_)
  · have hf := ipos c1 hf
    refine lv_aload_n hx hb dX5_takeClause_17 rfl (lv_at hl 0 rfl) ?_
    obtain ⟨r2, hr3, hf⟩ := bnd hf
    refine wcallv (D := D) (cI := cI) (cZ := cZ) (cR := cR) (wc := (wd_X5_takeOpening cI cZ cR a_t a_t_text a_t_code a_t_waiting t_length t_codes t_waits t_fault t_faultPlace t_at t_place t_sign t_number t_state t_name t_compared t_open t_parentheses t_waiting_r)) (w' := (wd_X5_takeOpening cI cZ cR a_t a_t_text a_t_code a_t_waiting t_length t_codes (r2.2.2.2.2.2.1) (r2.1) (r2.2.1) t_at t_place t_sign t_number (r2.2.2.2.2.1) t_name t_compared (r2.2.2.1) (r2.2.2.2.1) (r2.2.2.2.2.2.2))) [0, 2] hP hD hS hA rfl rfl rfl (rnV (As := []) (ci := 5) (q0 := 0) X [0, 2] hK hP hD rfl rfl rfl rfl (c_X5_takeOpening l D cI cZ cR hr3) (cwV 0 hts gX5_takeClause_X5_takeOpening rfl rfl rfl (by decide +kernel) ⟨Nat.le_of_ble_eq_true rfl, Nat.le_of_ble_eq_true rfl⟩) rfl hl.1 rfl (Nat.le_of_ble_eq_true rfl) dX5_takeClause_18) (fun H locs hP hD hS => ?_)
    have hP : va_P D vwCl (wd_X5_takeClause cI cZ cR a_t a_t_text a_t_code a_t_waiting t_length t_codes (r2.2.2.2.2.2.1) (r2.1) (r2.2.1) t_at t_place t_sign t_number (r2.2.2.2.2.1) t_name t_compared (r2.2.2.1) (r2.2.2.2.1) t_code_r (r2.2.2.2.2.2.2)) H := hP
    have hD : va_D A (wd_X5_takeClause cI cZ cR a_t a_t_text a_t_code a_t_waiting t_length t_codes (r2.2.2.2.2.2.1) (r2.1) (r2.2.1) t_at t_place t_sign t_number (r2.2.2.2.2.1) t_name t_compared (r2.2.2.1) (r2.2.2.2.1) t_code_r (r2.2.2.2.2.2.2)) := hD
    refine lv_goto (tgt := 56) hx hb dX5_takeClause_21 (by decide) ?_
    cases hf
    exact retv X hK hP hD hS dX5_takeClause_56
  · have hf := ineg c1 hf
    refine lv_aload_n hx hb dX5_takeClause_9 rfl (lv_at hl 0 rfl) ?_
    refine va_get (D := D) (ci := 5) (v := .int t_sign) (C := RX5) (T := TX5) (N := 17) hx hb hts in_X5_takeClause_X5 hown hK hP 0 rfl rfl 10 (by decide) (hts (.fieldLink RX5 64 "DivisionHall$Reader" "sign" "I") (by decide +kernel)) (fun _ h9 => h9) rfl dX5_takeClause_10 ?_
    refine lv_iconst (v := (3 : Int32)) hx hb dX5_takeClause_13 (by decide) ?_
    refine lv_icmp_ne (tgt := 24) hx hb dX5_takeClause_14 (by decide) (fun c4 => ?_) (fun c4 => ?_)
    · have hf := ineg c4 hf
      refine lv_aload_n hx hb dX5_takeClause_24 rfl (lv_at hl 0 rfl) ?_
      refine va_get (D := D) (ci := 5) (v := .int t_sign) (C := RX5) (T := TX5) (N := 17) hx hb hts in_X5_takeClause_X5 hown hK hP 0 rfl rfl 10 (by decide) (hts (.fieldLink RX5 64 "DivisionHall$Reader" "sign" "I") (by decide +kernel)) (fun _ h9 => h9) rfl dX5_takeClause_25 ?_
      refine lv_bipush (v := (11 : Int32)) hx hb dX5_takeClause_28 (by decide) ?_
      refine lv_icmp_ne (tgt := 47) hx hb dX5_takeClause_30 (by decide) (fun c5 => ?_) (fun c5 => ?_)
      · have hf := ineg c5 hf
        refine lv_aload_n hx hb dX5_takeClause_47 rfl (lv_at hl 0 rfl) ?_
        refine lv_iconst (v := (0 : Int32)) hx hb dX5_takeClause_48 (by decide) ?_
        refine va_put (D := D) (ci := 5) (v := .int (0 : Int32)) (ty := .boolean) (C := RX5) (T := TX5) (N := 17) hx hb hts in_X5_takeClause_X5 tyX5 tyX5_ok nmX5 hown hK hP hD hS 0 rfl rfl 14 (by decide) (hts (.fieldLink RX5 40 "DivisionHall$Reader" "compared" "Z") (by decide +kernel)) (fun _ h9 => h9) rfl (by decide +kernel) rfl rfl (Nat.le_of_ble_eq_true rfl) dX5_takeClause_49 (fun H locs hP hD hS => ?_)
        have hP : va_P D vwCl (wd_X5_takeClause cI cZ cR a_t a_t_text a_t_code a_t_waiting t_length t_codes t_waits t_fault t_faultPlace t_at t_place t_sign t_number t_state t_name (0 : Int32) t_open t_parentheses t_code_r t_waiting_r) H := hP
        have hD : va_D A (wd_X5_takeClause cI cZ cR a_t a_t_text a_t_code a_t_waiting t_length t_codes t_waits t_fault t_faultPlace t_at t_place t_sign t_number t_state t_name (0 : Int32) t_open t_parentheses t_code_r t_waiting_r) := hD
        refine lv_aload_n hx hb dX5_takeClause_52 rfl (lv_at hl 0 rfl) ?_
        obtain ⟨r6, hr7, hf⟩ := bnd hf
        refine wcallv (D := D) (cI := cI) (cZ := cZ) (cR := cR) (wc := (wd_X5_takeUnit cI cZ cR a_t a_t_text a_t_code a_t_waiting t_length t_codes t_waits t_fault t_faultPlace t_at t_place t_sign t_number t_state t_name (0 : Int32) t_open t_parentheses t_code_r)) (w' := (wd_X5_takeUnit cI cZ cR a_t a_t_text a_t_code a_t_waiting t_length (r6.1) t_waits (r6.2.1) (r6.2.2.1) t_at t_place t_sign t_number (r6.2.2.2.2.1) (r6.2.2.2.1) (0 : Int32) t_open t_parentheses (r6.2.2.2.2.2))) [0, 1] hP hD hS hA rfl rfl rfl (rnV (As := []) (ci := 5) (q0 := 0) X [0, 1] hK hP hD rfl rfl rfl rfl (c_X5_takeUnit l D cI cZ cR hr7) (cwV 0 hts gX5_takeClause_X5_takeUnit rfl rfl rfl (by decide +kernel) ⟨Nat.le_of_ble_eq_true rfl, Nat.le_of_ble_eq_true rfl⟩) rfl hl.1 rfl (Nat.le_of_ble_eq_true rfl) dX5_takeClause_53) (fun H locs hP hD hS => ?_)
        have hP : va_P D vwCl (wd_X5_takeClause cI cZ cR a_t a_t_text a_t_code a_t_waiting t_length (r6.1) t_waits (r6.2.1) (r6.2.2.1) t_at t_place t_sign t_number (r6.2.2.2.2.1) (r6.2.2.2.1) (0 : Int32) t_open t_parentheses (r6.2.2.2.2.2) t_waiting_r) H := hP
        have hD : va_D A (wd_X5_takeClause cI cZ cR a_t a_t_text a_t_code a_t_waiting t_length (r6.1) t_waits (r6.2.1) (r6.2.2.1) t_at t_place t_sign t_number (r6.2.2.2.2.1) (r6.2.2.2.1) (0 : Int32) t_open t_parentheses (r6.2.2.2.2.2) t_waiting_r) := hD
        cases hf
        exact retv X hK hP hD hS dX5_takeClause_56
      · have hf := ipos c5 hf
        refine lv_aload_n hx hb dX5_takeClause_33 rfl (lv_at hl 0 rfl) ?_
        refine lv_bipush (v := (11 : Int32)) hx hb dX5_takeClause_34 (by decide) ?_
        refine va_put (D := D) (ci := 5) (v := .int (11 : Int32)) (ty := .int) (C := RX5) (T := TX5) (N := 17) hx hb hts in_X5_takeClause_X5 tyX5 tyX5_ok nmX5 hown hK hP hD hS 0 rfl rfl 13 (by decide) (hts (.fieldLink RX5 118 "DivisionHall$Reader" "name" "I") (by decide +kernel)) (fun _ h9 => h9) rfl (by decide +kernel) rfl rfl (Nat.le_of_ble_eq_true rfl) dX5_takeClause_36 (fun H locs hP hD hS => ?_)
        have hP : va_P D vwCl (wd_X5_takeClause cI cZ cR a_t a_t_text a_t_code a_t_waiting t_length t_codes t_waits t_fault t_faultPlace t_at t_place t_sign t_number t_state (11 : Int32) t_compared t_open t_parentheses t_code_r t_waiting_r) H := hP
        have hD : va_D A (wd_X5_takeClause cI cZ cR a_t a_t_text a_t_code a_t_waiting t_length t_codes t_waits t_fault t_faultPlace t_at t_place t_sign t_number t_state (11 : Int32) t_compared t_open t_parentheses t_code_r t_waiting_r) := hD
        refine lv_aload_n hx hb dX5_takeClause_39 rfl (lv_at hl 0 rfl) ?_
        refine lv_iconst (v := (2 : Int32)) hx hb dX5_takeClause_40 (by decide) ?_
        refine va_put (D := D) (ci := 5) (v := .int (2 : Int32)) (ty := .int) (C := RX5) (T := TX5) (N := 17) hx hb hts in_X5_takeClause_X5 tyX5 tyX5_ok nmX5 hown hK hP hD hS 0 rfl rfl 12 (by decide) (hts (.fieldLink RX5 50 "DivisionHall$Reader" "state" "I") (by decide +kernel)) (fun _ h9 => h9) rfl (by decide +kernel) rfl rfl (Nat.le_of_ble_eq_true rfl) dX5_takeClause_41 (fun H locs hP hD hS => ?_)
        have hP : va_P D vwCl (wd_X5_takeClause cI cZ cR a_t a_t_text a_t_code a_t_waiting t_length t_codes t_waits t_fault t_faultPlace t_at t_place t_sign t_number (2 : Int32) (11 : Int32) t_compared t_open t_parentheses t_code_r t_waiting_r) H := hP
        have hD : va_D A (wd_X5_takeClause cI cZ cR a_t a_t_text a_t_code a_t_waiting t_length t_codes t_waits t_fault t_faultPlace t_at t_place t_sign t_number (2 : Int32) (11 : Int32) t_compared t_open t_parentheses t_code_r t_waiting_r) := hD
        refine lv_goto (tgt := 56) hx hb dX5_takeClause_44 (by decide) ?_
        cases hf
        exact retv X hK hP hD hS dX5_takeClause_56
    · have hf := ipos c4 hf
      refine lv_aload_n hx hb dX5_takeClause_17 rfl (lv_at hl 0 rfl) ?_
      obtain ⟨r8, hr9, hf⟩ := bnd hf
      refine wcallv (D := D) (cI := cI) (cZ := cZ) (cR := cR) (wc := (wd_X5_takeOpening cI cZ cR a_t a_t_text a_t_code a_t_waiting t_length t_codes t_waits t_fault t_faultPlace t_at t_place t_sign t_number t_state t_name t_compared t_open t_parentheses t_waiting_r)) (w' := (wd_X5_takeOpening cI cZ cR a_t a_t_text a_t_code a_t_waiting t_length t_codes (r8.2.2.2.2.2.1) (r8.1) (r8.2.1) t_at t_place t_sign t_number (r8.2.2.2.2.1) t_name t_compared (r8.2.2.1) (r8.2.2.2.1) (r8.2.2.2.2.2.2))) [0, 2] hP hD hS hA rfl rfl rfl (rnV (As := []) (ci := 5) (q0 := 0) X [0, 2] hK hP hD rfl rfl rfl rfl (c_X5_takeOpening l D cI cZ cR hr9) (cwV 0 hts gX5_takeClause_X5_takeOpening rfl rfl rfl (by decide +kernel) ⟨Nat.le_of_ble_eq_true rfl, Nat.le_of_ble_eq_true rfl⟩) rfl hl.1 rfl (Nat.le_of_ble_eq_true rfl) dX5_takeClause_18) (fun H locs hP hD hS => ?_)
      have hP : va_P D vwCl (wd_X5_takeClause cI cZ cR a_t a_t_text a_t_code a_t_waiting t_length t_codes (r8.2.2.2.2.2.1) (r8.1) (r8.2.1) t_at t_place t_sign t_number (r8.2.2.2.2.1) t_name t_compared (r8.2.2.1) (r8.2.2.2.1) t_code_r (r8.2.2.2.2.2.2)) H := hP
      have hD : va_D A (wd_X5_takeClause cI cZ cR a_t a_t_text a_t_code a_t_waiting t_length t_codes (r8.2.2.2.2.2.1) (r8.1) (r8.2.1) t_at t_place t_sign t_number (r8.2.2.2.2.1) t_name t_compared (r8.2.2.1) (r8.2.2.2.1) t_code_r (r8.2.2.2.2.2.2)) := hD
      refine lv_goto (tgt := 56) hx hb dX5_takeClause_21 (by decide) ?_
      cases hf
      exact retv X hK hP hD hS dX5_takeClause_56

abbrev wd_X5_takeLast (cI cZ cR : ClassId) (a_t a_t_text a_t_code a_t_waiting : Nat) (t_length t_codes t_waits t_fault t_faultPlace t_at t_place t_sign t_number t_state t_name t_compared t_open t_parentheses : Int32) : va_W := [(a_t, oB 5 [.ref a_t_text, .ref a_t_code, .ref a_t_waiting, .int t_length, .int t_codes, .int t_waits, .int t_fault, .int t_faultPlace, .int t_at, .int t_place, .int t_sign, .int t_number, .int t_state, .int t_name, .int t_compared, .int t_open, .int t_parentheses])]
set_option maxRecDepth 100000 in
theorem in_X5_takeLast_X5 : ∀ w ∈ wsX50, w ∈ wsX5_takeLast := by decide +kernel
set_option maxHeartbeats 4000000 in
set_option maxRecDepth 100000 in
theorem c_X5_takeLast (l : Launch) (D : va_G) (cI cZ cR : ClassId) {a_t a_t_text a_t_code a_t_waiting : Nat} {t_length : Int32} {t_codes : Int32} {t_waits : Int32} {t_fault : Int32} {t_faultPlace : Int32} {t_at : Int32} {t_place : Int32} {t_sign : Int32} {t_number : Int32} {t_state : Int32} {t_name : Int32} {t_compared : Int32} {t_open : Int32} {t_parentheses : Int32} {sz : Nat} {out : Int32 × Int32 × Int32} (hf : F_X5_takeLast t_fault t_faultPlace t_place t_sign t_state = some out) : CV l yX5_takeLast wsX5_takeLast ({ frames := 1, cells := 0, slots := 0, locals := 21 } : Room) D cI cZ cR [.ref a_t] (wd_X5_takeLast cI cZ cR a_t a_t_text a_t_code a_t_waiting t_length t_codes t_waits t_fault t_faultPlace t_at t_place t_sign t_number t_state t_name t_compared t_open t_parentheses) sz (wd_X5_takeLast cI cZ cR a_t a_t_text a_t_code a_t_waiting t_length t_codes t_waits (out.1) (out.2.1) t_at t_place t_sign t_number (out.2.2) t_name t_compared t_open t_parentheses) := by
  refine met_of (Qf := fun A => qv D cI cZ cR A (wd_X5_takeLast cI cZ cR a_t a_t_text a_t_code a_t_waiting t_length t_codes t_waits (out.1) (out.2.1) t_at t_place t_sign t_number (out.2.2) t_name t_compared t_open t_parentheses)) RX5 (by decide +kernel) rfl rfl (Nat.le_of_ble_eq_true rfl) ?_
  intro p e s m below meth c A X hK hA hP hD hS ls hl
  have hl : lv_has ls 1 [(0, .ref a_t)] := hl
  obtain ⟨hx, hb, hml, hr, hown, hts, hlocks, hN⟩ := id X
  unfold F_X5_takeLast at hf
  refine lv_aload_n hx hb dX5_takeLast_0 rfl (lv_at hl 0 rfl) ?_
  refine va_get (D := D) (ci := 5) (v := .int t_sign) (C := RX5) (T := TX5) (N := 17) hx hb hts in_X5_takeLast_X5 hown hK hP 0 rfl rfl 10 (by decide) (hts (.fieldLink RX5 64 "DivisionHall$Reader" "sign" "I") (by decide +kernel)) (fun _ h9 => h9) rfl dX5_takeLast_1 ?_
  refine lv_if_ne (tgt := 16) hx hb dX5_takeLast_4 (by decide) (fun c1 => ?_) (fun c1 => ?_)
  · have hf := ineg c1 hf
    refine lv_aload_n hx hb dX5_takeLast_16 rfl (lv_at hl 0 rfl) ?_
    refine lv_iconst (v := (1 : Int32)) hx hb dX5_takeLast_17 (by decide) ?_
    obtain ⟨r2, hr3, hf⟩ := bnd hf
    refine wcallvA (D := D) (cI := cI) (cZ := cZ) (cR := cR) (wc := (wd_X5_stop cI cZ cR a_t a_t_text a_t_code a_t_waiting t_length t_codes t_waits t_fault t_faultPlace t_at t_place t_sign t_number t_state t_name t_compared t_open t_parentheses)) (w' := (wd_X5_stop cI cZ cR a_t a_t_text a_t_code a_t_waiting t_length t_codes t_waits (r2.1) (r2.2.1) t_at t_place t_sign t_number (r2.2.2) t_name t_compared t_open t_parentheses)) hP hD hS hA rfl (rnVA (As := [.int (1 : Int32)]) (ci := 5) (q0 := 0) X hK hP hD rfl rfl (c_X5_stop l D cI cZ cR hr3) (cwV 1 hts gX5_takeLast_X5_stop rfl rfl rfl (by decide +kernel) ⟨Nat.le_of_ble_eq_true rfl, Nat.le_of_ble_eq_true rfl⟩) rfl hl.1 rfl (Nat.le_of_ble_eq_true rfl) dX5_takeLast_18) (fun H locs hP hD hS => ?_)
    have hP : va_P D vwCl (wd_X5_takeLast cI cZ cR a_t a_t_text a_t_code a_t_waiting t_length t_codes t_waits (r2.1) (r2.2.1) t_at t_place t_sign t_number (r2.2.2) t_name t_compared t_open t_parentheses) H := hP
    have hD : va_D A (wd_X5_takeLast cI cZ cR a_t a_t_text a_t_code a_t_waiting t_length t_codes t_waits (r2.1) (r2.2.1) t_at t_place t_sign t_number (r2.2.2) t_name t_compared t_open t_parentheses) := hD
    cases hf
    exact retv X hK hP hD hS dX5_takeLast_21
  · have hf := ipos c1 hf
    refine lv_aload_n hx hb dX5_takeLast_7 rfl (lv_at hl 0 rfl) ?_
    refine lv_bipush (v := (8 : Int32)) hx hb dX5_takeLast_8 (by decide) ?_
    refine va_put (D := D) (ci := 5) (v := .int (8 : Int32)) (ty := .int) (C := RX5) (T := TX5) (N := 17) hx hb hts in_X5_takeLast_X5 tyX5 tyX5_ok nmX5 hown hK hP hD hS 0 rfl rfl 12 (by decide) (hts (.fieldLink RX5 50 "DivisionHall$Reader" "state" "I") (by decide +kernel)) (fun _ h9 => h9) rfl (by decide +kernel) rfl rfl (Nat.le_of_ble_eq_true rfl) dX5_takeLast_10 (fun H locs hP hD hS => ?_)
    have hP : va_P D vwCl (wd_X5_takeLast cI cZ cR a_t a_t_text a_t_code a_t_waiting t_length t_codes t_waits t_fault t_faultPlace t_at t_place t_sign t_number (8 : Int32) t_name t_compared t_open t_parentheses) H := hP
    have hD : va_D A (wd_X5_takeLast cI cZ cR a_t a_t_text a_t_code a_t_waiting t_length t_codes t_waits t_fault t_faultPlace t_at t_place t_sign t_number (8 : Int32) t_name t_compared t_open t_parentheses) := hD
    refine lv_goto (tgt := 21) hx hb dX5_takeLast_13 (by decide) ?_
    cases hf
    exact retv X hK hP hD hS dX5_takeLast_21
