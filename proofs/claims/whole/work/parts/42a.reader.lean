abbrev wd_X5_put (cI cZ cR : ClassId) (a_t a_t_text a_t_code a_t_waiting : Nat) (t_length t_codes t_waits t_fault t_faultPlace t_at t_place t_sign t_number t_state t_name t_compared t_open t_parentheses : Int32) (t_text_r : Nat → Int32) : va_W := [(a_t, oB 5 [.ref a_t_text, .ref a_t_code, .ref a_t_waiting, .int t_length, .int t_codes, .int t_waits, .int t_fault, .int t_faultPlace, .int t_at, .int t_place, .int t_sign, .int t_number, .int t_state, .int t_name, .int t_compared, .int t_open, .int t_parentheses]), (a_t_text, aI cI 400 t_text_r)]
set_option maxRecDepth 100000 in
theorem in_X5_put_X5 : ∀ w ∈ wsX50, w ∈ wsX5_put := by decide +kernel
set_option maxHeartbeats 4000000 in
set_option maxRecDepth 100000 in
theorem w_X5_put_3 {p : Program} {l : Launch} {e : Env} {s : State} {m : MethodId} {args : Array Value} {below : List Frame} {meth : Method} {c : Code} {D : va_G} {cI cZ cR : ClassId} {A : Nat → Prop} {a_t a_t_text a_t_code a_t_waiting : Nat} {t_codes : Int32} {t_waits : Int32} {t_fault : Int32} {t_faultPlace : Int32} {t_at : Int32} {t_place : Int32} {t_sign : Int32} {t_number : Int32} {t_state : Int32} {t_name : Int32} {t_compared : Int32} {t_open : Int32} {t_parentheses : Int32} {x1 : Int32} {out : Int32 × (Nat → Int32)} (X : cx p s m args meth c cX5_put 3 none RX5 wsX5_put) (hK : va_K D vwCl (ty3 cI cZ cR) s) (hA : ∀ q, s.heap.size ≤ q → A q) : ∀ (n : Nat) (x2 : Int32) (t_length : Int32) (t_text_r : Nat → Int32), F_X5_put_3 x1 n x2 t_length t_text_r = some out → ∀ (H : Heap) (locs : List Loc), va_P D vwCl (wd_X5_put cI cZ cR a_t a_t_text a_t_code a_t_waiting t_length t_codes t_waits t_fault t_faultPlace t_at t_place t_sign t_number t_state t_name t_compared t_open t_parentheses t_text_r) H → va_D A (wd_X5_put cI cZ cR a_t a_t_text a_t_code a_t_waiting t_length t_codes t_waits t_fault t_faultPlace t_at t_place t_sign t_number t_state t_name t_compared t_open t_parentheses t_text_r) → va_S A s.heap H locs → ∀ (ls : Array Slot), lv_has ls 3 [(0, .ref a_t), (1, .int x1), (2, .int x2)] → W p l e (headSpec wsX5_put ({ frames := 0, cells := 0, slots := 0, locals := 0 } : Room)).room s m args below meth c H locs 0 0 (MQ below (qv D cI cZ cR A (wd_X5_put cI cZ cR a_t a_t_text a_t_code a_t_waiting (out.1) t_codes t_waits t_fault t_faultPlace t_at t_place t_sign t_number t_state t_name t_compared t_open t_parentheses (out.2))) args s 0 0 A) (F0 m 3 ls []) := by
  obtain ⟨hx, hb, hml, hr, hown, hts, hlocks, hN⟩ := id X
  intro n
  induction n with
  | zero =>
    intro x2 t_length t_text_r hf
    cases (show (none : Option (Int32 × (Nat → Int32))) = some out from hf)
  | succ n ih =>
    intro x2 t_length t_text_r hf H locs hP hD hS ls hl
    rw [F_X5_put_3] at hf
    refine lv_iload_n hx hb dX5_put_3 rfl (lv_at hl 2 rfl) ?_
    refine lv_if_lt (tgt := 49) hx hb dX5_put_4 (by decide) (fun c1 => ?_) (fun c1 => ?_)
    · have hf := ipos c1 hf
      cases hf
      exact retv X hK hP hD hS dX5_put_49
    · have hf := ineg c1 hf
      refine lv_aload_n hx hb dX5_put_7 rfl (lv_at hl 0 rfl) ?_
      refine va_get (D := D) (ci := 5) (v := .int t_length) (C := RX5) (T := TX5) (N := 17) hx hb hts in_X5_put_X5 hown hK hP 0 rfl rfl 3 (by decide) (hts (.fieldLink RX5 25 "DivisionHall$Reader" "length" "I") (by decide +kernel)) (fun _ h9 => h9) rfl dX5_put_8 ?_
      refine lv_sipush (v := (400 : Int32)) hx hb dX5_put_11 (by decide) ?_
      refine lv_icmp_ge (tgt := 49) hx hb dX5_put_14 (by decide) (fun c2 => ?_) (fun c2 => ?_)
      · have hf := ipos c2 hf
        cases hf
        exact retv X hK hP hD hS dX5_put_49
      · have hf := ineg c2 hf
        refine lv_aload_n hx hb dX5_put_17 rfl (lv_at hl 0 rfl) ?_
        refine va_get (D := D) (ci := 5) (v := .ref a_t_text) (C := RX5) (T := TX5) (N := 17) hx hb hts in_X5_put_X5 hown hK hP 0 rfl rfl 0 (by decide) (hts (.fieldLink RX5 9 "DivisionHall$Reader" "text" "[I") (by decide +kernel)) (fun _ h9 => h9) rfl dX5_put_18 ?_
        refine lv_aload_n hx hb dX5_put_21 rfl (lv_at hl 0 rfl) ?_
        refine va_get (D := D) (ci := 5) (v := .int t_length) (C := RX5) (T := TX5) (N := 17) hx hb hts in_X5_put_X5 hown hK hP 0 rfl rfl 3 (by decide) (hts (.fieldLink RX5 25 "DivisionHall$Reader" "length" "I") (by decide +kernel)) (fun _ h9 => h9) rfl dX5_put_22 ?_
        refine lv_iload_n hx hb dX5_put_25 rfl (lv_at hl 1 rfl) ?_
        refine lv_iload_n hx hb dX5_put_26 rfl (lv_at hl 2 rfl) ?_
        refine lv_ishr hx hb dX5_put_27 ?_
        refine lv_sipush (v := (255 : Int32)) hx hb dX5_put_28 (by decide) ?_
        refine lv_iand hx hb dX5_put_31 ?_
        obtain ⟨hi3, hf⟩ := gin_s hf
        refine va_iast hx hb hK hP hD hS 1 0 rfl rfl hi3 dX5_put_32 (fun H locs hP hD hS => ?_)
        have hP : va_P D vwCl (wd_X5_put cI cZ cR a_t a_t_text a_t_code a_t_waiting t_length t_codes t_waits t_fault t_faultPlace t_at t_place t_sign t_number t_state t_name t_compared t_open t_parentheses (upd t_text_r (t_length).toNatClampNeg ((x1 >>> (x2 &&& 31)) &&& (255 : Int32)))) H := hP
        have hD : va_D A (wd_X5_put cI cZ cR a_t a_t_text a_t_code a_t_waiting t_length t_codes t_waits t_fault t_faultPlace t_at t_place t_sign t_number t_state t_name t_compared t_open t_parentheses (upd t_text_r (t_length).toNatClampNeg ((x1 >>> (x2 &&& 31)) &&& (255 : Int32)))) := hD
        refine lv_aload_n hx hb dX5_put_33 rfl (lv_at hl 0 rfl) ?_
        refine lv_dup hx hb dX5_put_34 rfl ?_
        refine va_get (D := D) (ci := 5) (v := .int t_length) (C := RX5) (T := TX5) (N := 17) hx hb hts in_X5_put_X5 hown hK hP 0 rfl rfl 3 (by decide) (hts (.fieldLink RX5 25 "DivisionHall$Reader" "length" "I") (by decide +kernel)) (fun _ h9 => h9) rfl dX5_put_35 ?_
        refine lv_iconst (v := (1 : Int32)) hx hb dX5_put_38 (by decide) ?_
        refine lv_iadd hx hb dX5_put_39 ?_
        refine va_put (D := D) (ci := 5) (v := .int (t_length + (1 : Int32))) (ty := .int) (C := RX5) (T := TX5) (N := 17) hx hb hts in_X5_put_X5 tyX5 tyX5_ok nmX5 hown hK hP hD hS 0 rfl rfl 3 (by decide) (hts (.fieldLink RX5 25 "DivisionHall$Reader" "length" "I") (by decide +kernel)) (fun _ h9 => h9) rfl (by decide +kernel) rfl rfl (Nat.le_of_ble_eq_true rfl) dX5_put_40 (fun H locs hP hD hS => ?_)
        have hP : va_P D vwCl (wd_X5_put cI cZ cR a_t a_t_text a_t_code a_t_waiting (t_length + (1 : Int32)) t_codes t_waits t_fault t_faultPlace t_at t_place t_sign t_number t_state t_name t_compared t_open t_parentheses (upd t_text_r (t_length).toNatClampNeg ((x1 >>> (x2 &&& 31)) &&& (255 : Int32)))) H := hP
        have hD : va_D A (wd_X5_put cI cZ cR a_t a_t_text a_t_code a_t_waiting (t_length + (1 : Int32)) t_codes t_waits t_fault t_faultPlace t_at t_place t_sign t_number t_state t_name t_compared t_open t_parentheses (upd t_text_r (t_length).toNatClampNeg ((x1 >>> (x2 &&& 31)) &&& (255 : Int32)))) := hD
        refine lv_iinc (v := (x2 + (-8 : Int32))) (lv' := [(2, .int (x2 + (-8 : Int32))), (0, .ref a_t), (1, .int x1)]) hx hb dX5_put_43 hl (k := 2) rfl rfl (by decide) rfl (fun ls hl => ?_)
        refine lv_goto (tgt := 3) hx hb dX5_put_46 (by decide) ?_
        exact ih (x2 + (-8 : Int32)) (t_length + (1 : Int32)) (upd t_text_r (t_length).toNatClampNeg ((x1 >>> (x2 &&& 31)) &&& (255 : Int32))) hf _ _ hP hD hS _ (lv_sub hl [1, 2, 0] rfl)
set_option maxHeartbeats 4000000 in
set_option maxRecDepth 100000 in
theorem c_X5_put (l : Launch) (D : va_G) (cI cZ cR : ClassId) {a_t a_t_text a_t_code a_t_waiting : Nat} {t_length : Int32} {t_codes : Int32} {t_waits : Int32} {t_fault : Int32} {t_faultPlace : Int32} {t_at : Int32} {t_place : Int32} {t_sign : Int32} {t_number : Int32} {t_state : Int32} {t_name : Int32} {t_compared : Int32} {t_open : Int32} {t_parentheses : Int32} {t_text_r : Nat → Int32} {x1 : Int32} {sz : Nat} {out : Int32 × (Nat → Int32)} (hf : F_X5_put x1 t_length t_text_r = some out) : CV l yX5_put wsX5_put ({ frames := 0, cells := 0, slots := 0, locals := 0 } : Room) D cI cZ cR [.ref a_t, .int x1] (wd_X5_put cI cZ cR a_t a_t_text a_t_code a_t_waiting t_length t_codes t_waits t_fault t_faultPlace t_at t_place t_sign t_number t_state t_name t_compared t_open t_parentheses t_text_r) sz (wd_X5_put cI cZ cR a_t a_t_text a_t_code a_t_waiting (out.1) t_codes t_waits t_fault t_faultPlace t_at t_place t_sign t_number t_state t_name t_compared t_open t_parentheses (out.2)) := by
  refine met_of (Qf := fun A => qv D cI cZ cR A (wd_X5_put cI cZ cR a_t a_t_text a_t_code a_t_waiting (out.1) t_codes t_waits t_fault t_faultPlace t_at t_place t_sign t_number t_state t_name t_compared t_open t_parentheses (out.2))) RX5 (by decide +kernel) rfl rfl (Nat.le_of_ble_eq_true rfl) ?_
  intro p e s m below meth c A X hK hA hP hD hS ls hl
  have hl : lv_has ls 3 [(0, .ref a_t), (1, .int x1)] := hl
  obtain ⟨hx, hb, hml, hr, hown, hts, hlocks, hN⟩ := id X
  unfold F_X5_put at hf
  refine lv_bipush (v := (24 : Int32)) hx hb dX5_put_0 (by decide) ?_
  refine lv_istore_n (lv' := [(2, .int (24 : Int32)), (0, .ref a_t), (1, .int x1)]) hx hb dX5_put_2 rfl hl (by decide) rfl (fun ls hl => ?_)
  exact w_X5_put_3 X hK hA _ (24 : Int32) t_length t_text_r hf _ _ hP hD hS _ (lv_sub hl [1, 2, 0] rfl)

abbrev wd_X5_isDigit (cI cZ cR : ClassId) : va_W := []
set_option maxHeartbeats 4000000 in
set_option maxRecDepth 100000 in
theorem c_X5_isDigit (l : Launch) (D : va_G) (cI cZ cR : ClassId) {x0 : Int32} {sz : Nat} {out : Int32} (hf : F_X5_isDigit x0 = some out) : CI l yX5_isDigit wsX5_isDigit ({ frames := 0, cells := 0, slots := 0, locals := 0 } : Room) D cI cZ cR [.int x0] (wd_X5_isDigit cI cZ cR) sz (out) (wd_X5_isDigit cI cZ cR) := by
  refine met_of (Qf := fun A => qi D cI cZ cR A (out) (wd_X5_isDigit cI cZ cR)) RX5 (by decide +kernel) rfl rfl (Nat.le_of_ble_eq_true rfl) ?_
  intro p e s m below meth c A X hK hA hP hD hS ls hl
  have hl : lv_has ls 1 [(0, .int x0)] := hl
  obtain ⟨hx, hb, hml, hr, hown, hts, hlocks, hN⟩ := id X
  unfold F_X5_isDigit at hf
  refine lv_iload_n hx hb dX5_isDigit_0 rfl (lv_at hl 0 rfl) ?_
  refine lv_bipush (v := (48 : Int32)) hx hb dX5_isDigit_1 (by decide) ?_
  refine lv_icmp_lt (tgt := 16) hx hb dX5_isDigit_3 (by decide) (fun c1 => ?_) (fun c1 => ?_)
  · have hf := ipos c1 hf
    refine lv_iconst (v := (0 : Int32)) hx hb dX5_isDigit_16 (by decide) ?_
    cases hf
    exact retz (Or.inl rfl) X hK hP hD hS dX5_isDigit_17
  · have hf := ineg c1 hf
    refine lv_iload_n hx hb dX5_isDigit_6 rfl (lv_at hl 0 rfl) ?_
    refine lv_bipush (v := (57 : Int32)) hx hb dX5_isDigit_7 (by decide) ?_
    refine lv_icmp_gt (tgt := 16) hx hb dX5_isDigit_9 (by decide) (fun c2 => ?_) (fun c2 => ?_)
    · have hf := ipos c2 hf
      refine lv_iconst (v := (0 : Int32)) hx hb dX5_isDigit_16 (by decide) ?_
      cases hf
      exact retz (Or.inl rfl) X hK hP hD hS dX5_isDigit_17
    · have hf := ineg c2 hf
      refine lv_iconst (v := (1 : Int32)) hx hb dX5_isDigit_12 (by decide) ?_
      refine lv_goto (tgt := 17) hx hb dX5_isDigit_13 (by decide) ?_
      cases hf
      exact retz (Or.inr rfl) X hK hP hD hS dX5_isDigit_17

abbrev wd_X5_readNumber (cI cZ cR : ClassId) (a_t a_t_text a_t_code a_t_waiting : Nat) (t_length t_codes t_waits t_fault t_faultPlace t_at t_place t_sign t_number t_state t_name t_compared t_open t_parentheses : Int32) (t_text_r : Nat → Int32) : va_W := [(a_t, oB 5 [.ref a_t_text, .ref a_t_code, .ref a_t_waiting, .int t_length, .int t_codes, .int t_waits, .int t_fault, .int t_faultPlace, .int t_at, .int t_place, .int t_sign, .int t_number, .int t_state, .int t_name, .int t_compared, .int t_open, .int t_parentheses]), (a_t_text, aI cI 400 t_text_r)]
set_option maxRecDepth 100000 in
theorem in_X5_readNumber_X5 : ∀ w ∈ wsX50, w ∈ wsX5_readNumber := by decide +kernel
set_option maxHeartbeats 4000000 in
set_option maxRecDepth 100000 in
theorem w_X5_readNumber_78 {p : Program} {l : Launch} {e : Env} {s : State} {m : MethodId} {args : Array Value} {below : List Frame} {meth : Method} {c : Code} {D : va_G} {cI cZ cR : ClassId} {A : Nat → Prop} {a_t a_t_text a_t_code a_t_waiting : Nat} {t_length : Int32} {t_codes : Int32} {t_waits : Int32} {t_fault : Int32} {t_faultPlace : Int32} {t_place : Int32} {t_state : Int32} {t_name : Int32} {t_compared : Int32} {t_open : Int32} {t_parentheses : Int32} {t_text_r : Nat → Int32} {out : Int32 × Int32 × Int32} (X : cx p s m args meth c cX5_readNumber 1 none RX5 wsX5_readNumber) (hK : va_K D vwCl (ty3 cI cZ cR) s) (hA : ∀ q, s.heap.size ≤ q → A q) : ∀ (t_at : Int32) (t_number : Int32) (t_sign : Int32), F_X5_readNumber_78 t_length t_place t_text_r t_at t_number t_sign = some out → ∀ (H : Heap) (locs : List Loc), va_P D vwCl (wd_X5_readNumber cI cZ cR a_t a_t_text a_t_code a_t_waiting t_length t_codes t_waits t_fault t_faultPlace t_at t_place t_sign t_number t_state t_name t_compared t_open t_parentheses t_text_r) H → va_D A (wd_X5_readNumber cI cZ cR a_t a_t_text a_t_code a_t_waiting t_length t_codes t_waits t_fault t_faultPlace t_at t_place t_sign t_number t_state t_name t_compared t_open t_parentheses t_text_r) → va_S A s.heap H locs → ∀ (ls : Array Slot), lv_has ls 1 [(0, .ref a_t)] → W p l e (headSpec wsX5_readNumber ({ frames := 1, cells := 0, slots := 0, locals := 20 } : Room)).room s m args below meth c H locs 0 0 (MQ below (qv D cI cZ cR A (wd_X5_readNumber cI cZ cR a_t a_t_text a_t_code a_t_waiting t_length t_codes t_waits t_fault t_faultPlace (out.1) t_place (out.2.2) (out.2.1) t_state t_name t_compared t_open t_parentheses t_text_r)) args s 0 0 A) (F0 m 78 ls []) := by
  obtain ⟨hx, hb, hml, hr, hown, hts, hlocks, hN⟩ := id X
  intro t_at t_number t_sign hf H locs hP hD hS ls hl
  unfold F_X5_readNumber_78 at hf
  refine lv_aload_n hx hb dX5_readNumber_78 rfl (lv_at hl 0 rfl) ?_
  refine lv_aload_n hx hb dX5_readNumber_79 rfl (lv_at hl 0 rfl) ?_
  refine va_get (D := D) (ci := 5) (v := .int t_at) (C := RX5) (T := TX5) (N := 17) hx hb hts in_X5_readNumber_X5 hown hK hP 0 rfl rfl 8 (by decide) (hts (.fieldLink RX5 37 "DivisionHall$Reader" "at" "I") (by decide +kernel)) (fun _ h9 => h9) rfl dX5_readNumber_80 ?_
  refine lv_aload_n hx hb dX5_readNumber_83 rfl (lv_at hl 0 rfl) ?_
  refine va_get (D := D) (ci := 5) (v := .int t_place) (C := RX5) (T := TX5) (N := 17) hx hb hts in_X5_readNumber_X5 hown hK hP 0 rfl rfl 9 (by decide) (hts (.fieldLink RX5 59 "DivisionHall$Reader" "place" "I") (by decide +kernel)) (fun _ h9 => h9) rfl dX5_readNumber_84 ?_
  refine lv_isub hx hb dX5_readNumber_87 ?_
  refine lv_iconst (v := (4 : Int32)) hx hb dX5_readNumber_88 (by decide) ?_
  refine lv_icmp_gt (tgt := 97) hx hb dX5_readNumber_89 (by decide) (fun c8 => ?_) (fun c8 => ?_)
  · have hf := ipos c8 hf
    refine lv_iconst (v := (1 : Int32)) hx hb dX5_readNumber_97 (by decide) ?_
    refine va_put (D := D) (ci := 5) (v := .int (1 : Int32)) (ty := .int) (C := RX5) (T := TX5) (N := 17) hx hb hts in_X5_readNumber_X5 tyX5 tyX5_ok nmX5 hown hK hP hD hS 0 rfl rfl 10 (by decide) (hts (.fieldLink RX5 64 "DivisionHall$Reader" "sign" "I") (by decide +kernel)) (fun _ h9 => h9) rfl (by decide +kernel) rfl rfl (Nat.le_of_ble_eq_true rfl) dX5_readNumber_98 (fun H locs hP hD hS => ?_)
    have hP : va_P D vwCl (wd_X5_readNumber cI cZ cR a_t a_t_text a_t_code a_t_waiting t_length t_codes t_waits t_fault t_faultPlace t_at t_place (1 : Int32) t_number t_state t_name t_compared t_open t_parentheses t_text_r) H := hP
    have hD : va_D A (wd_X5_readNumber cI cZ cR a_t a_t_text a_t_code a_t_waiting t_length t_codes t_waits t_fault t_faultPlace t_at t_place (1 : Int32) t_number t_state t_name t_compared t_open t_parentheses t_text_r) := hD
    cases hf
    exact retv X hK hP hD hS dX5_readNumber_101
  · have hf := ineg c8 hf
    refine lv_bipush (v := (6 : Int32)) hx hb dX5_readNumber_92 (by decide) ?_
    refine lv_goto (tgt := 98) hx hb dX5_readNumber_94 (by decide) ?_
    refine va_put (D := D) (ci := 5) (v := .int (6 : Int32)) (ty := .int) (C := RX5) (T := TX5) (N := 17) hx hb hts in_X5_readNumber_X5 tyX5 tyX5_ok nmX5 hown hK hP hD hS 0 rfl rfl 10 (by decide) (hts (.fieldLink RX5 64 "DivisionHall$Reader" "sign" "I") (by decide +kernel)) (fun _ h9 => h9) rfl (by decide +kernel) rfl rfl (Nat.le_of_ble_eq_true rfl) dX5_readNumber_98 (fun H locs hP hD hS => ?_)
    have hP : va_P D vwCl (wd_X5_readNumber cI cZ cR a_t a_t_text a_t_code a_t_waiting t_length t_codes t_waits t_fault t_faultPlace t_at t_place (6 : Int32) t_number t_state t_name t_compared t_open t_parentheses t_text_r) H := hP
    have hD : va_D A (wd_X5_readNumber cI cZ cR a_t a_t_text a_t_code a_t_waiting t_length t_codes t_waits t_fault t_faultPlace t_at t_place (6 : Int32) t_number t_state t_name t_compared t_open t_parentheses t_text_r) := hD
    cases hf
    exact retv X hK hP hD hS dX5_readNumber_101
set_option maxHeartbeats 4000000 in
set_option maxRecDepth 100000 in
theorem w_X5_readNumber_5 {p : Program} {l : Launch} {e : Env} {s : State} {m : MethodId} {args : Array Value} {below : List Frame} {meth : Method} {c : Code} {D : va_G} {cI cZ cR : ClassId} {A : Nat → Prop} {a_t a_t_text a_t_code a_t_waiting : Nat} {t_length : Int32} {t_codes : Int32} {t_waits : Int32} {t_fault : Int32} {t_faultPlace : Int32} {t_place : Int32} {t_state : Int32} {t_name : Int32} {t_compared : Int32} {t_open : Int32} {t_parentheses : Int32} {t_text_r : Nat → Int32} {out : Int32 × Int32 × Int32} (X : cx p s m args meth c cX5_readNumber 1 none RX5 wsX5_readNumber) (hK : va_K D vwCl (ty3 cI cZ cR) s) (hA : ∀ q, s.heap.size ≤ q → A q) : ∀ (n : Nat) (t_at : Int32) (t_number : Int32) (t_sign : Int32), F_X5_readNumber_5 t_length t_place t_text_r n t_at t_number t_sign = some out → ∀ (H : Heap) (locs : List Loc), va_P D vwCl (wd_X5_readNumber cI cZ cR a_t a_t_text a_t_code a_t_waiting t_length t_codes t_waits t_fault t_faultPlace t_at t_place t_sign t_number t_state t_name t_compared t_open t_parentheses t_text_r) H → va_D A (wd_X5_readNumber cI cZ cR a_t a_t_text a_t_code a_t_waiting t_length t_codes t_waits t_fault t_faultPlace t_at t_place t_sign t_number t_state t_name t_compared t_open t_parentheses t_text_r) → va_S A s.heap H locs → ∀ (ls : Array Slot), lv_has ls 1 [(0, .ref a_t)] → W p l e (headSpec wsX5_readNumber ({ frames := 1, cells := 0, slots := 0, locals := 20 } : Room)).room s m args below meth c H locs 0 0 (MQ below (qv D cI cZ cR A (wd_X5_readNumber cI cZ cR a_t a_t_text a_t_code a_t_waiting t_length t_codes t_waits t_fault t_faultPlace (out.1) t_place (out.2.2) (out.2.1) t_state t_name t_compared t_open t_parentheses t_text_r)) args s 0 0 A) (F0 m 5 ls []) := by
  obtain ⟨hx, hb, hml, hr, hown, hts, hlocks, hN⟩ := id X
  intro n
  induction n with
  | zero =>
    intro t_at t_number t_sign hf
    cases (show (none : Option (Int32 × Int32 × Int32)) = some out from hf)
  | succ n ih =>
    intro t_at t_number t_sign hf H locs hP hD hS ls hl
    rw [F_X5_readNumber_5] at hf
    refine lv_aload_n hx hb dX5_readNumber_5 rfl (lv_at hl 0 rfl) ?_
    refine va_get (D := D) (ci := 5) (v := .int t_at) (C := RX5) (T := TX5) (N := 17) hx hb hts in_X5_readNumber_X5 hown hK hP 0 rfl rfl 8 (by decide) (hts (.fieldLink RX5 37 "DivisionHall$Reader" "at" "I") (by decide +kernel)) (fun _ h9 => h9) rfl dX5_readNumber_6 ?_
    refine lv_aload_n hx hb dX5_readNumber_9 rfl (lv_at hl 0 rfl) ?_
    refine va_get (D := D) (ci := 5) (v := .int t_length) (C := RX5) (T := TX5) (N := 17) hx hb hts in_X5_readNumber_X5 hown hK hP 0 rfl rfl 3 (by decide) (hts (.fieldLink RX5 25 "DivisionHall$Reader" "length" "I") (by decide +kernel)) (fun _ h9 => h9) rfl dX5_readNumber_10 ?_
    refine lv_icmp_ge (tgt := 78) hx hb dX5_readNumber_13 (by decide) (fun c1 => ?_) (fun c1 => ?_)
    · have hf := ipos c1 hf
      exact w_X5_readNumber_78 X hK hA t_at t_number t_sign hf _ _ hP hD hS _ (lv_sub hl [0] rfl)
    · have hf := ineg c1 hf
      refine lv_aload_n hx hb dX5_readNumber_16 rfl (lv_at hl 0 rfl) ?_
      refine va_get (D := D) (ci := 5) (v := .int t_at) (C := RX5) (T := TX5) (N := 17) hx hb hts in_X5_readNumber_X5 hown hK hP 0 rfl rfl 8 (by decide) (hts (.fieldLink RX5 37 "DivisionHall$Reader" "at" "I") (by decide +kernel)) (fun _ h9 => h9) rfl dX5_readNumber_17 ?_
      refine lv_sipush (v := (400 : Int32)) hx hb dX5_readNumber_20 (by decide) ?_
      refine lv_icmp_ge (tgt := 78) hx hb dX5_readNumber_23 (by decide) (fun c2 => ?_) (fun c2 => ?_)
      · have hf := ipos c2 hf
        exact w_X5_readNumber_78 X hK hA t_at t_number t_sign hf _ _ hP hD hS _ (lv_sub hl [0] rfl)
      · have hf := ineg c2 hf
        refine lv_aload_n hx hb dX5_readNumber_26 rfl (lv_at hl 0 rfl) ?_
        refine va_get (D := D) (ci := 5) (v := .ref a_t_text) (C := RX5) (T := TX5) (N := 17) hx hb hts in_X5_readNumber_X5 hown hK hP 0 rfl rfl 0 (by decide) (hts (.fieldLink RX5 9 "DivisionHall$Reader" "text" "[I") (by decide +kernel)) (fun _ h9 => h9) rfl dX5_readNumber_27 ?_
        refine lv_aload_n hx hb dX5_readNumber_30 rfl (lv_at hl 0 rfl) ?_
        refine va_get (D := D) (ci := 5) (v := .int t_at) (C := RX5) (T := TX5) (N := 17) hx hb hts in_X5_readNumber_X5 hown hK hP 0 rfl rfl 8 (by decide) (hts (.fieldLink RX5 37 "DivisionHall$Reader" "at" "I") (by decide +kernel)) (fun _ h9 => h9) rfl dX5_readNumber_31 ?_
        obtain ⟨hi3, hf⟩ := gin_s hf
        refine va_iald hx hb hK hP 1 0 rfl rfl hi3 dX5_readNumber_34 ?_
        obtain ⟨r4, hr5, hf⟩ := bnd hf
        refine wcalli (D := D) (cI := cI) (cZ := cZ) (cR := cR) (wc := (wd_X5_isDigit cI cZ cR)) (w' := (wd_X5_isDigit cI cZ cR)) [] hP hD hS hA rfl rfl rfl (rnS (As := [.int (t_text_r (t_at).toNatClampNeg)]) X [] hK hP hD rfl rfl (c_X5_isDigit l D cI cZ cR hr5) (cwS 1 hts gX5_readNumber_X5_isDigit rfl rfl rfl (by decide +kernel) ⟨Nat.le_of_ble_eq_true rfl, Nat.le_of_ble_eq_true rfl⟩) rfl hl.1 rfl (Nat.le_of_ble_eq_true rfl) dX5_readNumber_35) (fun H locs hP hD hS => ?_)
        have hP : va_P D vwCl (wd_X5_readNumber cI cZ cR a_t a_t_text a_t_code a_t_waiting t_length t_codes t_waits t_fault t_faultPlace t_at t_place t_sign t_number t_state t_name t_compared t_open t_parentheses t_text_r) H := hP
        have hD : va_D A (wd_X5_readNumber cI cZ cR a_t a_t_text a_t_code a_t_waiting t_length t_codes t_waits t_fault t_faultPlace t_at t_place t_sign t_number t_state t_name t_compared t_open t_parentheses t_text_r) := hD
        refine lv_if_eq (tgt := 78) hx hb dX5_readNumber_38 (by decide) (fun c6 => ?_) (fun c6 => ?_)
        · have hf := ipos c6 hf
          exact w_X5_readNumber_78 X hK hA t_at t_number t_sign hf _ _ hP hD hS _ (lv_sub hl [0] rfl)
        · have hf := ineg c6 hf
          refine lv_aload_n hx hb dX5_readNumber_41 rfl (lv_at hl 0 rfl) ?_
          refine lv_aload_n hx hb dX5_readNumber_42 rfl (lv_at hl 0 rfl) ?_
          refine va_get (D := D) (ci := 5) (v := .int t_number) (C := RX5) (T := TX5) (N := 17) hx hb hts in_X5_readNumber_X5 hown hK hP 0 rfl rfl 11 (by decide) (hts (.fieldLink RX5 115 "DivisionHall$Reader" "number" "I") (by decide +kernel)) (fun _ h9 => h9) rfl dX5_readNumber_43 ?_
          refine lv_bipush (v := (10 : Int32)) hx hb dX5_readNumber_46 (by decide) ?_
          refine lv_imul hx hb dX5_readNumber_48 ?_
          refine lv_aload_n hx hb dX5_readNumber_49 rfl (lv_at hl 0 rfl) ?_
          refine va_get (D := D) (ci := 5) (v := .ref a_t_text) (C := RX5) (T := TX5) (N := 17) hx hb hts in_X5_readNumber_X5 hown hK hP 0 rfl rfl 0 (by decide) (hts (.fieldLink RX5 9 "DivisionHall$Reader" "text" "[I") (by decide +kernel)) (fun _ h9 => h9) rfl dX5_readNumber_50 ?_
          refine lv_aload_n hx hb dX5_readNumber_53 rfl (lv_at hl 0 rfl) ?_
          refine va_get (D := D) (ci := 5) (v := .int t_at) (C := RX5) (T := TX5) (N := 17) hx hb hts in_X5_readNumber_X5 hown hK hP 0 rfl rfl 8 (by decide) (hts (.fieldLink RX5 37 "DivisionHall$Reader" "at" "I") (by decide +kernel)) (fun _ h9 => h9) rfl dX5_readNumber_54 ?_
          obtain ⟨hi7, hf⟩ := gin_s hf
          refine va_iald hx hb hK hP 1 0 rfl rfl hi7 dX5_readNumber_57 ?_
          refine lv_iadd hx hb dX5_readNumber_58 ?_
          refine lv_bipush (v := (48 : Int32)) hx hb dX5_readNumber_59 (by decide) ?_
          refine lv_isub hx hb dX5_readNumber_61 ?_
          refine va_put (D := D) (ci := 5) (v := .int (((t_number * (10 : Int32)) + (t_text_r (t_at).toNatClampNeg)) - (48 : Int32))) (ty := .int) (C := RX5) (T := TX5) (N := 17) hx hb hts in_X5_readNumber_X5 tyX5 tyX5_ok nmX5 hown hK hP hD hS 0 rfl rfl 11 (by decide) (hts (.fieldLink RX5 115 "DivisionHall$Reader" "number" "I") (by decide +kernel)) (fun _ h9 => h9) rfl (by decide +kernel) rfl rfl (Nat.le_of_ble_eq_true rfl) dX5_readNumber_62 (fun H locs hP hD hS => ?_)
          have hP : va_P D vwCl (wd_X5_readNumber cI cZ cR a_t a_t_text a_t_code a_t_waiting t_length t_codes t_waits t_fault t_faultPlace t_at t_place t_sign (((t_number * (10 : Int32)) + (t_text_r (t_at).toNatClampNeg)) - (48 : Int32)) t_state t_name t_compared t_open t_parentheses t_text_r) H := hP
          have hD : va_D A (wd_X5_readNumber cI cZ cR a_t a_t_text a_t_code a_t_waiting t_length t_codes t_waits t_fault t_faultPlace t_at t_place t_sign (((t_number * (10 : Int32)) + (t_text_r (t_at).toNatClampNeg)) - (48 : Int32)) t_state t_name t_compared t_open t_parentheses t_text_r) := hD
          refine lv_aload_n hx hb dX5_readNumber_65 rfl (lv_at hl 0 rfl) ?_
          refine lv_dup hx hb dX5_readNumber_66 rfl ?_
          refine va_get (D := D) (ci := 5) (v := .int t_at) (C := RX5) (T := TX5) (N := 17) hx hb hts in_X5_readNumber_X5 hown hK hP 0 rfl rfl 8 (by decide) (hts (.fieldLink RX5 37 "DivisionHall$Reader" "at" "I") (by decide +kernel)) (fun _ h9 => h9) rfl dX5_readNumber_67 ?_
          refine lv_iconst (v := (1 : Int32)) hx hb dX5_readNumber_70 (by decide) ?_
          refine lv_iadd hx hb dX5_readNumber_71 ?_
          refine va_put (D := D) (ci := 5) (v := .int (t_at + (1 : Int32))) (ty := .int) (C := RX5) (T := TX5) (N := 17) hx hb hts in_X5_readNumber_X5 tyX5 tyX5_ok nmX5 hown hK hP hD hS 0 rfl rfl 8 (by decide) (hts (.fieldLink RX5 37 "DivisionHall$Reader" "at" "I") (by decide +kernel)) (fun _ h9 => h9) rfl (by decide +kernel) rfl rfl (Nat.le_of_ble_eq_true rfl) dX5_readNumber_72 (fun H locs hP hD hS => ?_)
          have hP : va_P D vwCl (wd_X5_readNumber cI cZ cR a_t a_t_text a_t_code a_t_waiting t_length t_codes t_waits t_fault t_faultPlace (t_at + (1 : Int32)) t_place t_sign (((t_number * (10 : Int32)) + (t_text_r (t_at).toNatClampNeg)) - (48 : Int32)) t_state t_name t_compared t_open t_parentheses t_text_r) H := hP
          have hD : va_D A (wd_X5_readNumber cI cZ cR a_t a_t_text a_t_code a_t_waiting t_length t_codes t_waits t_fault t_faultPlace (t_at + (1 : Int32)) t_place t_sign (((t_number * (10 : Int32)) + (t_text_r (t_at).toNatClampNeg)) - (48 : Int32)) t_state t_name t_compared t_open t_parentheses t_text_r) := hD
          refine lv_goto (tgt := 5) hx hb dX5_readNumber_75 (by decide) ?_
          exact ih (t_at + (1 : Int32)) (((t_number * (10 : Int32)) + (t_text_r (t_at).toNatClampNeg)) - (48 : Int32)) t_sign hf _ _ hP hD hS _ (lv_sub hl [0] rfl)
set_option maxHeartbeats 4000000 in
set_option maxRecDepth 100000 in
theorem c_X5_readNumber (l : Launch) (D : va_G) (cI cZ cR : ClassId) {a_t a_t_text a_t_code a_t_waiting : Nat} {t_length : Int32} {t_codes : Int32} {t_waits : Int32} {t_fault : Int32} {t_faultPlace : Int32} {t_at : Int32} {t_place : Int32} {t_sign : Int32} {t_number : Int32} {t_state : Int32} {t_name : Int32} {t_compared : Int32} {t_open : Int32} {t_parentheses : Int32} {t_text_r : Nat → Int32} {sz : Nat} {out : Int32 × Int32 × Int32} (hf : F_X5_readNumber t_at t_length t_number t_place t_sign t_text_r = some out) : CV l yX5_readNumber wsX5_readNumber ({ frames := 1, cells := 0, slots := 0, locals := 20 } : Room) D cI cZ cR [.ref a_t] (wd_X5_readNumber cI cZ cR a_t a_t_text a_t_code a_t_waiting t_length t_codes t_waits t_fault t_faultPlace t_at t_place t_sign t_number t_state t_name t_compared t_open t_parentheses t_text_r) sz (wd_X5_readNumber cI cZ cR a_t a_t_text a_t_code a_t_waiting t_length t_codes t_waits t_fault t_faultPlace (out.1) t_place (out.2.2) (out.2.1) t_state t_name t_compared t_open t_parentheses t_text_r) := by
  refine met_of (Qf := fun A => qv D cI cZ cR A (wd_X5_readNumber cI cZ cR a_t a_t_text a_t_code a_t_waiting t_length t_codes t_waits t_fault t_faultPlace (out.1) t_place (out.2.2) (out.2.1) t_state t_name t_compared t_open t_parentheses t_text_r)) RX5 (by decide +kernel) rfl rfl (Nat.le_of_ble_eq_true rfl) ?_
  intro p e s m below meth c A X hK hA hP hD hS ls hl
  have hl : lv_has ls 1 [(0, .ref a_t)] := hl
  obtain ⟨hx, hb, hml, hr, hown, hts, hlocks, hN⟩ := id X
  unfold F_X5_readNumber at hf
  refine lv_aload_n hx hb dX5_readNumber_0 rfl (lv_at hl 0 rfl) ?_
  refine lv_iconst (v := (0 : Int32)) hx hb dX5_readNumber_1 (by decide) ?_
  refine va_put (D := D) (ci := 5) (v := .int (0 : Int32)) (ty := .int) (C := RX5) (T := TX5) (N := 17) hx hb hts in_X5_readNumber_X5 tyX5 tyX5_ok nmX5 hown hK hP hD hS 0 rfl rfl 11 (by decide) (hts (.fieldLink RX5 115 "DivisionHall$Reader" "number" "I") (by decide +kernel)) (fun _ h9 => h9) rfl (by decide +kernel) rfl rfl (Nat.le_of_ble_eq_true rfl) dX5_readNumber_2 (fun H locs hP hD hS => ?_)
  have hP : va_P D vwCl (wd_X5_readNumber cI cZ cR a_t a_t_text a_t_code a_t_waiting t_length t_codes t_waits t_fault t_faultPlace t_at t_place t_sign (0 : Int32) t_state t_name t_compared t_open t_parentheses t_text_r) H := hP
  have hD : va_D A (wd_X5_readNumber cI cZ cR a_t a_t_text a_t_code a_t_waiting t_length t_codes t_waits t_fault t_faultPlace t_at t_place t_sign (0 : Int32) t_state t_name t_compared t_open t_parentheses t_text_r) := hD
  exact w_X5_readNumber_5 X hK hA _ t_at (0 : Int32) t_sign hf _ _ hP hD hS _ (lv_sub hl [0] rfl)

abbrev wd_X5_isLetter (cI cZ cR : ClassId) : va_W := []
set_option maxHeartbeats 4000000 in
set_option maxRecDepth 100000 in
theorem w_X5_isLetter_12 {p : Program} {l : Launch} {e : Env} {s : State} {m : MethodId} {args : Array Value} {below : List Frame} {meth : Method} {c : Code} {D : va_G} {cI cZ cR : ClassId} {A : Nat → Prop} {x0 : Int32} {out : Int32} (X : cx p s m args meth c cX5_isLetter 1 (some .boolean) RX5 wsX5_isLetter) (hK : va_K D vwCl (ty3 cI cZ cR) s) (hA : ∀ q, s.heap.size ≤ q → A q) : F_X5_isLetter_12 x0 = some out → ∀ (H : Heap) (locs : List Loc), va_P D vwCl (wd_X5_isLetter cI cZ cR) H → va_D A (wd_X5_isLetter cI cZ cR) → va_S A s.heap H locs → ∀ (ls : Array Slot), lv_has ls 1 [(0, .int x0)] → W p l e (headSpec wsX5_isLetter ({ frames := 0, cells := 0, slots := 0, locals := 0 } : Room)).room s m args below meth c H locs 0 0 (MQ below (qi D cI cZ cR A (out) (wd_X5_isLetter cI cZ cR)) args s 0 0 A) (F0 m 12 ls []) := by
  obtain ⟨hx, hb, hml, hr, hown, hts, hlocks, hN⟩ := id X
  intro hf H locs hP hD hS ls hl
  unfold F_X5_isLetter_12 at hf
  refine lv_iload_n hx hb dX5_isLetter_12 rfl (lv_at hl 0 rfl) ?_
  refine lv_bipush (v := (65 : Int32)) hx hb dX5_isLetter_13 (by decide) ?_
  refine lv_icmp_lt (tgt := 28) hx hb dX5_isLetter_15 (by decide) (fun c3 => ?_) (fun c3 => ?_)
  · have hf := ipos c3 hf
    refine lv_iconst (v := (0 : Int32)) hx hb dX5_isLetter_28 (by decide) ?_
    cases hf
    exact retz (Or.inl rfl) X hK hP hD hS dX5_isLetter_29
  · have hf := ineg c3 hf
    refine lv_iload_n hx hb dX5_isLetter_18 rfl (lv_at hl 0 rfl) ?_
    refine lv_bipush (v := (90 : Int32)) hx hb dX5_isLetter_19 (by decide) ?_
    refine lv_icmp_gt (tgt := 28) hx hb dX5_isLetter_21 (by decide) (fun c4 => ?_) (fun c4 => ?_)
    · have hf := ipos c4 hf
      refine lv_iconst (v := (0 : Int32)) hx hb dX5_isLetter_28 (by decide) ?_
      cases hf
      exact retz (Or.inl rfl) X hK hP hD hS dX5_isLetter_29
    · have hf := ineg c4 hf
      refine lv_iconst (v := (1 : Int32)) hx hb dX5_isLetter_24 (by decide) ?_
      refine lv_goto (tgt := 29) hx hb dX5_isLetter_25 (by decide) ?_
      cases hf
      exact retz (Or.inr rfl) X hK hP hD hS dX5_isLetter_29
set_option maxHeartbeats 4000000 in
set_option maxRecDepth 100000 in
theorem c_X5_isLetter (l : Launch) (D : va_G) (cI cZ cR : ClassId) {x0 : Int32} {sz : Nat} {out : Int32} (hf : F_X5_isLetter x0 = some out) : CI l yX5_isLetter wsX5_isLetter ({ frames := 0, cells := 0, slots := 0, locals := 0 } : Room) D cI cZ cR [.int x0] (wd_X5_isLetter cI cZ cR) sz (out) (wd_X5_isLetter cI cZ cR) := by
  refine met_of (Qf := fun A => qi D cI cZ cR A (out) (wd_X5_isLetter cI cZ cR)) RX5 (by decide +kernel) rfl rfl (Nat.le_of_ble_eq_true rfl) ?_
  intro p e s m below meth c A X hK hA hP hD hS ls hl
  have hl : lv_has ls 1 [(0, .int x0)] := hl
  obtain ⟨hx, hb, hml, hr, hown, hts, hlocks, hN⟩ := id X
  unfold F_X5_isLetter at hf
  refine lv_iload_n hx hb dX5_isLetter_0 rfl (lv_at hl 0 rfl) ?_
  refine lv_bipush (v := (97 : Int32)) hx hb dX5_isLetter_1 (by decide) ?_
  refine lv_icmp_lt (tgt := 12) hx hb dX5_isLetter_3 (by decide) (fun c1 => ?_) (fun c1 => ?_)
  · have hf := ipos c1 hf
    exact w_X5_isLetter_12 X hK hA hf _ _ hP hD hS _ (lv_sub hl [0] rfl)
  · have hf := ineg c1 hf
    refine lv_iload_n hx hb dX5_isLetter_6 rfl (lv_at hl 0 rfl) ?_
    refine lv_bipush (v := (122 : Int32)) hx hb dX5_isLetter_7 (by decide) ?_
    refine lv_icmp_le (tgt := 24) hx hb dX5_isLetter_9 (by decide) (fun c2 => ?_) (fun c2 => ?_)
    · have hf := ipos c2 hf
      refine lv_iconst (v := (1 : Int32)) hx hb dX5_isLetter_24 (by decide) ?_
      refine lv_goto (tgt := 29) hx hb dX5_isLetter_25 (by decide) ?_
      cases hf
      exact retz (Or.inr rfl) X hK hP hD hS dX5_isLetter_29
    · have hf := ineg c2 hf
      exact w_X5_isLetter_12 X hK hA hf _ _ hP hD hS _ (lv_sub hl [0] rfl)

abbrev wd_X5_emit (cI cZ cR : ClassId) (a_t a_t_text a_t_code a_t_waiting : Nat) (t_length t_codes t_waits t_fault t_faultPlace t_at t_place t_sign t_number t_state t_name t_compared t_open t_parentheses : Int32) (t_code_r : Nat → Int32) : va_W := [(a_t, oB 5 [.ref a_t_text, .ref a_t_code, .ref a_t_waiting, .int t_length, .int t_codes, .int t_waits, .int t_fault, .int t_faultPlace, .int t_at, .int t_place, .int t_sign, .int t_number, .int t_state, .int t_name, .int t_compared, .int t_open, .int t_parentheses]), (a_t_code, aI cI 400 t_code_r)]
set_option maxRecDepth 100000 in
theorem in_X5_emit_X5 : ∀ w ∈ wsX50, w ∈ wsX5_emit := by decide +kernel
set_option maxHeartbeats 4000000 in
set_option maxRecDepth 100000 in
theorem c_X5_emit (l : Launch) (D : va_G) (cI cZ cR : ClassId) {a_t a_t_text a_t_code a_t_waiting : Nat} {t_length : Int32} {t_codes : Int32} {t_waits : Int32} {t_fault : Int32} {t_faultPlace : Int32} {t_at : Int32} {t_place : Int32} {t_sign : Int32} {t_number : Int32} {t_state : Int32} {t_name : Int32} {t_compared : Int32} {t_open : Int32} {t_parentheses : Int32} {t_code_r : Nat → Int32} {x1 : Int32} {x2 : Int32} {sz : Nat} {out : Int32 × (Nat → Int32)} (hf : F_X5_emit x1 x2 t_codes t_code_r = some out) : CV l yX5_emit wsX5_emit ({ frames := 1, cells := 0, slots := 0, locals := 21 } : Room) D cI cZ cR [.ref a_t, .int x1, .int x2] (wd_X5_emit cI cZ cR a_t a_t_text a_t_code a_t_waiting t_length t_codes t_waits t_fault t_faultPlace t_at t_place t_sign t_number t_state t_name t_compared t_open t_parentheses t_code_r) sz (wd_X5_emit cI cZ cR a_t a_t_text a_t_code a_t_waiting t_length (out.1) t_waits t_fault t_faultPlace t_at t_place t_sign t_number t_state t_name t_compared t_open t_parentheses (out.2)) := by
  refine met_of (Qf := fun A => qv D cI cZ cR A (wd_X5_emit cI cZ cR a_t a_t_text a_t_code a_t_waiting t_length (out.1) t_waits t_fault t_faultPlace t_at t_place t_sign t_number t_state t_name t_compared t_open t_parentheses (out.2))) RX5 (by decide +kernel) rfl rfl (Nat.le_of_ble_eq_true rfl) ?_
  intro p e s m below meth c A X hK hA hP hD hS ls hl
  have hl : lv_has ls 3 [(0, .ref a_t), (1, .int x1), (2, .int x2)] := hl
  obtain ⟨hx, hb, hml, hr, hown, hts, hlocks, hN⟩ := id X
  unfold F_X5_emit at hf
  refine lv_aload_n hx hb dX5_emit_0 rfl (lv_at hl 0 rfl) ?_
  refine va_get (D := D) (ci := 5) (v := .int t_codes) (C := RX5) (T := TX5) (N := 17) hx hb hts in_X5_emit_X5 hown hK hP 0 rfl rfl 4 (by decide) (hts (.fieldLink RX5 28 "DivisionHall$Reader" "codes" "I") (by decide +kernel)) (fun _ h9 => h9) rfl dX5_emit_1 ?_
  refine lv_sipush (v := (400 : Int32)) hx hb dX5_emit_4 (by decide) ?_
  obtain ⟨r1, hr2, hf⟩ := bnd hf
  refine wcalli (D := D) (cI := cI) (cZ := cZ) (cR := cR) (wc := (wd_X11_inside cI cZ cR)) (w' := (wd_X11_inside cI cZ cR)) [] hP hD hS hA rfl rfl rfl (rnSN (As := [.int t_codes, .int (400 : Int32)]) X [] hK hP hD rfl rfl (c_X11_inside l D cI cZ cR hr2) ⟨va_cnB (host := "DivisionHall") 2 hts ggX5_emit_X11_inside rfl rfl rfl (hN.2.1 ("DivisionHall$Reader", 165, yX11_inside, "DivisionHall") (by decide +kernel)) (hts (.initialized RX11) (by decide +kernel)) (by decide +kernel) ⟨Nat.le_of_ble_eq_true rfl, Nat.le_of_ble_eq_true rfl⟩, hts (.static yX11_inside) (by decide +kernel), trivial⟩ rfl hl.1 rfl (Nat.le_of_ble_eq_true rfl) dX5_emit_7) (fun H locs hP hD hS => ?_)
  have hP : va_P D vwCl (wd_X5_emit cI cZ cR a_t a_t_text a_t_code a_t_waiting t_length t_codes t_waits t_fault t_faultPlace t_at t_place t_sign t_number t_state t_name t_compared t_open t_parentheses t_code_r) H := hP
  have hD : va_D A (wd_X5_emit cI cZ cR a_t a_t_text a_t_code a_t_waiting t_length t_codes t_waits t_fault t_faultPlace t_at t_place t_sign t_number t_state t_name t_compared t_open t_parentheses t_code_r) := hD
  refine lv_if_eq (tgt := 42) hx hb dX5_emit_10 (by decide) (fun c3 => ?_) (fun c3 => ?_)
  · have hf := ipos c3 hf
    cases hf
    exact retv X hK hP hD hS dX5_emit_42
  · have hf := ineg c3 hf
    refine lv_aload_n hx hb dX5_emit_13 rfl (lv_at hl 0 rfl) ?_
    refine va_get (D := D) (ci := 5) (v := .ref a_t_code) (C := RX5) (T := TX5) (N := 17) hx hb hts in_X5_emit_X5 hown hK hP 0 rfl rfl 1 (by decide) (hts (.fieldLink RX5 15 "DivisionHall$Reader" "code" "[I") (by decide +kernel)) (fun _ h9 => h9) rfl dX5_emit_14 ?_
    refine lv_aload_n hx hb dX5_emit_17 rfl (lv_at hl 0 rfl) ?_
    refine va_get (D := D) (ci := 5) (v := .int t_codes) (C := RX5) (T := TX5) (N := 17) hx hb hts in_X5_emit_X5 hown hK hP 0 rfl rfl 4 (by decide) (hts (.fieldLink RX5 28 "DivisionHall$Reader" "codes" "I") (by decide +kernel)) (fun _ h9 => h9) rfl dX5_emit_18 ?_
    refine lv_iload_n hx hb dX5_emit_21 rfl (lv_at hl 1 rfl) ?_
    refine lv_bipush (v := (14 : Int32)) hx hb dX5_emit_22 (by decide) ?_
    refine lv_ishl hx hb dX5_emit_24 ?_
    refine lv_iload_n hx hb dX5_emit_25 rfl (lv_at hl 2 rfl) ?_
    refine lv_sipush (v := (16383 : Int32)) hx hb dX5_emit_26 (by decide) ?_
    refine lv_iand hx hb dX5_emit_29 ?_
    refine lv_ior hx hb dX5_emit_30 ?_
    obtain ⟨hi4, hf⟩ := gin_s hf
    refine va_iast hx hb hK hP hD hS 1 0 rfl rfl hi4 dX5_emit_31 (fun H locs hP hD hS => ?_)
    have hP : va_P D vwCl (wd_X5_emit cI cZ cR a_t a_t_text a_t_code a_t_waiting t_length t_codes t_waits t_fault t_faultPlace t_at t_place t_sign t_number t_state t_name t_compared t_open t_parentheses (upd t_code_r (t_codes).toNatClampNeg ((x1 <<< ((14 : Int32) &&& 31)) ||| (x2 &&& (16383 : Int32))))) H := hP
    have hD : va_D A (wd_X5_emit cI cZ cR a_t a_t_text a_t_code a_t_waiting t_length t_codes t_waits t_fault t_faultPlace t_at t_place t_sign t_number t_state t_name t_compared t_open t_parentheses (upd t_code_r (t_codes).toNatClampNeg ((x1 <<< ((14 : Int32) &&& 31)) ||| (x2 &&& (16383 : Int32))))) := hD
    refine lv_aload_n hx hb dX5_emit_32 rfl (lv_at hl 0 rfl) ?_
    refine lv_dup hx hb dX5_emit_33 rfl ?_
    refine va_get (D := D) (ci := 5) (v := .int t_codes) (C := RX5) (T := TX5) (N := 17) hx hb hts in_X5_emit_X5 hown hK hP 0 rfl rfl 4 (by decide) (hts (.fieldLink RX5 28 "DivisionHall$Reader" "codes" "I") (by decide +kernel)) (fun _ h9 => h9) rfl dX5_emit_34 ?_
    refine lv_iconst (v := (1 : Int32)) hx hb dX5_emit_37 (by decide) ?_
    refine lv_iadd hx hb dX5_emit_38 ?_
    refine va_put (D := D) (ci := 5) (v := .int (t_codes + (1 : Int32))) (ty := .int) (C := RX5) (T := TX5) (N := 17) hx hb hts in_X5_emit_X5 tyX5 tyX5_ok nmX5 hown hK hP hD hS 0 rfl rfl 4 (by decide) (hts (.fieldLink RX5 28 "DivisionHall$Reader" "codes" "I") (by decide +kernel)) (fun _ h9 => h9) rfl (by decide +kernel) rfl rfl (Nat.le_of_ble_eq_true rfl) dX5_emit_39 (fun H locs hP hD hS => ?_)
    have hP : va_P D vwCl (wd_X5_emit cI cZ cR a_t a_t_text a_t_code a_t_waiting t_length (t_codes + (1 : Int32)) t_waits t_fault t_faultPlace t_at t_place t_sign t_number t_state t_name t_compared t_open t_parentheses (upd t_code_r (t_codes).toNatClampNeg ((x1 <<< ((14 : Int32) &&& 31)) ||| (x2 &&& (16383 : Int32))))) H := hP
    have hD : va_D A (wd_X5_emit cI cZ cR a_t a_t_text a_t_code a_t_waiting t_length (t_codes + (1 : Int32)) t_waits t_fault t_faultPlace t_at t_place t_sign t_number t_state t_name t_compared t_open t_parentheses (upd t_code_r (t_codes).toNatClampNeg ((x1 <<< ((14 : Int32) &&& 31)) ||| (x2 &&& (16383 : Int32))))) := hD
    cases hf
    exact retv X hK hP hD hS dX5_emit_42

abbrev wd_X5_push (cI cZ cR : ClassId) (a_t a_t_text a_t_code a_t_waiting : Nat) (t_length t_codes t_waits t_fault t_faultPlace t_at t_place t_sign t_number t_state t_name t_compared t_open t_parentheses : Int32) (t_waiting_r : Nat → Int32) : va_W := [(a_t, oB 5 [.ref a_t_text, .ref a_t_code, .ref a_t_waiting, .int t_length, .int t_codes, .int t_waits, .int t_fault, .int t_faultPlace, .int t_at, .int t_place, .int t_sign, .int t_number, .int t_state, .int t_name, .int t_compared, .int t_open, .int t_parentheses]), (a_t_waiting, aI cI 40 t_waiting_r)]
set_option maxRecDepth 100000 in
theorem in_X5_push_X5 : ∀ w ∈ wsX50, w ∈ wsX5_push := by decide +kernel
set_option maxHeartbeats 4000000 in
set_option maxRecDepth 100000 in
theorem c_X5_push (l : Launch) (D : va_G) (cI cZ cR : ClassId) {a_t a_t_text a_t_code a_t_waiting : Nat} {t_length : Int32} {t_codes : Int32} {t_waits : Int32} {t_fault : Int32} {t_faultPlace : Int32} {t_at : Int32} {t_place : Int32} {t_sign : Int32} {t_number : Int32} {t_state : Int32} {t_name : Int32} {t_compared : Int32} {t_open : Int32} {t_parentheses : Int32} {t_waiting_r : Nat → Int32} {sz : Nat} {out : Int32 × (Nat → Int32)} (hf : F_X5_push t_sign t_waits t_waiting_r = some out) : CV l yX5_push wsX5_push ({ frames := 1, cells := 0, slots := 0, locals := 21 } : Room) D cI cZ cR [.ref a_t] (wd_X5_push cI cZ cR a_t a_t_text a_t_code a_t_waiting t_length t_codes t_waits t_fault t_faultPlace t_at t_place t_sign t_number t_state t_name t_compared t_open t_parentheses t_waiting_r) sz (wd_X5_push cI cZ cR a_t a_t_text a_t_code a_t_waiting t_length t_codes (out.1) t_fault t_faultPlace t_at t_place t_sign t_number t_state t_name t_compared t_open t_parentheses (out.2)) := by
  refine met_of (Qf := fun A => qv D cI cZ cR A (wd_X5_push cI cZ cR a_t a_t_text a_t_code a_t_waiting t_length t_codes (out.1) t_fault t_faultPlace t_at t_place t_sign t_number t_state t_name t_compared t_open t_parentheses (out.2))) RX5 (by decide +kernel) rfl rfl (Nat.le_of_ble_eq_true rfl) ?_
  intro p e s m below meth c A X hK hA hP hD hS ls hl
  have hl : lv_has ls 1 [(0, .ref a_t)] := hl
  obtain ⟨hx, hb, hml, hr, hown, hts, hlocks, hN⟩ := id X
  unfold F_X5_push at hf
  refine lv_aload_n hx hb dX5_push_0 rfl (lv_at hl 0 rfl) ?_
  refine va_get (D := D) (ci := 5) (v := .int t_waits) (C := RX5) (T := TX5) (N := 17) hx hb hts in_X5_push_X5 hown hK hP 0 rfl rfl 5 (by decide) (hts (.fieldLink RX5 31 "DivisionHall$Reader" "waits" "I") (by decide +kernel)) (fun _ h9 => h9) rfl dX5_push_1 ?_
  refine lv_bipush (v := (40 : Int32)) hx hb dX5_push_4 (by decide) ?_
  obtain ⟨r1, hr2, hf⟩ := bnd hf
  refine wcalli (D := D) (cI := cI) (cZ := cZ) (cR := cR) (wc := (wd_X11_inside cI cZ cR)) (w' := (wd_X11_inside cI cZ cR)) [] hP hD hS hA rfl rfl rfl (rnSN (As := [.int t_waits, .int (40 : Int32)]) X [] hK hP hD rfl rfl (c_X11_inside l D cI cZ cR hr2) ⟨va_cnB (host := "DivisionHall") 2 hts ggX5_push_X11_inside rfl rfl rfl (hN.2.1 ("DivisionHall$Reader", 165, yX11_inside, "DivisionHall") (by decide +kernel)) (hts (.initialized RX11) (by decide +kernel)) (by decide +kernel) ⟨Nat.le_of_ble_eq_true rfl, Nat.le_of_ble_eq_true rfl⟩, hts (.static yX11_inside) (by decide +kernel), trivial⟩ rfl hl.1 rfl (Nat.le_of_ble_eq_true rfl) dX5_push_6) (fun H locs hP hD hS => ?_)
  have hP : va_P D vwCl (wd_X5_push cI cZ cR a_t a_t_text a_t_code a_t_waiting t_length t_codes t_waits t_fault t_faultPlace t_at t_place t_sign t_number t_state t_name t_compared t_open t_parentheses t_waiting_r) H := hP
  have hD : va_D A (wd_X5_push cI cZ cR a_t a_t_text a_t_code a_t_waiting t_length t_codes t_waits t_fault t_faultPlace t_at t_place t_sign t_number t_state t_name t_compared t_open t_parentheses t_waiting_r) := hD
  refine lv_if_eq (tgt := 35) hx hb dX5_push_9 (by decide) (fun c3 => ?_) (fun c3 => ?_)
  · have hf := ipos c3 hf
    cases hf
    exact retv X hK hP hD hS dX5_push_35
  · have hf := ineg c3 hf
    refine lv_aload_n hx hb dX5_push_12 rfl (lv_at hl 0 rfl) ?_
    refine va_get (D := D) (ci := 5) (v := .ref a_t_waiting) (C := RX5) (T := TX5) (N := 17) hx hb hts in_X5_push_X5 hown hK hP 0 rfl rfl 2 (by decide) (hts (.fieldLink RX5 18 "DivisionHall$Reader" "waiting" "[I") (by decide +kernel)) (fun _ h9 => h9) rfl dX5_push_13 ?_
    refine lv_aload_n hx hb dX5_push_16 rfl (lv_at hl 0 rfl) ?_
    refine va_get (D := D) (ci := 5) (v := .int t_waits) (C := RX5) (T := TX5) (N := 17) hx hb hts in_X5_push_X5 hown hK hP 0 rfl rfl 5 (by decide) (hts (.fieldLink RX5 31 "DivisionHall$Reader" "waits" "I") (by decide +kernel)) (fun _ h9 => h9) rfl dX5_push_17 ?_
    refine lv_aload_n hx hb dX5_push_20 rfl (lv_at hl 0 rfl) ?_
    refine va_get (D := D) (ci := 5) (v := .int t_sign) (C := RX5) (T := TX5) (N := 17) hx hb hts in_X5_push_X5 hown hK hP 0 rfl rfl 10 (by decide) (hts (.fieldLink RX5 64 "DivisionHall$Reader" "sign" "I") (by decide +kernel)) (fun _ h9 => h9) rfl dX5_push_21 ?_
    obtain ⟨hi4, hf⟩ := gin_s hf
    refine va_iast hx hb hK hP hD hS 1 0 rfl rfl hi4 dX5_push_24 (fun H locs hP hD hS => ?_)
    have hP : va_P D vwCl (wd_X5_push cI cZ cR a_t a_t_text a_t_code a_t_waiting t_length t_codes t_waits t_fault t_faultPlace t_at t_place t_sign t_number t_state t_name t_compared t_open t_parentheses (upd t_waiting_r (t_waits).toNatClampNeg t_sign)) H := hP
    have hD : va_D A (wd_X5_push cI cZ cR a_t a_t_text a_t_code a_t_waiting t_length t_codes t_waits t_fault t_faultPlace t_at t_place t_sign t_number t_state t_name t_compared t_open t_parentheses (upd t_waiting_r (t_waits).toNatClampNeg t_sign)) := hD
    refine lv_aload_n hx hb dX5_push_25 rfl (lv_at hl 0 rfl) ?_
    refine lv_dup hx hb dX5_push_26 rfl ?_
    refine va_get (D := D) (ci := 5) (v := .int t_waits) (C := RX5) (T := TX5) (N := 17) hx hb hts in_X5_push_X5 hown hK hP 0 rfl rfl 5 (by decide) (hts (.fieldLink RX5 31 "DivisionHall$Reader" "waits" "I") (by decide +kernel)) (fun _ h9 => h9) rfl dX5_push_27 ?_
    refine lv_iconst (v := (1 : Int32)) hx hb dX5_push_30 (by decide) ?_
    refine lv_iadd hx hb dX5_push_31 ?_
    refine va_put (D := D) (ci := 5) (v := .int (t_waits + (1 : Int32))) (ty := .int) (C := RX5) (T := TX5) (N := 17) hx hb hts in_X5_push_X5 tyX5 tyX5_ok nmX5 hown hK hP hD hS 0 rfl rfl 5 (by decide) (hts (.fieldLink RX5 31 "DivisionHall$Reader" "waits" "I") (by decide +kernel)) (fun _ h9 => h9) rfl (by decide +kernel) rfl rfl (Nat.le_of_ble_eq_true rfl) dX5_push_32 (fun H locs hP hD hS => ?_)
    have hP : va_P D vwCl (wd_X5_push cI cZ cR a_t a_t_text a_t_code a_t_waiting t_length t_codes (t_waits + (1 : Int32)) t_fault t_faultPlace t_at t_place t_sign t_number t_state t_name t_compared t_open t_parentheses (upd t_waiting_r (t_waits).toNatClampNeg t_sign)) H := hP
    have hD : va_D A (wd_X5_push cI cZ cR a_t a_t_text a_t_code a_t_waiting t_length t_codes (t_waits + (1 : Int32)) t_fault t_faultPlace t_at t_place t_sign t_number t_state t_name t_compared t_open t_parentheses (upd t_waiting_r (t_waits).toNatClampNeg t_sign)) := hD
    cases hf
    exact retv X hK hP hD hS dX5_push_35

abbrev wd_X5_release (cI cZ cR : ClassId) (a_t a_t_text a_t_code a_t_waiting : Nat) (t_length t_codes t_waits t_fault t_faultPlace t_at t_place t_sign t_number t_state t_name t_compared t_open t_parentheses : Int32) (t_code_r : Nat → Int32) (t_waiting_r : Nat → Int32) : va_W := [(a_t, oB 5 [.ref a_t_text, .ref a_t_code, .ref a_t_waiting, .int t_length, .int t_codes, .int t_waits, .int t_fault, .int t_faultPlace, .int t_at, .int t_place, .int t_sign, .int t_number, .int t_state, .int t_name, .int t_compared, .int t_open, .int t_parentheses]), (a_t_code, aI cI 400 t_code_r), (a_t_waiting, aI cI 40 t_waiting_r)]
set_option maxRecDepth 100000 in
theorem in_X5_release_X5 : ∀ w ∈ wsX50, w ∈ wsX5_release := by decide +kernel
set_option maxHeartbeats 4000000 in
set_option maxRecDepth 100000 in
theorem w_X5_release_69 {p : Program} {l : Launch} {e : Env} {s : State} {m : MethodId} {args : Array Value} {below : List Frame} {meth : Method} {c : Code} {D : va_G} {cI cZ cR : ClassId} {A : Nat → Prop} {a_t a_t_text a_t_code a_t_waiting : Nat} {t_length : Int32} {t_fault : Int32} {t_faultPlace : Int32} {t_at : Int32} {t_place : Int32} {t_sign : Int32} {t_number : Int32} {t_state : Int32} {t_name : Int32} {t_compared : Int32} {t_parentheses : Int32} {t_waiting_r : Nat → Int32} {x1 : Int32} {rec2 : Int32 → Int32 → Int32 → Int32 → (Nat → Int32) → Option (Int32 × Int32 × Int32 × (Nat → Int32))} {out : Int32 × Int32 × Int32 × (Nat → Int32)} (X : cx p s m args meth c cX5_release 4 none RX5 wsX5_release) (hK : va_K D vwCl (ty3 cI cZ cR) s) (hA : ∀ q, s.heap.size ≤ q → A q) (hrec2 : ∀ (x2 : Int32) (t_codes : Int32) (t_open : Int32) (t_waits : Int32) (t_code_r : Nat → Int32), rec2 x2 t_codes t_open t_waits t_code_r = some out → ∀ (H : Heap) (locs : List Loc), va_P D vwCl (wd_X5_release cI cZ cR a_t a_t_text a_t_code a_t_waiting t_length t_codes t_waits t_fault t_faultPlace t_at t_place t_sign t_number t_state t_name t_compared t_open t_parentheses t_code_r t_waiting_r) H → va_D A (wd_X5_release cI cZ cR a_t a_t_text a_t_code a_t_waiting t_length t_codes t_waits t_fault t_faultPlace t_at t_place t_sign t_number t_state t_name t_compared t_open t_parentheses t_code_r t_waiting_r) → va_S A s.heap H locs → ∀ (ls : Array Slot), lv_has ls 4 [(0, .ref a_t), (1, .int x1), (2, .int x2)] → W p l e (headSpec wsX5_release ({ frames := 2, cells := 0, slots := 0, locals := 43 } : Room)).room s m args below meth c H locs 0 0 (MQ below (qv D cI cZ cR A (wd_X5_release cI cZ cR a_t a_t_text a_t_code a_t_waiting t_length (out.1) (out.2.2.1) t_fault t_faultPlace t_at t_place t_sign t_number t_state t_name t_compared (out.2.1) t_parentheses (out.2.2.2) t_waiting_r)) args s 0 0 A) (F0 m 2 ls [])) : ∀ (x2 : Int32) (x3 : Int32) (t_codes : Int32) (t_open : Int32) (t_waits : Int32) (t_code_r : Nat → Int32), F_X5_release_69 x1 t_waiting_r rec2 x2 x3 t_codes t_open t_waits t_code_r = some out → ∀ (H : Heap) (locs : List Loc), va_P D vwCl (wd_X5_release cI cZ cR a_t a_t_text a_t_code a_t_waiting t_length t_codes t_waits t_fault t_faultPlace t_at t_place t_sign t_number t_state t_name t_compared t_open t_parentheses t_code_r t_waiting_r) H → va_D A (wd_X5_release cI cZ cR a_t a_t_text a_t_code a_t_waiting t_length t_codes t_waits t_fault t_faultPlace t_at t_place t_sign t_number t_state t_name t_compared t_open t_parentheses t_code_r t_waiting_r) → va_S A s.heap H locs → ∀ (ls : Array Slot), lv_has ls 4 [(0, .ref a_t), (1, .int x1), (2, .int x2), (3, .int x3)] → W p l e (headSpec wsX5_release ({ frames := 2, cells := 0, slots := 0, locals := 43 } : Room)).room s m args below meth c H locs 0 0 (MQ below (qv D cI cZ cR A (wd_X5_release cI cZ cR a_t a_t_text a_t_code a_t_waiting t_length (out.1) (out.2.2.1) t_fault t_faultPlace t_at t_place t_sign t_number t_state t_name t_compared (out.2.1) t_parentheses (out.2.2.2) t_waiting_r)) args s 0 0 A) (F0 m 69 ls []) := by
  obtain ⟨hx, hb, hml, hr, hown, hts, hlocks, hN⟩ := id X
  intro x2 x3 t_codes t_open t_waits t_code_r hf H locs hP hD hS ls hl
  unfold F_X5_release_69 at hf
  refine lv_aload_n hx hb dX5_release_69 rfl (lv_at hl 0 rfl) ?_
  refine lv_iload_n hx hb dX5_release_70 rfl (lv_at hl 3 rfl) ?_
  refine lv_iconst (v := (0 : Int32)) hx hb dX5_release_71 (by decide) ?_
  obtain ⟨r10, hr11, hf⟩ := bnd hf
  refine wcallv (D := D) (cI := cI) (cZ := cZ) (cR := cR) (wc := (wd_X5_emit cI cZ cR a_t a_t_text a_t_code a_t_waiting t_length t_codes t_waits t_fault t_faultPlace t_at t_place t_sign t_number t_state t_name t_compared t_open t_parentheses t_code_r)) (w' := (wd_X5_emit cI cZ cR a_t a_t_text a_t_code a_t_waiting t_length (r10.1) t_waits t_fault t_faultPlace t_at t_place t_sign t_number t_state t_name t_compared t_open t_parentheses (r10.2))) [0, 1] hP hD hS hA rfl rfl rfl (rnV (As := [.int x3, .int (0 : Int32)]) (ci := 5) (q0 := 0) X [0, 1] hK hP hD rfl rfl rfl rfl (c_X5_emit l D cI cZ cR hr11) (cwV 2 hts gX5_release_X5_emit rfl rfl rfl (by decide +kernel) ⟨Nat.le_of_ble_eq_true rfl, Nat.le_of_ble_eq_true rfl⟩) rfl hl.1 rfl (Nat.le_of_ble_eq_true rfl) dX5_release_72) (fun H locs hP hD hS => ?_)
  have hP : va_P D vwCl (wd_X5_release cI cZ cR a_t a_t_text a_t_code a_t_waiting t_length (r10.1) t_waits t_fault t_faultPlace t_at t_place t_sign t_number t_state t_name t_compared t_open t_parentheses (r10.2) t_waiting_r) H := hP
  have hD : va_D A (wd_X5_release cI cZ cR a_t a_t_text a_t_code a_t_waiting t_length (r10.1) t_waits t_fault t_faultPlace t_at t_place t_sign t_number t_state t_name t_compared t_open t_parentheses (r10.2) t_waiting_r) := hD
  refine lv_iinc (v := (x2 + (1 : Int32))) (lv' := [(2, .int (x2 + (1 : Int32))), (0, .ref a_t), (1, .int x1), (3, .int x3)]) hx hb dX5_release_75 hl (k := 2) rfl rfl (by decide) rfl (fun ls hl => ?_)
  refine lv_goto (tgt := 2) hx hb dX5_release_78 (by decide) ?_
  exact hrec2 (x2 + (1 : Int32)) (r10.1) t_open t_waits (r10.2) hf _ _ hP hD hS _ (lv_sub hl [1, 2, 0] rfl)
set_option maxHeartbeats 4000000 in
set_option maxRecDepth 100000 in
theorem w_X5_release_2 {p : Program} {l : Launch} {e : Env} {s : State} {m : MethodId} {args : Array Value} {below : List Frame} {meth : Method} {c : Code} {D : va_G} {cI cZ cR : ClassId} {A : Nat → Prop} {a_t a_t_text a_t_code a_t_waiting : Nat} {t_length : Int32} {t_fault : Int32} {t_faultPlace : Int32} {t_at : Int32} {t_place : Int32} {t_sign : Int32} {t_number : Int32} {t_state : Int32} {t_name : Int32} {t_compared : Int32} {t_parentheses : Int32} {t_waiting_r : Nat → Int32} {x1 : Int32} {out : Int32 × Int32 × Int32 × (Nat → Int32)} (X : cx p s m args meth c cX5_release 4 none RX5 wsX5_release) (hK : va_K D vwCl (ty3 cI cZ cR) s) (hA : ∀ q, s.heap.size ≤ q → A q) : ∀ (n : Nat) (x2 : Int32) (t_codes : Int32) (t_open : Int32) (t_waits : Int32) (t_code_r : Nat → Int32), F_X5_release_2 x1 t_waiting_r n x2 t_codes t_open t_waits t_code_r = some out → ∀ (H : Heap) (locs : List Loc), va_P D vwCl (wd_X5_release cI cZ cR a_t a_t_text a_t_code a_t_waiting t_length t_codes t_waits t_fault t_faultPlace t_at t_place t_sign t_number t_state t_name t_compared t_open t_parentheses t_code_r t_waiting_r) H → va_D A (wd_X5_release cI cZ cR a_t a_t_text a_t_code a_t_waiting t_length t_codes t_waits t_fault t_faultPlace t_at t_place t_sign t_number t_state t_name t_compared t_open t_parentheses t_code_r t_waiting_r) → va_S A s.heap H locs → ∀ (ls : Array Slot), lv_has ls 4 [(0, .ref a_t), (1, .int x1), (2, .int x2)] → W p l e (headSpec wsX5_release ({ frames := 2, cells := 0, slots := 0, locals := 43 } : Room)).room s m args below meth c H locs 0 0 (MQ below (qv D cI cZ cR A (wd_X5_release cI cZ cR a_t a_t_text a_t_code a_t_waiting t_length (out.1) (out.2.2.1) t_fault t_faultPlace t_at t_place t_sign t_number t_state t_name t_compared (out.2.1) t_parentheses (out.2.2.2) t_waiting_r)) args s 0 0 A) (F0 m 2 ls []) := by
  obtain ⟨hx, hb, hml, hr, hown, hts, hlocks, hN⟩ := id X
  intro n
  induction n with
  | zero =>
    intro x2 t_codes t_open t_waits t_code_r hf
    cases (show (none : Option (Int32 × Int32 × Int32 × (Nat → Int32))) = some out from hf)
  | succ n ih =>
    intro x2 t_codes t_open t_waits t_code_r hf H locs hP hD hS ls hl
    rw [F_X5_release_2] at hf
    refine lv_iload_n hx hb dX5_release_2 rfl (lv_at hl 2 rfl) ?_
    refine lv_bipush (v := (40 : Int32)) hx hb dX5_release_3 (by decide) ?_
    refine lv_icmp_ge (tgt := 81) hx hb dX5_release_5 (by decide) (fun c1 => ?_) (fun c1 => ?_)
    · have hf := ipos c1 hf
      cases hf
      exact retv X hK hP hD hS dX5_release_81
    · have hf := ineg c1 hf
      refine lv_aload_n hx hb dX5_release_8 rfl (lv_at hl 0 rfl) ?_
      refine va_get (D := D) (ci := 5) (v := .int t_waits) (C := RX5) (T := TX5) (N := 17) hx hb hts in_X5_release_X5 hown hK hP 0 rfl rfl 5 (by decide) (hts (.fieldLink RX5 31 "DivisionHall$Reader" "waits" "I") (by decide +kernel)) (fun _ h9 => h9) rfl dX5_release_9 ?_
      refine lv_iconst (v := (1 : Int32)) hx hb dX5_release_12 (by decide) ?_
      refine lv_isub hx hb dX5_release_13 ?_
      refine lv_bipush (v := (40 : Int32)) hx hb dX5_release_14 (by decide) ?_
      obtain ⟨r2, hr3, hf⟩ := bnd hf
      refine wcalli (D := D) (cI := cI) (cZ := cZ) (cR := cR) (wc := (wd_X11_inside cI cZ cR)) (w' := (wd_X11_inside cI cZ cR)) [] hP hD hS hA rfl rfl rfl (rnSN (As := [.int (t_waits - (1 : Int32)), .int (40 : Int32)]) X [] hK hP hD rfl rfl (c_X11_inside l D cI cZ cR hr3) ⟨va_cnB (host := "DivisionHall") 2 hts ggX5_release_X11_inside rfl rfl rfl (hN.2.1 ("DivisionHall$Reader", 165, yX11_inside, "DivisionHall") (by decide +kernel)) (hts (.initialized RX11) (by decide +kernel)) (by decide +kernel) ⟨Nat.le_of_ble_eq_true rfl, Nat.le_of_ble_eq_true rfl⟩, hts (.static yX11_inside) (by decide +kernel), trivial⟩ rfl hl.1 rfl (Nat.le_of_ble_eq_true rfl) dX5_release_16) (fun H locs hP hD hS => ?_)
      have hP : va_P D vwCl (wd_X5_release cI cZ cR a_t a_t_text a_t_code a_t_waiting t_length t_codes t_waits t_fault t_faultPlace t_at t_place t_sign t_number t_state t_name t_compared t_open t_parentheses t_code_r t_waiting_r) H := hP
      have hD : va_D A (wd_X5_release cI cZ cR a_t a_t_text a_t_code a_t_waiting t_length t_codes t_waits t_fault t_faultPlace t_at t_place t_sign t_number t_state t_name t_compared t_open t_parentheses t_code_r t_waiting_r) := hD
      refine lv_if_eq (tgt := 81) hx hb dX5_release_19 (by decide) (fun c4 => ?_) (fun c4 => ?_)
      · have hf := ipos c4 hf
        cases hf
        exact retv X hK hP hD hS dX5_release_81
      · have hf := ineg c4 hf
        refine lv_aload_n hx hb dX5_release_22 rfl (lv_at hl 0 rfl) ?_
        refine va_get (D := D) (ci := 5) (v := .ref a_t_waiting) (C := RX5) (T := TX5) (N := 17) hx hb hts in_X5_release_X5 hown hK hP 0 rfl rfl 2 (by decide) (hts (.fieldLink RX5 18 "DivisionHall$Reader" "waiting" "[I") (by decide +kernel)) (fun _ h9 => h9) rfl dX5_release_23 ?_
        refine lv_aload_n hx hb dX5_release_26 rfl (lv_at hl 0 rfl) ?_
        refine va_get (D := D) (ci := 5) (v := .int t_waits) (C := RX5) (T := TX5) (N := 17) hx hb hts in_X5_release_X5 hown hK hP 0 rfl rfl 5 (by decide) (hts (.fieldLink RX5 31 "DivisionHall$Reader" "waits" "I") (by decide +kernel)) (fun _ h9 => h9) rfl dX5_release_27 ?_
        refine lv_iconst (v := (1 : Int32)) hx hb dX5_release_30 (by decide) ?_
        refine lv_isub hx hb dX5_release_31 ?_
        obtain ⟨hi5, hf⟩ := gin_s hf
        refine va_iald hx hb hK hP 2 0 rfl rfl hi5 dX5_release_32 ?_
        refine lv_istore_n (lv' := [(3, .int (t_waiting_r ((t_waits - (1 : Int32))).toNatClampNeg)), (0, .ref a_t), (1, .int x1), (2, .int x2)]) hx hb dX5_release_33 rfl hl (by decide) rfl (fun ls hl => ?_)
        refine lv_iload_n hx hb dX5_release_34 rfl (lv_at hl 0 rfl) ?_
        obtain ⟨r6, hr7, hf⟩ := bnd hf
        refine wcalli (D := D) (cI := cI) (cZ := cZ) (cR := cR) (wc := (wd_X8_rank cI cZ cR)) (w' := (wd_X8_rank cI cZ cR)) [] hP hD hS hA rfl rfl rfl (rnS (As := [.int (t_waiting_r ((t_waits - (1 : Int32))).toNatClampNeg)]) X [] hK hP hD rfl rfl (c_X8_rank l D cI cZ cR hr7) ⟨callB_of 1 hts ggX5_release_X8_rank rfl rfl rfl (hts (.initialized RX8) (by decide +kernel)) (hts (.methodLink RX5 156 yX8_rank) (by decide +kernel)) (by decide +kernel) ⟨Nat.le_of_ble_eq_true rfl, Nat.le_of_ble_eq_true rfl⟩, hts (.static yX8_rank) (by decide +kernel)⟩ rfl hl.1 rfl (Nat.le_of_ble_eq_true rfl) dX5_release_35) (fun H locs hP hD hS => ?_)
        have hP : va_P D vwCl (wd_X5_release cI cZ cR a_t a_t_text a_t_code a_t_waiting t_length t_codes t_waits t_fault t_faultPlace t_at t_place t_sign t_number t_state t_name t_compared t_open t_parentheses t_code_r t_waiting_r) H := hP
        have hD : va_D A (wd_X5_release cI cZ cR a_t a_t_text a_t_code a_t_waiting t_length t_codes t_waits t_fault t_faultPlace t_at t_place t_sign t_number t_state t_name t_compared t_open t_parentheses t_code_r t_waiting_r) := hD
        refine lv_iload_n hx hb dX5_release_38 rfl (lv_at hl 2 rfl) ?_
        refine lv_icmp_ge (tgt := 43) hx hb dX5_release_39 (by decide) (fun c8 => ?_) (fun c8 => ?_)
        · have hf := ipos c8 hf
          refine lv_aload_n hx hb dX5_release_43 rfl (lv_at hl 1 rfl) ?_
          refine lv_dup hx hb dX5_release_44 rfl ?_
          refine va_get (D := D) (ci := 5) (v := .int t_waits) (C := RX5) (T := TX5) (N := 17) hx hb hts in_X5_release_X5 hown hK hP 0 rfl rfl 5 (by decide) (hts (.fieldLink RX5 31 "DivisionHall$Reader" "waits" "I") (by decide +kernel)) (fun _ h9 => h9) rfl dX5_release_45 ?_
          refine lv_iconst (v := (1 : Int32)) hx hb dX5_release_48 (by decide) ?_
          refine lv_isub hx hb dX5_release_49 ?_
          refine va_put (D := D) (ci := 5) (v := .int (t_waits - (1 : Int32))) (ty := .int) (C := RX5) (T := TX5) (N := 17) hx hb hts in_X5_release_X5 tyX5 tyX5_ok nmX5 hown hK hP hD hS 0 rfl rfl 5 (by decide) (hts (.fieldLink RX5 31 "DivisionHall$Reader" "waits" "I") (by decide +kernel)) (fun _ h9 => h9) rfl (by decide +kernel) rfl rfl (Nat.le_of_ble_eq_true rfl) dX5_release_50 (fun H locs hP hD hS => ?_)
          have hP : va_P D vwCl (wd_X5_release cI cZ cR a_t a_t_text a_t_code a_t_waiting t_length t_codes (t_waits - (1 : Int32)) t_fault t_faultPlace t_at t_place t_sign t_number t_state t_name t_compared t_open t_parentheses t_code_r t_waiting_r) H := hP
          have hD : va_D A (wd_X5_release cI cZ cR a_t a_t_text a_t_code a_t_waiting t_length t_codes (t_waits - (1 : Int32)) t_fault t_faultPlace t_at t_place t_sign t_number t_state t_name t_compared t_open t_parentheses t_code_r t_waiting_r) := hD
          refine lv_iload_n hx hb dX5_release_53 rfl (lv_at hl 0 rfl) ?_
          refine lv_bipush (v := (14 : Int32)) hx hb dX5_release_54 (by decide) ?_
          refine lv_icmp_ne (tgt := 69) hx hb dX5_release_56 (by decide) (fun c9 => ?_) (fun c9 => ?_)
          · have hf := ineg c9 hf
            exact w_X5_release_69 X hK hA ih x2 (t_waiting_r ((t_waits - (1 : Int32))).toNatClampNeg) t_codes t_open (t_waits - (1 : Int32)) t_code_r hf _ _ hP hD hS _ (lv_sub hl [1, 2, 3, 0] rfl)
          · have hf := ipos c9 hf
            refine lv_aload_n hx hb dX5_release_59 rfl (lv_at hl 1 rfl) ?_
            refine lv_dup hx hb dX5_release_60 rfl ?_
            refine va_get (D := D) (ci := 5) (v := .int t_open) (C := RX5) (T := TX5) (N := 17) hx hb hts in_X5_release_X5 hown hK hP 0 rfl rfl 15 (by decide) (hts (.fieldLink RX5 44 "DivisionHall$Reader" "open" "I") (by decide +kernel)) (fun _ h9 => h9) rfl dX5_release_61 ?_
            refine lv_iconst (v := (1 : Int32)) hx hb dX5_release_64 (by decide) ?_
            refine lv_isub hx hb dX5_release_65 ?_
            refine va_put (D := D) (ci := 5) (v := .int (t_open - (1 : Int32))) (ty := .int) (C := RX5) (T := TX5) (N := 17) hx hb hts in_X5_release_X5 tyX5 tyX5_ok nmX5 hown hK hP hD hS 0 rfl rfl 15 (by decide) (hts (.fieldLink RX5 44 "DivisionHall$Reader" "open" "I") (by decide +kernel)) (fun _ h9 => h9) rfl (by decide +kernel) rfl rfl (Nat.le_of_ble_eq_true rfl) dX5_release_66 (fun H locs hP hD hS => ?_)
            have hP : va_P D vwCl (wd_X5_release cI cZ cR a_t a_t_text a_t_code a_t_waiting t_length t_codes (t_waits - (1 : Int32)) t_fault t_faultPlace t_at t_place t_sign t_number t_state t_name t_compared (t_open - (1 : Int32)) t_parentheses t_code_r t_waiting_r) H := hP
            have hD : va_D A (wd_X5_release cI cZ cR a_t a_t_text a_t_code a_t_waiting t_length t_codes (t_waits - (1 : Int32)) t_fault t_faultPlace t_at t_place t_sign t_number t_state t_name t_compared (t_open - (1 : Int32)) t_parentheses t_code_r t_waiting_r) := hD
            exact w_X5_release_69 X hK hA ih x2 (t_waiting_r ((t_waits - (1 : Int32))).toNatClampNeg) t_codes (t_open - (1 : Int32)) (t_waits - (1 : Int32)) t_code_r hf _ _ hP hD hS _ (lv_sub hl [1, 2, 3, 0] rfl)
        · have hf := ineg c8 hf
          cases hf
          exact retv X hK hP hD hS dX5_release_42
set_option maxHeartbeats 4000000 in
set_option maxRecDepth 100000 in
theorem c_X5_release (l : Launch) (D : va_G) (cI cZ cR : ClassId) {a_t a_t_text a_t_code a_t_waiting : Nat} {t_length : Int32} {t_codes : Int32} {t_waits : Int32} {t_fault : Int32} {t_faultPlace : Int32} {t_at : Int32} {t_place : Int32} {t_sign : Int32} {t_number : Int32} {t_state : Int32} {t_name : Int32} {t_compared : Int32} {t_open : Int32} {t_parentheses : Int32} {t_code_r : Nat → Int32} {t_waiting_r : Nat → Int32} {x1 : Int32} {sz : Nat} {out : Int32 × Int32 × Int32 × (Nat → Int32)} (hf : F_X5_release x1 t_codes t_open t_waits t_code_r t_waiting_r = some out) : CV l yX5_release wsX5_release ({ frames := 2, cells := 0, slots := 0, locals := 43 } : Room) D cI cZ cR [.ref a_t, .int x1] (wd_X5_release cI cZ cR a_t a_t_text a_t_code a_t_waiting t_length t_codes t_waits t_fault t_faultPlace t_at t_place t_sign t_number t_state t_name t_compared t_open t_parentheses t_code_r t_waiting_r) sz (wd_X5_release cI cZ cR a_t a_t_text a_t_code a_t_waiting t_length (out.1) (out.2.2.1) t_fault t_faultPlace t_at t_place t_sign t_number t_state t_name t_compared (out.2.1) t_parentheses (out.2.2.2) t_waiting_r) := by
  refine met_of (Qf := fun A => qv D cI cZ cR A (wd_X5_release cI cZ cR a_t a_t_text a_t_code a_t_waiting t_length (out.1) (out.2.2.1) t_fault t_faultPlace t_at t_place t_sign t_number t_state t_name t_compared (out.2.1) t_parentheses (out.2.2.2) t_waiting_r)) RX5 (by decide +kernel) rfl rfl (Nat.le_of_ble_eq_true rfl) ?_
  intro p e s m below meth c A X hK hA hP hD hS ls hl
  have hl : lv_has ls 4 [(0, .ref a_t), (1, .int x1)] := hl
  obtain ⟨hx, hb, hml, hr, hown, hts, hlocks, hN⟩ := id X
  unfold F_X5_release at hf
  refine lv_iconst (v := (0 : Int32)) hx hb dX5_release_0 (by decide) ?_
  refine lv_istore_n (lv' := [(2, .int (0 : Int32)), (0, .ref a_t), (1, .int x1)]) hx hb dX5_release_1 rfl hl (by decide) rfl (fun ls hl => ?_)
  exact w_X5_release_2 X hK hA _ (0 : Int32) t_codes t_open t_waits t_code_r hf _ _ hP hD hS _ (lv_sub hl [1, 2, 0] rfl)

abbrev wd_X5_stop (cI cZ cR : ClassId) (a_t a_t_text a_t_code a_t_waiting : Nat) (t_length t_codes t_waits t_fault t_faultPlace t_at t_place t_sign t_number t_state t_name t_compared t_open t_parentheses : Int32) : va_W := [(a_t, oB 5 [.ref a_t_text, .ref a_t_code, .ref a_t_waiting, .int t_length, .int t_codes, .int t_waits, .int t_fault, .int t_faultPlace, .int t_at, .int t_place, .int t_sign, .int t_number, .int t_state, .int t_name, .int t_compared, .int t_open, .int t_parentheses])]
set_option maxRecDepth 100000 in
theorem in_X5_stop_X5 : ∀ w ∈ wsX50, w ∈ wsX5_stop := by decide +kernel
set_option maxHeartbeats 4000000 in
set_option maxRecDepth 100000 in
theorem c_X5_stop (l : Launch) (D : va_G) (cI cZ cR : ClassId) {a_t a_t_text a_t_code a_t_waiting : Nat} {t_length : Int32} {t_codes : Int32} {t_waits : Int32} {t_fault : Int32} {t_faultPlace : Int32} {t_at : Int32} {t_place : Int32} {t_sign : Int32} {t_number : Int32} {t_state : Int32} {t_name : Int32} {t_compared : Int32} {t_open : Int32} {t_parentheses : Int32} {x1 : Int32} {sz : Nat} {out : Int32 × Int32 × Int32} (hf : F_X5_stop x1 t_fault t_faultPlace t_place t_state = some out) : CV l yX5_stop wsX5_stop ({ frames := 0, cells := 0, slots := 0, locals := 0 } : Room) D cI cZ cR [.ref a_t, .int x1] (wd_X5_stop cI cZ cR a_t a_t_text a_t_code a_t_waiting t_length t_codes t_waits t_fault t_faultPlace t_at t_place t_sign t_number t_state t_name t_compared t_open t_parentheses) sz (wd_X5_stop cI cZ cR a_t a_t_text a_t_code a_t_waiting t_length t_codes t_waits (out.1) (out.2.1) t_at t_place t_sign t_number (out.2.2) t_name t_compared t_open t_parentheses) := by
  refine met_of (Qf := fun A => qv D cI cZ cR A (wd_X5_stop cI cZ cR a_t a_t_text a_t_code a_t_waiting t_length t_codes t_waits (out.1) (out.2.1) t_at t_place t_sign t_number (out.2.2) t_name t_compared t_open t_parentheses)) RX5 (by decide +kernel) rfl rfl (Nat.le_of_ble_eq_true rfl) ?_
  intro p e s m below meth c A X hK hA hP hD hS ls hl
  have hl : lv_has ls 2 [(0, .ref a_t), (1, .int x1)] := hl
  obtain ⟨hx, hb, hml, hr, hown, hts, hlocks, hN⟩ := id X
  unfold F_X5_stop at hf
  refine lv_aload_n hx hb dX5_stop_0 rfl (lv_at hl 0 rfl) ?_
  refine lv_iload_n hx hb dX5_stop_1 rfl (lv_at hl 1 rfl) ?_
  refine va_put (D := D) (ci := 5) (v := .int x1) (ty := .int) (C := RX5) (T := TX5) (N := 17) hx hb hts in_X5_stop_X5 tyX5 tyX5_ok nmX5 hown hK hP hD hS 0 rfl rfl 6 (by decide) (hts (.fieldLink RX5 34 "DivisionHall$Reader" "fault" "I") (by decide +kernel)) (fun _ h9 => h9) rfl (by decide +kernel) rfl rfl (Nat.le_of_ble_eq_true rfl) dX5_stop_2 (fun H locs hP hD hS => ?_)
  have hP : va_P D vwCl (wd_X5_stop cI cZ cR a_t a_t_text a_t_code a_t_waiting t_length t_codes t_waits x1 t_faultPlace t_at t_place t_sign t_number t_state t_name t_compared t_open t_parentheses) H := hP
  have hD : va_D A (wd_X5_stop cI cZ cR a_t a_t_text a_t_code a_t_waiting t_length t_codes t_waits x1 t_faultPlace t_at t_place t_sign t_number t_state t_name t_compared t_open t_parentheses) := hD
  refine lv_aload_n hx hb dX5_stop_5 rfl (lv_at hl 0 rfl) ?_
  refine lv_aload_n hx hb dX5_stop_6 rfl (lv_at hl 0 rfl) ?_
  refine va_get (D := D) (ci := 5) (v := .int t_place) (C := RX5) (T := TX5) (N := 17) hx hb hts in_X5_stop_X5 hown hK hP 0 rfl rfl 9 (by decide) (hts (.fieldLink RX5 59 "DivisionHall$Reader" "place" "I") (by decide +kernel)) (fun _ h9 => h9) rfl dX5_stop_7 ?_
  refine va_put (D := D) (ci := 5) (v := .int t_place) (ty := .int) (C := RX5) (T := TX5) (N := 17) hx hb hts in_X5_stop_X5 tyX5 tyX5_ok nmX5 hown hK hP hD hS 0 rfl rfl 7 (by decide) (hts (.fieldLink RX5 21 "DivisionHall$Reader" "faultPlace" "I") (by decide +kernel)) (fun _ h9 => h9) rfl (by decide +kernel) rfl rfl (Nat.le_of_ble_eq_true rfl) dX5_stop_10 (fun H locs hP hD hS => ?_)
  have hP : va_P D vwCl (wd_X5_stop cI cZ cR a_t a_t_text a_t_code a_t_waiting t_length t_codes t_waits x1 t_place t_at t_place t_sign t_number t_state t_name t_compared t_open t_parentheses) H := hP
  have hD : va_D A (wd_X5_stop cI cZ cR a_t a_t_text a_t_code a_t_waiting t_length t_codes t_waits x1 t_place t_at t_place t_sign t_number t_state t_name t_compared t_open t_parentheses) := hD
  refine lv_aload_n hx hb dX5_stop_13 rfl (lv_at hl 0 rfl) ?_
  refine lv_bipush (v := (8 : Int32)) hx hb dX5_stop_14 (by decide) ?_
  refine va_put (D := D) (ci := 5) (v := .int (8 : Int32)) (ty := .int) (C := RX5) (T := TX5) (N := 17) hx hb hts in_X5_stop_X5 tyX5 tyX5_ok nmX5 hown hK hP hD hS 0 rfl rfl 12 (by decide) (hts (.fieldLink RX5 50 "DivisionHall$Reader" "state" "I") (by decide +kernel)) (fun _ h9 => h9) rfl (by decide +kernel) rfl rfl (Nat.le_of_ble_eq_true rfl) dX5_stop_16 (fun H locs hP hD hS => ?_)
  have hP : va_P D vwCl (wd_X5_stop cI cZ cR a_t a_t_text a_t_code a_t_waiting t_length t_codes t_waits x1 t_place t_at t_place t_sign t_number (8 : Int32) t_name t_compared t_open t_parentheses) H := hP
  have hD : va_D A (wd_X5_stop cI cZ cR a_t a_t_text a_t_code a_t_waiting t_length t_codes t_waits x1 t_place t_at t_place t_sign t_number (8 : Int32) t_name t_compared t_open t_parentheses) := hD
  cases hf
  exact retv X hK hP hD hS dX5_stop_19
